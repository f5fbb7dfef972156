/-! THE w ROAD. Memory by Ints: J cell slot (ints and booleans), L cell slot (longs). A method's w: what must hold so that it ends with Q; v: then its contract holds -/
abbrev zM : Type := Nat → Int → Int
abbrev yM : Type := Nat → Int → Int64
def oI (z : Int) : Int32 := Int32.ofInt z
def zi (J : zM) : Nat → Nat → Int32 := fun a k => oI (J a (k : Int))
def li (L : yM) : Nat → Nat → Int64 := fun a k => L a (k : Int)
abbrev R32 (z : Int) : Prop := -2147483648 ≤ z ∧ z < 2147483648
abbrev B01 (z : Int) : Prop := z = 0 ∨ z = 1
def zs (J : zM) (a : Nat) (i v : Int) : zM := fun c k => if c = a ∧ k = i then v else J c k
def ys (L : yM) (a : Nat) (i : Int) (v : Int64) : yM := fun c k => if c = a ∧ k = i then v else L c k
def zcp (J : zM) (a : Nat) (sp : Int) (b : Nat) (dp n : Int) : zM := fun c k => if c = b ∧ dp ≤ k ∧ k < dp + n then J a (sp + (k - dp)) else J c k
def zand (x y : Int) : Int := (oI x &&& oI y).toInt
def zor (x y : Int) : Int := (oI x ||| oI y).toInt
def zxor (x y : Int) : Int := (oI x ^^^ oI y).toInt
def zshl (x y : Int) : Int := (oI x <<< (oI y &&& 31)).toInt
def zshr (x y : Int) : Int := (oI x >>> (oI y &&& 31)).toInt
def zush (x y : Int) : Int := (us (oI x) (oI y)).toInt
def zdiv (x y : Int) : Int := (oI x / oI y).toInt
def zrem (x y : Int) : Int := (oI x - oI x / oI y * oI y).toInt
def zl2i (x : Int64) : Int := x.toInt32.toInt
def zi2l (x : Int) : Int64 := (oI x).toInt64
def zcmp (x y : Int64) : Int := (lg_cmp x y).toInt
def yshl (x : Int64) (y : Int) : Int64 := x <<< ((oI y).toInt64 &&& 63)
def yshr (x : Int64) (y : Int) : Int64 := x >>> ((oI y).toInt64 &&& 63)
def yush (x : Int64) (y : Int) : Int64 := (Int64.toUInt64 x >>> ((oI y).toInt64.toUInt64 &&& Int64.toUInt64 63)).toInt64
def yrem (x y : Int64) : Int64 := x - x / y * y
theorem oI_add (x y : Int) : oI x + oI y = oI (x + y) := (Int32.ofInt_add x y).symm
theorem oI_sub (x y : Int) : oI x - oI y = oI (x - y) := (Int32.ofInt_sub x y).symm
theorem oI_mul (x y : Int) : oI x * oI y = oI (x * y) := (Int32.ofInt_mul x y).symm
theorem oI_neg (x : Int) : -oI x = oI (-x) := (Int32.ofInt_neg x).symm
theorem oI_of (x : Int32) : oI x.toInt = x := Int32.ofInt_toInt x
theorem oI_toInt {z : Int} (h : R32 z) : (oI z).toInt = z := Int32.toInt_ofInt_of_le (by simpa using h.1) (by simpa using h.2)
theorem oI_eq {a b : Int} (ha : R32 a) (hb : R32 b) : oI a = oI b ↔ a = b := by
  rw [← Int32.toInt_inj, oI_toInt ha, oI_toInt hb]
theorem oI_lt {a b : Int} (ha : R32 a) (hb : R32 b) : oI a < oI b ↔ a < b := by
  rw [Int32.lt_iff_toInt_lt, oI_toInt ha, oI_toInt hb]
theorem oI_le {a b : Int} (ha : R32 a) (hb : R32 b) : oI a ≤ oI b ↔ a ≤ b := by
  rw [Int32.le_iff_toInt_le, oI_toInt ha, oI_toInt hb]
theorem oI_0 : oI 0 = 0 := rfl
theorem oI_nat (k : Nat) : oI (k : Int) = nI k := rfl
theorem R32_of (x : Int32) : R32 x.toInt := ⟨by simpa using Int32.le_toInt x, by simpa using Int32.toInt_lt x⟩
theorem oI_clamp {i : Int} (h0 : 0 ≤ i) (h1 : i < 2147483648) : (oI i).toNatClampNeg = i.toNat := by
  obtain ⟨k, rfl⟩ := Int.eq_ofNat_of_zero_le h0
  exact nI_clamp (by omega)
theorem oI_in {i : Int} {N : Nat} (h : 0 ≤ i ∧ i < (N : Int)) (hN : N < 2 ^ 31) : vp_in (oI i) N := by
  obtain ⟨k, rfl⟩ := Int.eq_ofNat_of_zero_le h.1
  exact vp_in_nI (by omega) hN
theorem zi_at (J : zM) (a : Nat) {i : Int} (h : 0 ≤ i) : zi J a i.toNat = oI (J a i) := by
  unfold zi
  rw [Int.toNat_of_nonneg h]
theorem li_at (L : yM) (a : Nat) {i : Int} (h : 0 ≤ i) : li L a i.toNat = L a i := by
  unfold li
  rw [Int.toNat_of_nonneg h]
theorem zi_s (J : zM) (a : Nat) {i : Int} (v : Int) (h : 0 ≤ i) : zi (zs J a i v) = xu (zi J) a i.toNat (oI v) := by
  funext c k
  unfold zi zs xu
  by_cases e : c = a ∧ k = i.toNat
  · rw [if_pos ⟨e.1, by omega⟩, if_pos e]
  · rw [if_neg (fun q => e ⟨q.1, by omega⟩), if_neg e]
theorem li_s (L : yM) (a : Nat) {i : Int} (v : Int64) (h : 0 ≤ i) : li (ys L a i v) = xu (li L) a i.toNat v := by
  funext c k
  unfold li ys xu
  by_cases e : c = a ∧ k = i.toNat
  · rw [if_pos ⟨e.1, by omega⟩, if_pos e]
  · rw [if_neg (fun q => e ⟨q.1, by omega⟩), if_neg e]
theorem zi_cp (J : zM) (a b : Nat) {sp dp n : Int} (h1 : 0 ≤ sp) (h2 : 0 ≤ dp) (h3 : 0 ≤ n) : zi (zcp J a sp b dp n) = va_up (zi J) b (va_cpy (zi J a) (zi J b) sp.toNat dp.toNat n.toNat) := by
  funext c k
  unfold zi zcp va_up va_cpy
  by_cases e : c = b
  · subst e
    simp only [true_and, if_true]
    by_cases e2 : dp ≤ (k : Int) ∧ (k : Int) < dp + n
    · rw [if_pos e2, if_pos (by omega)]
      congr 2
      omega
    · rw [if_neg e2, if_neg (by omega)]
  · rw [if_neg (fun q => e q.1), if_neg e]
theorem ifp {c A B : Prop} [Decidable c] (h : if c then A else B) (hc : c) : A := by rwa [if_pos hc] at h
theorem ifn {c A B : Prop} [Decidable c] (h : if c then A else B) (hc : ¬ c) : B := by rwa [if_neg hc] at h
def zQ0 (n : Nat) (R : Nat → Nat → Option Nat) (Q : zM → yM → Prop) : Option Value → xM → Prop := fun v M => ∃ (J : zM) (L : yM), v = none ∧ M = (n, R, zi J, li L) ∧ Q J L
def zQ1 (n : Nat) (R : Nat → Nat → Option Nat) (Q : Int → zM → yM → Prop) : Option Value → xM → Prop := fun v M => ∃ (r : Int) (J : zM) (L : yM), v = some (.int (oI r)) ∧ M = (n, R, zi J, li L) ∧ Q r J L
def zQ2 (n : Nat) (R : Nat → Nat → Option Nat) (Q : Int64 → zM → yM → Prop) : Option Value → xM → Prop := fun v M => ∃ (r : Int64) (J : zM) (L : yM), v = some (.long r) ∧ M = (n, R, zi J, li L) ∧ Q r J L
def zQ3 (n : Nat) (R : Nat → Nat → Option Nat) (Q : Nat → zM → yM → Prop) : Option Value → xM → Prop := fun v M => ∃ (r : Nat) (J : zM) (L : yM), v = some (.ref r) ∧ M = (n, R, zi J, li L) ∧ Q r J L
def zQx (n : Nat) (R : Nat → Nat → Option Nat) (X : String → zM → yM → Prop) : String → xM → Prop := fun E M => ∃ (J : zM) (L : yM), M = (n, R, zi J, li L) ∧ X E J L
/-! addresses -/
def sd (i : Int) : Nat := 139 + 176 * i.toNat
def nt (i : Int) : Nat := 11 + 64 * i.toNat
def wy (e : Nat) : Nat := if e = 139 then 75 else 11
def rq (r : Nat) : Nat := if r < 139 then 60 else 100
def rw0 (r : Nat) : Nat := if r < 139 then 500 else 60
abbrev iRows (r : Nat) : Prop := r = 11 ∨ r = 75 ∨ r = 177 ∨ r = 353
abbrev iSide (e : Nat) : Prop := e = 139 ∨ e = 315
abbrev za (a : Nat) : Prop := kd0 a = 13 ∧ a < 491
theorem sd_he {i : Int} (h : 0 ≤ i ∧ i < 2) : iSide (sd i) := by unfold sd iSide; omega
theorem nt_hr {i : Int} (h : 0 ≤ i ∧ i < 2) : iRows (nt i) := by unfold nt iRows; omega
theorem wy_hr {e : Nat} (h : iSide e) : iRows (wy e) := by rcases h with rfl | rfl <;> decide
theorem wr_hr {e : Nat} (h : iSide e) : iRows (e + 38) := by unfold iSide at h; unfold iRows; omega
theorem lt491 {n a : Nat} (hn : 491 ≤ n) (h : a < 491) : a < n := Nat.lt_of_lt_of_le h hn
theorem za_mk {a : Nat} (h : kd0 a = 13) (h2 : a < 491) : za a := ⟨h, h2⟩
theorem ln_big : ∀ q ∈ lnT, q < 2 ^ 31 := by decide +kernel
theorem ln0_lt (a : Nat) : ln0 a < 2 ^ 31 := by
  unfold ln0
  by_cases h : a < lnT.length
  · rw [List.getD_eq_getElem?_getD, List.getElem?_eq_getElem h]
    exact ln_big _ (List.getElem_mem h)
  · rw [List.getD_eq_getElem?_getD, List.getElem?_eq_none (by omega)]
    decide
theorem rows_kd {r : Nat} (h : iRows r) : kd0 r = 4 ∧ kd0 (r + 1) = 16 ∧ kd0 (r + 2 + rq r) = 13 ∧ kd0 (r + 3 + rq r) = 13 := by rcases h with rfl | rfl | rfl | rfl <;> decide +kernel
theorem rows_ln {r : Nat} (h : iRows r) : ln0 (r + 1) = rq r ∧ ln0 (r + 2 + rq r) = rq r ∧ ln0 (r + 3 + rq r) = rq r := by rcases h with rfl | rfl | rfl | rfl <;> decide +kernel
theorem rows_lt {r : Nat} (h : iRows r) : r + 3 + rq r < 491 := by rcases h with rfl | rfl | rfl | rfl <;> decide +kernel
theorem rows_lt0 {r : Nat} (h : iRows r) : r < 491 := Nat.lt_of_le_of_lt (by omega) (rows_lt h)
theorem rows_lt1 {r : Nat} (h : iRows r) : r + 1 < 491 := Nat.lt_of_le_of_lt (by omega) (rows_lt h)
theorem rows_lt2 {r : Nat} (h : iRows r) : r + 2 + rq r < 491 := Nat.lt_of_le_of_lt (by omega) (rows_lt h)
theorem rows_R0 : ∀ r ∈ [11, 75, 177, 353], (r, 2, r + 1) ∈ refT ∧ (r, 3, r + 2 + rq r) ∈ refT ∧ (r, 4, r + 3 + rq r) ∈ refT := by decide +kernel
theorem rows_mem {r : Nat} (h : iRows r) : r ∈ [11, 75, 177, 353] := by rcases h with rfl | rfl | rfl | rfl <;> decide
theorem rows_2 {R : Nat → Nat → Option Nat} (hR : xRk R) {r : Nat} (h : iRows r) : R r 2 = some (r + 1) := fam_r hR (rows_R0 r (rows_mem h)).1
theorem rows_3 {R : Nat → Nat → Option Nat} (hR : xRk R) {r : Nat} (h : iRows r) : R r 3 = some (r + 2 + rq r) := fam_r hR (rows_R0 r (rows_mem h)).2.1
theorem rows_4 {R : Nat → Nat → Option Nat} (hR : xRk R) {r : Nat} (h : iRows r) : R r 4 = some (r + 3 + rq r) := fam_r hR (rows_R0 r (rows_mem h)).2.2
theorem rows_row {r i : Nat} (h : iRows r) (hi : i < rq r) : (r + 1, i, r + 2 + i) ∈ refT ∧ kd0 (r + 2 + i) = 13 ∧ ln0 (r + 2 + i) = rw0 r := by
  rcases h with rfl | rfl | rfl | rfl
  · exact fam_12 i hi
  · exact fam_76 i hi
  · exact fam_178 i hi
  · exact fam_354 i hi
theorem rowsI {R : Nat → Nat → Option Nat} (hR : xRk R) {r : Nat} (h : iRows r) {i : Int} (hi : 0 ≤ i ∧ i < (rq r : Int)) : R (r + 1) i.toNat = some (r + 2 + i.toNat) ∧ (kd0 (r + 2 + i.toNat) = 13 ∧ r + 2 + i.toNat < 491) ∧ ln0 (r + 2 + i.toNat) = rw0 r := by
  have h1 := rows_row h (i := i.toNat) (by omega)
  have h2 := rows_lt h
  exact ⟨fam_r hR h1.1, ⟨h1.2.1, by omega⟩, h1.2.2⟩
theorem famS_21 {R : Nat → Nat → Option Nat} (hR : xRk R) {e : Nat} (he : iSide e) {i : Int} (hi : 0 ≤ i ∧ i < 5) : R (e + 21) i.toNat = some (e + 22 + i.toNat) ∧ (kd0 (e + 22 + i.toNat) = 13 ∧ e + 22 + i.toNat < 491) ∧ ln0 (e + 22 + i.toNat) = 152 := by
  have hk : i.toNat < 5 := by omega
  rcases he with rfl | rfl
  · exact ⟨fam_r hR (fam_160 _ hk).1, ⟨(fam_160 _ hk).2.1, by omega⟩, (fam_160 _ hk).2.2⟩
  · exact ⟨fam_r hR (fam_336 _ hk).1, ⟨(fam_336 _ hk).2.1, by omega⟩, (fam_336 _ hk).2.2⟩
theorem famS_27 {R : Nat → Nat → Option Nat} (hR : xRk R) {e : Nat} (he : iSide e) {i : Int} (hi : 0 ≤ i ∧ i < 5) : R (e + 27) i.toNat = some (e + 28 + i.toNat) ∧ (kd0 (e + 28 + i.toNat) = 13 ∧ e + 28 + i.toNat < 491) ∧ ln0 (e + 28 + i.toNat) = 152 := by
  have hk : i.toNat < 5 := by omega
  rcases he with rfl | rfl
  · exact ⟨fam_r hR (fam_166 _ hk).1, ⟨(fam_166 _ hk).2.1, by omega⟩, (fam_166 _ hk).2.2⟩
  · exact ⟨fam_r hR (fam_342 _ hk).1, ⟨(fam_342 _ hk).2.1, by omega⟩, (fam_342 _ hk).2.2⟩
theorem famS_36 {R : Nat → Nat → Option Nat} (hR : xRk R) {e : Nat} (he : iSide e) {i : Int} (hi : 0 ≤ i ∧ i < 4) : R (e + 36) i.toNat = some (e + 172 + i.toNat) ∧ (kd0 (e + 172 + i.toNat) = 10 ∧ e + 172 + i.toNat < 491) ∧ ln0 (e + 172 + i.toNat) = 0 := by
  have hk : i.toNat < 4 := by omega
  rcases he with rfl | rfl
  · exact ⟨fam_r hR (fam_175 _ hk).1, ⟨(fam_175 _ hk).2.1, by omega⟩, (fam_175 _ hk).2.2⟩
  · exact ⟨fam_r hR (fam_351 _ hk).1, ⟨(fam_351 _ hk).2.1, by omega⟩, (fam_351 _ hk).2.2⟩
theorem famS_145 {R : Nat → Nat → Option Nat} (hR : xRk R) {e : Nat} (he : iSide e) {i : Int} (hi : 0 ≤ i ∧ i < 6) : R (e + 145) i.toNat = some (e + 146 + i.toNat) ∧ (kd0 (e + 146 + i.toNat) = 13 ∧ e + 146 + i.toNat < 491) ∧ ln0 (e + 146 + i.toNat) = 32 := by
  have hk : i.toNat < 6 := by omega
  rcases he with rfl | rfl
  · exact ⟨fam_r hR (fam_284 _ hk).1, ⟨(fam_284 _ hk).2.1, by omega⟩, (fam_284 _ hk).2.2⟩
  · exact ⟨fam_r hR (fam_460 _ hk).1, ⟨(fam_460 _ hk).2.1, by omega⟩, (fam_460 _ hk).2.2⟩
theorem famS_152 {R : Nat → Nat → Option Nat} (hR : xRk R) {e : Nat} (he : iSide e) {i : Int} (hi : 0 ≤ i ∧ i < 4) : R (e + 152) i.toNat = some (e + 153 + i.toNat) ∧ (kd0 (e + 153 + i.toNat) = 13 ∧ e + 153 + i.toNat < 491) ∧ ln0 (e + 153 + i.toNat) = 32 := by
  have hk : i.toNat < 4 := by omega
  rcases he with rfl | rfl
  · exact ⟨fam_r hR (fam_291 _ hk).1, ⟨(fam_291 _ hk).2.1, by omega⟩, (fam_291 _ hk).2.2⟩
  · exact ⟨fam_r hR (fam_467 _ hk).1, ⟨(fam_467 _ hk).2.1, by omega⟩, (fam_467 _ hk).2.2⟩
theorem famS_157 {R : Nat → Nat → Option Nat} (hR : xRk R) {e : Nat} (he : iSide e) {i : Int} (hi : 0 ≤ i ∧ i < 4) : R (e + 157) i.toNat = some (e + 158 + i.toNat) ∧ (kd0 (e + 158 + i.toNat) = 13 ∧ e + 158 + i.toNat < 491) ∧ ln0 (e + 158 + i.toNat) = 32 := by
  have hk : i.toNat < 4 := by omega
  rcases he with rfl | rfl
  · exact ⟨fam_r hR (fam_296 _ hk).1, ⟨(fam_296 _ hk).2.1, by omega⟩, (fam_296 _ hk).2.2⟩
  · exact ⟨fam_r hR (fam_472 _ hk).1, ⟨(fam_472 _ hk).2.1, by omega⟩, (fam_472 _ hk).2.2⟩
theorem sdI {R : Nat → Nat → Option Nat} (hR : xRk R) {i : Int} (hi : 0 ≤ i ∧ i < 2) : R 2 i.toNat = some (sd i) := by
  have h : i = 0 ∨ i = 1 := by omega
  rcases h with rfl | rfl
  · exact r_2_0 hR
  · exact r_2_1 hR
theorem ntI {R : Nat → Nat → Option Nat} (hR : xRk R) {i : Int} (hi : 0 ≤ i ∧ i < 2) : R 1 i.toNat = some (nt i) := by
  have h : i = 0 ∨ i = 1 := by omega
  rcases h with rfl | rfl
  · exact r_1_0 hR
  · exact r_1_1 hR
section ZR
variable {G : xG} {l : Launch} {me : xMe} {mc ms : Nat} {Qv : Option Value → xM → Prop} {Qx : String → xM → Prop} {cells slots pc : Nat} {ls : List (Nat × Value)} {st : List Value} {al : Bool} {n : Nat} {R : Nat → Nat → Option Nat} {J J' : zM} {L L' : yM}
theorem zr_iadd {x y : Int} (hd : decode me.2.1 pc = .ok (.iadd, 1)) (kk : xJ G l me mc ms Qv Qx cells slots (pc + 1) ls (.int (oI (x + y)) :: st) al n R (zi J) (li L)) : xJ G l me mc ms Qv Qx cells slots (pc) ls (.int (oI (y)) :: .int (oI (x)) :: st) al n R (zi J) (li L) := by
  refine xr_iadd hd ?_
  rw [oI_add x y]
  exact kk
theorem zr_isub {x y : Int} (hd : decode me.2.1 pc = .ok (.isub, 1)) (kk : xJ G l me mc ms Qv Qx cells slots (pc + 1) ls (.int (oI (x - y)) :: st) al n R (zi J) (li L)) : xJ G l me mc ms Qv Qx cells slots (pc) ls (.int (oI (y)) :: .int (oI (x)) :: st) al n R (zi J) (li L) := by
  refine xr_isub hd ?_
  rw [oI_sub x y]
  exact kk
theorem zr_imul {x y : Int} (hd : decode me.2.1 pc = .ok (.imul, 1)) (kk : xJ G l me mc ms Qv Qx cells slots (pc + 1) ls (.int (oI (x * y)) :: st) al n R (zi J) (li L)) : xJ G l me mc ms Qv Qx cells slots (pc) ls (.int (oI (y)) :: .int (oI (x)) :: st) al n R (zi J) (li L) := by
  refine xr_imul hd ?_
  rw [oI_mul x y]
  exact kk
theorem zr_iand {x y : Int} (hd : decode me.2.1 pc = .ok (.iand, 1)) (kk : xJ G l me mc ms Qv Qx cells slots (pc + 1) ls (.int (oI (zand x y)) :: st) al n R (zi J) (li L)) : xJ G l me mc ms Qv Qx cells slots (pc) ls (.int (oI (y)) :: .int (oI (x)) :: st) al n R (zi J) (li L) := by
  refine xr_iand hd (xr_eqi _ ?_ kk)
  exact (oI_of _).symm
theorem zr_ior {x y : Int} (hd : decode me.2.1 pc = .ok (.ior, 1)) (kk : xJ G l me mc ms Qv Qx cells slots (pc + 1) ls (.int (oI (zor x y)) :: st) al n R (zi J) (li L)) : xJ G l me mc ms Qv Qx cells slots (pc) ls (.int (oI (y)) :: .int (oI (x)) :: st) al n R (zi J) (li L) := by
  refine xr_ior hd (xr_eqi _ ?_ kk)
  exact (oI_of _).symm
theorem zr_ixor {x y : Int} (hd : decode me.2.1 pc = .ok (.ixor, 1)) (kk : xJ G l me mc ms Qv Qx cells slots (pc + 1) ls (.int (oI (zxor x y)) :: st) al n R (zi J) (li L)) : xJ G l me mc ms Qv Qx cells slots (pc) ls (.int (oI (y)) :: .int (oI (x)) :: st) al n R (zi J) (li L) := by
  refine xr_ixor hd (xr_eqi _ ?_ kk)
  exact (oI_of _).symm
theorem zr_ishl {x y : Int} (hd : decode me.2.1 pc = .ok (.ishl, 1)) (kk : xJ G l me mc ms Qv Qx cells slots (pc + 1) ls (.int (oI (zshl x y)) :: st) al n R (zi J) (li L)) : xJ G l me mc ms Qv Qx cells slots (pc) ls (.int (oI (y)) :: .int (oI (x)) :: st) al n R (zi J) (li L) := by
  refine xr_ishl hd (xr_eqi _ ?_ kk)
  exact (oI_of _).symm
theorem zr_ishr {x y : Int} (hd : decode me.2.1 pc = .ok (.ishr, 1)) (kk : xJ G l me mc ms Qv Qx cells slots (pc + 1) ls (.int (oI (zshr x y)) :: st) al n R (zi J) (li L)) : xJ G l me mc ms Qv Qx cells slots (pc) ls (.int (oI (y)) :: .int (oI (x)) :: st) al n R (zi J) (li L) := by
  refine xr_ishr hd (xr_eqi _ ?_ kk)
  exact (oI_of _).symm
theorem zr_iushr {x y : Int} (hd : decode me.2.1 pc = .ok (.iushr, 1)) (kk : xJ G l me mc ms Qv Qx cells slots (pc + 1) ls (.int (oI (zush x y)) :: st) al n R (zi J) (li L)) : xJ G l me mc ms Qv Qx cells slots (pc) ls (.int (oI (y)) :: .int (oI (x)) :: st) al n R (zi J) (li L) := by
  refine xr_iushr hd (xr_eqi _ ?_ kk)
  exact (oI_of _).symm
theorem zr_idiv {x y : Int} (hd : decode me.2.1 pc = .ok (.idiv, 1)) (hy : R32 y) (h0 : y ≠ 0) (kk : xJ G l me mc ms Qv Qx cells slots (pc + 1) ls (.int (oI (zdiv x y)) :: st) al n R (zi J) (li L)) : xJ G l me mc ms Qv Qx cells slots (pc) ls (.int (oI (y)) :: .int (oI (x)) :: st) al n R (zi J) (li L) := by
  refine xr_idiv hd (fun q => h0 ((oI_eq hy (by decide)).mp q)) (xr_eqi _ ?_ kk)
  exact (oI_of _).symm
theorem zr_irem {x y : Int} (hd : decode me.2.1 pc = .ok (.irem, 1)) (hy : R32 y) (h0 : y ≠ 0) (kk : xJ G l me mc ms Qv Qx cells slots (pc + 1) ls (.int (oI (zrem x y)) :: st) al n R (zi J) (li L)) : xJ G l me mc ms Qv Qx cells slots (pc) ls (.int (oI (y)) :: .int (oI (x)) :: st) al n R (zi J) (li L) := by
  refine xr_irem hd (fun q => h0 ((oI_eq hy (by decide)).mp q)) (xr_eqi _ ?_ kk)
  exact (oI_of _).symm
theorem zr_ineg {x : Int} (hd : decode me.2.1 pc = .ok (.ineg, 1)) (kk : xJ G l me mc ms Qv Qx cells slots (pc + 1) ls (.int (oI (-x)) :: st) al n R (zi J) (li L)) : xJ G l me mc ms Qv Qx cells slots (pc) ls (.int (oI (x)) :: st) al n R (zi J) (li L) := by
  refine xr_ineg hd ?_
  rw [oI_neg]
  exact kk
theorem zr_i2l {x : Int} (hd : decode me.2.1 pc = .ok (.i2l, 1)) (kk : xJ G l me mc ms Qv Qx cells slots (pc + 1) ls (.long (zi2l x) :: st) al n R (zi J) (li L)) : xJ G l me mc ms Qv Qx cells slots (pc) ls (.int (oI (x)) :: st) al n R (zi J) (li L) := xr_i2l hd kk
theorem zr_l2i {x : Int64} (hd : decode me.2.1 pc = .ok (.l2i, 1)) (kk : xJ G l me mc ms Qv Qx cells slots (pc + 1) ls (.int (oI (zl2i x)) :: st) al n R (zi J) (li L)) : xJ G l me mc ms Qv Qx cells slots (pc) ls (.long x :: st) al n R (zi J) (li L) := xr_l2i hd (xr_eqi _ (oI_of _).symm kk)
theorem zr_lcmp {x y : Int64} (hd : decode me.2.1 pc = .ok (.lcmp, 1)) (kk : xJ G l me mc ms Qv Qx cells slots (pc + 1) ls (.int (oI (zcmp x y)) :: st) al n R (zi J) (li L)) : xJ G l me mc ms Qv Qx cells slots (pc) ls (.long y :: .long x :: st) al n R (zi J) (li L) := xr_lcmp hd (xr_eqi _ (oI_of _).symm kk)
theorem zr_lshl {x : Int64} {y : Int} (hd : decode me.2.1 pc = .ok (.lshl, 1)) (kk : xJ G l me mc ms Qv Qx cells slots (pc + 1) ls (.long (yshl x y) :: st) al n R (zi J) (li L)) : xJ G l me mc ms Qv Qx cells slots (pc) ls (.int (oI (y)) :: .long x :: st) al n R (zi J) (li L) := xr_lshl hd kk
theorem zr_lshr {x : Int64} {y : Int} (hd : decode me.2.1 pc = .ok (.lshr, 1)) (kk : xJ G l me mc ms Qv Qx cells slots (pc + 1) ls (.long (yshr x y) :: st) al n R (zi J) (li L)) : xJ G l me mc ms Qv Qx cells slots (pc) ls (.int (oI (y)) :: .long x :: st) al n R (zi J) (li L) := xr_lshr hd kk
theorem zr_lushr {x : Int64} {y : Int} (hd : decode me.2.1 pc = .ok (.lushr, 1)) (kk : xJ G l me mc ms Qv Qx cells slots (pc + 1) ls (.long (yush x y) :: st) al n R (zi J) (li L)) : xJ G l me mc ms Qv Qx cells slots (pc) ls (.int (oI (y)) :: .long x :: st) al n R (zi J) (li L) := xr_lushr hd kk
theorem zr_lrem {x y : Int64} (hd : decode me.2.1 pc = .ok (.lrem, 1)) (h0 : ¬ y = 0) (kk : xJ G l me mc ms Qv Qx cells slots (pc + 1) ls (.long (yrem x y) :: st) al n R (zi J) (li L)) : xJ G l me mc ms Qv Qx cells slots (pc) ls (.long y :: .long x :: st) al n R (zi J) (li L) := xr_lrem hd h0 kk
theorem zr_iinc {i : Nat} {z x : Int} (ls' : List (Nat × Value)) (hd : decode me.2.1 pc = .ok (.iinc i z, 3)) (j : Nat) (hj : ls[j]? = some (i, .int (oI x))) (hn : i < me.2.2.1) (hs : xs1 i (.int (oI (x + z))) ls = ls') (kk : xJ G l me mc ms Qv Qx cells slots (pc + 3) ls' (st) al n R (zi J) (li L)) : xJ G l me mc ms Qv Qx cells slots (pc) ls (st) al n R (zi J) (li L) := xr_iinc ls' hd j hj (oI_add x z) hn hs kk
theorem zr_nm {x x1 : Int} (h : x1 = x) (kk : xJ G l me mc ms Qv Qx cells slots (pc) ls (.int (oI (x1)) :: st) al n R (zi J) (li L)) : xJ G l me mc ms Qv Qx cells slots (pc) ls (.int (oI (x)) :: st) al n R (zi J) (li L) := by subst h; exact kk
theorem zr_nml {x x1 : Int64} (h : x1 = x) (kk : xJ G l me mc ms Qv Qx cells slots (pc) ls (.long x1 :: st) al n R (zi J) (li L)) : xJ G l me mc ms Qv Qx cells slots (pc) ls (.long x :: st) al n R (zi J) (li L) := by subst h; exact kk
theorem zr_icmp_eq {x y : Int} {off : Int} (tgt : Nat) (hd : decode me.2.1 pc = .ok (.if_icmp .eq off, 3)) (ht : (pc : Int) + off = (tgt : Int)) (hx : R32 x) (hy : R32 y) (kt : x = y → xJ G l me mc ms Qv Qx cells slots (tgt) ls (st) al n R (zi J) (li L)) (kf : ¬ x = y → xJ G l me mc ms Qv Qx cells slots (pc + 3) ls (st) al n R (zi J) (li L)) : xJ G l me mc ms Qv Qx cells slots (pc) ls (.int (oI (y)) :: .int (oI (x)) :: st) al n R (zi J) (li L) := xr_icmp_eq tgt hd ht (fun q => kt ((oI_eq hx hy).mp q)) (fun q => kf (fun u => q ((oI_eq hx hy).mpr u)))
theorem zr_if_eq {x : Int} {off : Int} (tgt : Nat) (hd : decode me.2.1 pc = .ok (.ifCond .eq off, 3)) (ht : (pc : Int) + off = (tgt : Int)) (hx : R32 x) (kt : x = 0 → xJ G l me mc ms Qv Qx cells slots (tgt) ls (st) al n R (zi J) (li L)) (kf : ¬ x = 0 → xJ G l me mc ms Qv Qx cells slots (pc + 3) ls (st) al n R (zi J) (li L)) : xJ G l me mc ms Qv Qx cells slots (pc) ls (.int (oI (x)) :: st) al n R (zi J) (li L) := by
  have hy : R32 0 := by decide
  exact xr_if_eq tgt hd ht (fun q => kt ((oI_eq hx hy).mp q)) (fun q => kf (fun u => q ((oI_eq hx hy).mpr u)))
theorem zr_icmp_ne {x y : Int} {off : Int} (tgt : Nat) (hd : decode me.2.1 pc = .ok (.if_icmp .ne off, 3)) (ht : (pc : Int) + off = (tgt : Int)) (hx : R32 x) (hy : R32 y) (kt : ¬ x = y → xJ G l me mc ms Qv Qx cells slots (tgt) ls (st) al n R (zi J) (li L)) (kf : x = y → xJ G l me mc ms Qv Qx cells slots (pc + 3) ls (st) al n R (zi J) (li L)) : xJ G l me mc ms Qv Qx cells slots (pc) ls (.int (oI (y)) :: .int (oI (x)) :: st) al n R (zi J) (li L) := xr_icmp_ne tgt hd ht (fun q => kt (fun u => q ((oI_eq hx hy).mpr u))) (fun q => kf ((oI_eq hx hy).mp q))
theorem zr_if_ne {x : Int} {off : Int} (tgt : Nat) (hd : decode me.2.1 pc = .ok (.ifCond .ne off, 3)) (ht : (pc : Int) + off = (tgt : Int)) (hx : R32 x) (kt : ¬ x = 0 → xJ G l me mc ms Qv Qx cells slots (tgt) ls (st) al n R (zi J) (li L)) (kf : x = 0 → xJ G l me mc ms Qv Qx cells slots (pc + 3) ls (st) al n R (zi J) (li L)) : xJ G l me mc ms Qv Qx cells slots (pc) ls (.int (oI (x)) :: st) al n R (zi J) (li L) := by
  have hy : R32 0 := by decide
  exact xr_if_ne tgt hd ht (fun q => kt (fun u => q ((oI_eq hx hy).mpr u))) (fun q => kf ((oI_eq hx hy).mp q))
theorem zr_icmp_lt {x y : Int} {off : Int} (tgt : Nat) (hd : decode me.2.1 pc = .ok (.if_icmp .lt off, 3)) (ht : (pc : Int) + off = (tgt : Int)) (hx : R32 x) (hy : R32 y) (kt : x < y → xJ G l me mc ms Qv Qx cells slots (tgt) ls (st) al n R (zi J) (li L)) (kf : ¬ x < y → xJ G l me mc ms Qv Qx cells slots (pc + 3) ls (st) al n R (zi J) (li L)) : xJ G l me mc ms Qv Qx cells slots (pc) ls (.int (oI (y)) :: .int (oI (x)) :: st) al n R (zi J) (li L) := xr_icmp_lt tgt hd ht (fun q => kt ((oI_lt hx hy).mp q)) (fun q => kf (fun u => q ((oI_lt hx hy).mpr u)))
theorem zr_if_lt {x : Int} {off : Int} (tgt : Nat) (hd : decode me.2.1 pc = .ok (.ifCond .lt off, 3)) (ht : (pc : Int) + off = (tgt : Int)) (hx : R32 x) (kt : x < 0 → xJ G l me mc ms Qv Qx cells slots (tgt) ls (st) al n R (zi J) (li L)) (kf : ¬ x < 0 → xJ G l me mc ms Qv Qx cells slots (pc + 3) ls (st) al n R (zi J) (li L)) : xJ G l me mc ms Qv Qx cells slots (pc) ls (.int (oI (x)) :: st) al n R (zi J) (li L) := by
  have hy : R32 0 := by decide
  exact xr_if_lt tgt hd ht (fun q => kt ((oI_lt hx hy).mp q)) (fun q => kf (fun u => q ((oI_lt hx hy).mpr u)))
theorem zr_icmp_ge {x y : Int} {off : Int} (tgt : Nat) (hd : decode me.2.1 pc = .ok (.if_icmp .ge off, 3)) (ht : (pc : Int) + off = (tgt : Int)) (hx : R32 x) (hy : R32 y) (kt : ¬ x < y → xJ G l me mc ms Qv Qx cells slots (tgt) ls (st) al n R (zi J) (li L)) (kf : x < y → xJ G l me mc ms Qv Qx cells slots (pc + 3) ls (st) al n R (zi J) (li L)) : xJ G l me mc ms Qv Qx cells slots (pc) ls (.int (oI (y)) :: .int (oI (x)) :: st) al n R (zi J) (li L) := xr_icmp_ge tgt hd ht (fun q => kt (by have u := (oI_le hy hx).mp q; omega)) (fun q => kf (by have u : ¬ _ := fun v => q ((oI_le hy hx).mpr v); omega))
theorem zr_if_ge {x : Int} {off : Int} (tgt : Nat) (hd : decode me.2.1 pc = .ok (.ifCond .ge off, 3)) (ht : (pc : Int) + off = (tgt : Int)) (hx : R32 x) (kt : ¬ x < 0 → xJ G l me mc ms Qv Qx cells slots (tgt) ls (st) al n R (zi J) (li L)) (kf : x < 0 → xJ G l me mc ms Qv Qx cells slots (pc + 3) ls (st) al n R (zi J) (li L)) : xJ G l me mc ms Qv Qx cells slots (pc) ls (.int (oI (x)) :: st) al n R (zi J) (li L) := by
  have hy : R32 0 := by decide
  exact xr_if_ge tgt hd ht (fun q => kt (by have u := (oI_le hy hx).mp q; omega)) (fun q => kf (by have u : ¬ _ := fun v => q ((oI_le hy hx).mpr v); omega))
theorem zr_icmp_gt {x y : Int} {off : Int} (tgt : Nat) (hd : decode me.2.1 pc = .ok (.if_icmp .gt off, 3)) (ht : (pc : Int) + off = (tgt : Int)) (hx : R32 x) (hy : R32 y) (kt : y < x → xJ G l me mc ms Qv Qx cells slots (tgt) ls (st) al n R (zi J) (li L)) (kf : ¬ y < x → xJ G l me mc ms Qv Qx cells slots (pc + 3) ls (st) al n R (zi J) (li L)) : xJ G l me mc ms Qv Qx cells slots (pc) ls (.int (oI (y)) :: .int (oI (x)) :: st) al n R (zi J) (li L) := xr_icmp_gt tgt hd ht (fun q => kt ((oI_lt hy hx).mp q)) (fun q => kf (fun u => q ((oI_lt hy hx).mpr u)))
theorem zr_if_gt {x : Int} {off : Int} (tgt : Nat) (hd : decode me.2.1 pc = .ok (.ifCond .gt off, 3)) (ht : (pc : Int) + off = (tgt : Int)) (hx : R32 x) (kt : 0 < x → xJ G l me mc ms Qv Qx cells slots (tgt) ls (st) al n R (zi J) (li L)) (kf : ¬ 0 < x → xJ G l me mc ms Qv Qx cells slots (pc + 3) ls (st) al n R (zi J) (li L)) : xJ G l me mc ms Qv Qx cells slots (pc) ls (.int (oI (x)) :: st) al n R (zi J) (li L) := by
  have hy : R32 0 := by decide
  exact xr_if_gt tgt hd ht (fun q => kt ((oI_lt hy hx).mp q)) (fun q => kf (fun u => q ((oI_lt hy hx).mpr u)))
theorem zr_icmp_le {x y : Int} {off : Int} (tgt : Nat) (hd : decode me.2.1 pc = .ok (.if_icmp .le off, 3)) (ht : (pc : Int) + off = (tgt : Int)) (hx : R32 x) (hy : R32 y) (kt : ¬ y < x → xJ G l me mc ms Qv Qx cells slots (tgt) ls (st) al n R (zi J) (li L)) (kf : y < x → xJ G l me mc ms Qv Qx cells slots (pc + 3) ls (st) al n R (zi J) (li L)) : xJ G l me mc ms Qv Qx cells slots (pc) ls (.int (oI (y)) :: .int (oI (x)) :: st) al n R (zi J) (li L) := xr_icmp_le tgt hd ht (fun q => kt (by have u := (oI_le hx hy).mp q; omega)) (fun q => kf (by have u : ¬ _ := fun v => q ((oI_le hx hy).mpr v); omega))
theorem zr_if_le {x : Int} {off : Int} (tgt : Nat) (hd : decode me.2.1 pc = .ok (.ifCond .le off, 3)) (ht : (pc : Int) + off = (tgt : Int)) (hx : R32 x) (kt : ¬ 0 < x → xJ G l me mc ms Qv Qx cells slots (tgt) ls (st) al n R (zi J) (li L)) (kf : 0 < x → xJ G l me mc ms Qv Qx cells slots (pc + 3) ls (st) al n R (zi J) (li L)) : xJ G l me mc ms Qv Qx cells slots (pc) ls (.int (oI (x)) :: st) al n R (zi J) (li L) := by
  have hy : R32 0 := by decide
  exact xr_if_le tgt hd ht (fun q => kt (by have u := (oI_le hx hy).mp q; omega)) (fun q => kf (by have u : ¬ _ := fun v => q ((oI_le hx hy).mpr v); omega))
theorem zr_getI (c k : Nat) {idx a : Nat} (z : Int) (hz : ((k : Nat) : Int) = z) (hd : decode me.2.1 pc = .ok (.getfield idx, 3)) (hw : Cond.fieldLink me.1.cls idx (xT c k).1 (xT c k).2.1 (xT c k).2.2.1 ∈ xws) (hc : c < 13) (hk : k < xN c) (ha : a < n) (hka : xkd G a = c) (ht : xfv G R (zi J) (li L) (xty c k) a k = .int (zi J a k))
    (kk : xJ G l me mc ms Qv Qx cells slots (pc + 3) ls (.int (oI (J a z)) :: st) al n R (zi J) (li L)) : xJ G l me mc ms Qv Qx cells slots (pc) ls (.ref a :: st) al n R (zi J) (li L) := by
  subst hz
  exact xr_getI c k hd hw hc hk ha hka ht rfl kk
theorem zr_getL (c k : Nat) {idx a : Nat} (z : Int) (hz : ((k : Nat) : Int) = z) (hd : decode me.2.1 pc = .ok (.getfield idx, 3)) (hw : Cond.fieldLink me.1.cls idx (xT c k).1 (xT c k).2.1 (xT c k).2.2.1 ∈ xws) (hc : c < 13) (hk : k < xN c) (ha : a < n) (hka : xkd G a = c) (ht : xfv G R (zi J) (li L) (xty c k) a k = .long (li L a k))
    (kk : xJ G l me mc ms Qv Qx cells slots (pc + 3) ls (.long (L a z) :: st) al n R (zi J) (li L)) : xJ G l me mc ms Qv Qx cells slots (pc) ls (.ref a :: st) al n R (zi J) (li L) := by
  subst hz
  exact xr_getL c k hd hw hc hk ha hka ht rfl kk
theorem zr_putI (c k : Nat) {idx a : Nat} {x : Int} (z : Int) (hz : ((k : Nat) : Int) = z) (hJ : J' = zs J a z x) (hd : decode me.2.1 pc = .ok (.putfield idx, 3)) (hw : Cond.fieldLink me.1.cls idx (xT c k).1 (xT c k).2.1 (xT c k).2.2.1 ∈ xws) (hc : c < 13) (hk : k < xN c) (ha : a < n) (hka : xkd G a = c)
    (hfin : (xT c k).2.2.2 = false ∨ ((xT c k).2.2.2 = true ∧ me.1.name = "<init>" ∧ (xT c k).1 = me.1.cls)) (hn : narrow (xty c k) (.int (oI x)) = .int (oI x)) (hf : fits (xty c k) (.int (oI x)) = true) (ht : ∀ (I' : Nat → Nat → Int32), xfv G R I' (li L) (xty c k) a k = .int (I' a k))
    (kk : xJ G l me mc ms Qv Qx cells slots (pc + 3) ls (st) al n R (zi J') (li L)) : xJ G l me mc ms Qv Qx cells slots (pc) ls (.int (oI (x)) :: .ref a :: st) al n R (zi J) (li L) := by
  subst hz
  have e : zi J' = xu (zi J) a k (oI x) := by rw [hJ, zi_s J a x (Int.natCast_nonneg k), Int.toNat_natCast]
  exact xr_putI2 c k e hd hw hc hk ha hka hfin hn hf ht kk
theorem zr_putL (c k : Nat) {idx a : Nat} {x : Int64} (z : Int) (hz : ((k : Nat) : Int) = z) (hL : L' = ys L a z x) (hd : decode me.2.1 pc = .ok (.putfield idx, 3)) (hw : Cond.fieldLink me.1.cls idx (xT c k).1 (xT c k).2.1 (xT c k).2.2.1 ∈ xws) (hc : c < 13) (hk : k < xN c) (ha : a < n) (hka : xkd G a = c)
    (hfin : (xT c k).2.2.2 = false) (hn : narrow (xty c k) (.long x) = .long x) (hf : fits (xty c k) (.long x) = true) (ht : ∀ (L' : Nat → Nat → Int64), xfv G R (zi J) L' (xty c k) a k = .long (L' a k))
    (kk : xJ G l me mc ms Qv Qx cells slots (pc + 3) ls (st) al n R (zi J) (li L')) : xJ G l me mc ms Qv Qx cells slots (pc) ls (.long x :: .ref a :: st) al n R (zi J) (li L) := by
  subst hz
  have e : li L' = xu (li L) a k x := by rw [hL, li_s L a x (Int.natCast_nonneg k), Int.toNat_natCast]
  exact xr_putL2 c k e hd hw hc hk ha hka hfin hn hf ht kk
theorem zr_iaload {a N : Nat} {i : Int} (hd : decode me.2.1 pc = .ok (.iaload, 1)) (ha : a < n) (hka : xkd G a = 13) (hl : xln G a = N) (hN : N < 2 ^ 31) (hi : 0 ≤ i ∧ i < (N : Int))
    (kk : xJ G l me mc ms Qv Qx cells slots (pc + 1) ls (.int (oI (J a i)) :: st) al n R (zi J) (li L)) : xJ G l me mc ms Qv Qx cells slots (pc) ls (.int (oI (i)) :: .ref a :: st) al n R (zi J) (li L) := by
  refine xr_iaload hd ha hka (by rw [hl]; exact oI_in hi hN) ?_ kk
  rw [oI_clamp hi.1 (by omega)]
  exact zi_at J a hi.1
theorem zr_zaload {a N : Nat} {i : Int} (hd : decode me.2.1 pc = .ok (.baload, 1)) (ha : a < n) (hka : xkd G a = 14) (hl : xln G a = N) (hN : N < 2 ^ 31) (hi : 0 ≤ i ∧ i < (N : Int))
    (kk : xJ G l me mc ms Qv Qx cells slots (pc + 1) ls (.int (oI (J a i)) :: st) al n R (zi J) (li L)) : xJ G l me mc ms Qv Qx cells slots (pc) ls (.int (oI (i)) :: .ref a :: st) al n R (zi J) (li L) := by
  refine xr_zaload hd ha hka (by rw [hl]; exact oI_in hi hN) ?_ kk
  rw [oI_clamp hi.1 (by omega)]
  exact zi_at J a hi.1
theorem zr_laload {a N : Nat} {i : Int} (hd : decode me.2.1 pc = .ok (.laload, 1)) (ha : a < n) (hka : xkd G a = 15) (hl : xln G a = N) (hN : N < 2 ^ 31) (hi : 0 ≤ i ∧ i < (N : Int))
    (kk : xJ G l me mc ms Qv Qx cells slots (pc + 1) ls (.long (L a i) :: st) al n R (zi J) (li L)) : xJ G l me mc ms Qv Qx cells slots (pc) ls (.int (oI (i)) :: .ref a :: st) al n R (zi J) (li L) := by
  refine xr_laload hd ha hka (by rw [hl]; exact oI_in hi hN) ?_ kk
  rw [oI_clamp hi.1 (by omega)]
  exact li_at L a hi.1
theorem zr_iastore {a N : Nat} {i : Int} {v : Int} (hJ : J' = zs J a i v) (hd : decode me.2.1 pc = .ok (.iastore, 1)) (ha : a < n) (hka : xkd G a = 13) (hl : xln G a = N) (hN : N < 2 ^ 31) (hi : 0 ≤ i ∧ i < (N : Int))
    (kk : xJ G l me mc ms Qv Qx cells slots (pc + 1) ls (st) al n R (zi J') (li L)) : xJ G l me mc ms Qv Qx cells slots (pc) ls (.int (oI (v)) :: .int (oI (i)) :: .ref a :: st) al n R (zi J) (li L) := by
  have e : zi J' = xu (zi J) a (oI i).toNatClampNeg (oI v) := by rw [hJ, oI_clamp hi.1 (by omega), zi_s J a v hi.1]
  exact xr_iastore' e hd ha hka (by rw [hl]; exact oI_in hi hN) kk
theorem zr_zastore {a N : Nat} {i : Int} {v : Int} (hv : B01 v) (hJ : J' = zs J a i v) (hd : decode me.2.1 pc = .ok (.bastore, 1)) (ha : a < n) (hka : xkd G a = 14) (hl : xln G a = N) (hN : N < 2 ^ 31) (hi : 0 ≤ i ∧ i < (N : Int))
    (kk : xJ G l me mc ms Qv Qx cells slots (pc + 1) ls (st) al n R (zi J') (li L)) : xJ G l me mc ms Qv Qx cells slots (pc) ls (.int (oI (v)) :: .int (oI (i)) :: .ref a :: st) al n R (zi J) (li L) := by
  have e : zi J' = xu (zi J) a (oI i).toNatClampNeg (vp_nar .boolean (oI v)) := by
    rw [hJ, oI_clamp hi.1 (by omega), zi_s J a v hi.1]
    rcases hv with rfl | rfl <;> rfl
  exact xr_zastore' e hd ha hka (by rw [hl]; exact oI_in hi hN) kk
theorem zr_lastore {a N : Nat} {i : Int} {v : Int64} (hJ : L' = ys L a i v) (hd : decode me.2.1 pc = .ok (.lastore, 1)) (ha : a < n) (hka : xkd G a = 15) (hl : xln G a = N) (hN : N < 2 ^ 31) (hi : 0 ≤ i ∧ i < (N : Int))
    (kk : xJ G l me mc ms Qv Qx cells slots (pc + 1) ls (st) al n R (zi J) (li L')) : xJ G l me mc ms Qv Qx cells slots (pc) ls (.long v :: .int (oI (i)) :: .ref a :: st) al n R (zi J) (li L) := by
  have e : li L' = xu (li L) a (oI i).toNatClampNeg v := by rw [hJ, oI_clamp hi.1 (by omega), li_s L a v hi.1]
  exact xr_lastore' e hd ha hka (by rw [hl]; exact oI_in hi hN) kk
theorem zr_aaload (j : Nat) {a b N : Nat} {i : Int} (hd : decode me.2.1 pc = .ok (.aaload, 1)) (ha : a < n) (hj : 3 ≤ j) (hj7 : j < 7) (hka : xkd G a = 13 + j) (hl : xln G a = N) (hN : N < 2 ^ 31) (hi : 0 ≤ i ∧ i < (N : Int)) (hx : R a i.toNat = some b)
    (kk : xJ G l me mc ms Qv Qx cells slots (pc + 1) ls (.ref b :: st) al n R (zi J) (li L)) : xJ G l me mc ms Qv Qx cells slots (pc) ls (.int (oI (i)) :: .ref a :: st) al n R (zi J) (li L) := by
  refine xr_aaload j hd ha hj hj7 hka (by rw [hl]; exact oI_in hi hN) ?_ kk
  rw [oI_clamp hi.1 (by omega)]
  exact hx
theorem zr_alen (j : Nat) {a N : Nat} {v : Int} (hd : decode me.2.1 pc = .ok (.arraylength, 1)) (ha : a < n) (hj : j < 7) (hka : xkd G a = 13 + j) (hl : xln G a = N) (hv : (N : Int) = v)
    (kk : xJ G l me mc ms Qv Qx cells slots (pc + 1) ls (.int (oI (v)) :: st) al n R (zi J) (li L)) : xJ G l me mc ms Qv Qx cells slots (pc) ls (.ref a :: st) al n R (zi J) (li L) := by
  subst hv
  exact xr_alen j hd ha hj hka (by rw [hl]; rfl) kk
theorem zr_acopy {idx a0 a N0 N : Nat} {sp dp k : Int} (hJ : J' = zcp J a0 sp a dp k) (hd : decode me.2.1 pc = .ok (.invokestatic idx, 3)) (hw : Cond.methodLink me.1.cls idx arraycopyName ∈ xws)
    (ha0 : a0 < n) (hk0 : xkd G a0 = 13) (hl0 : xln G a0 = N0) (hN0 : N0 < 2 ^ 31) (ha : a < n) (hka : xkd G a = 13) (hl : xln G a = N) (hN : N < 2 ^ 31) (h1 : 0 ≤ sp) (h2 : 0 ≤ dp) (h3 : 0 ≤ k) (h4 : sp + k ≤ (N0 : Int)) (h5 : dp + k ≤ (N : Int))
    (hR : 1 ≤ me.2.2.2.2.1 ∧ (st.map Value.category).sum + (nativeFrameWords "java/lang/System" "arraycopy" 5 + 11) ≤ me.2.2.2.2.2)
    (kk : xJ G l me mc ms Qv Qx cells slots (pc + 3) ls (st) al n R (zi J') (li L)) : xJ G l me mc ms Qv Qx cells slots (pc) ls (.int (oI (k)) :: .int (oI (dp)) :: .ref a :: .int (oI (sp)) :: .ref a0 :: st) al n R (zi J) (li L) := by
  have e : zi J' = va_up (zi J) a (va_cpy (zi J a0) (zi J a) (oI sp).toNatClampNeg (oI dp).toNatClampNeg (oI k).toNatClampNeg) := by
    rw [hJ, zi_cp J a0 a h1 h2 h3, oI_clamp h1 (by omega), oI_clamp h2 (by omega), oI_clamp h3 (by omega)]
  refine xr_acopy' e hd hw ha0 hk0 ha hka ?_ ?_ ?_ ?_ ?_ hR kk
  · rw [← oI_0, oI_lt ⟨by omega, by omega⟩ (by decide)]; omega
  · rw [← oI_0, oI_lt ⟨by omega, by omega⟩ (by decide)]; omega
  · rw [← oI_0, oI_lt ⟨by omega, by omega⟩ (by decide)]; omega
  · rw [hl0, oI_clamp h1 (by omega), oI_clamp h3 (by omega)]; omega
  · rw [hl, oI_clamp h2 (by omega), oI_clamp h3 (by omega)]; omega
theorem zr_min {idx : Nat} {x y : Int} (hd : decode me.2.1 pc = .ok (.invokestatic idx, 3)) (hw : Cond.methodLink me.1.cls idx Lib.Math.min.name ∈ xws) (hw2 : Cond.static Lib.Math.min.name ∈ xws ∧ Cond.initialized "java/lang/Math" ∈ xws ∧ Cond.code Lib.Math.min.name Lib.Math.min.code 2 (some .int) ∈ xws)
    (hR : 1 ≤ me.2.2.2.2.1 ∧ (st.map Value.category).sum + 13 ≤ me.2.2.2.2.2) (h1 : cells ≤ mc) (h2 : slots ≤ ms) (hx : R32 x) (hy : R32 y)
    (kk : xJ G l me mc ms Qv Qx cells slots (pc + 3) ls (.int (oI (min x y)) :: st) al n R (zi J) (li L)) : xJ G l me mc ms Qv Qx cells slots (pc) ls (.int (oI (y)) :: .int (oI (x)) :: st) al n R (zi J) (li L) := by
  refine xr_min hd hw hw2 hR h1 h2 (xr_eqi _ ?_ kk)
  by_cases q : y < x
  · rw [if_pos ((oI_lt hy hx).mpr q), Int.min_eq_right (by omega)]
  · rw [if_neg (fun u => q ((oI_lt hy hx).mp u)), Int.min_eq_left (by omega)]
theorem zr_lookup {dflt : Int} {ps : Array (Int × Int)} {len : Nat} {x off : Int} (tgt : Nat) (hd : decode me.2.1 pc = .ok (.lookupswitch dflt ps, len)) (hp : (ps.toList.zip (ps.toList.drop 1)).all (fun (a, next) => a.1 < next.1) = true) (hx : R32 x) (ho : Op.lookupswitch.offset ps.toList dflt x = off) (ht : (pc : Int) + off = (tgt : Int))
    (kk : xJ G l me mc ms Qv Qx cells slots (tgt) ls (st) al n R (zi J) (li L)) : xJ G l me mc ms Qv Qx cells slots (pc) ls (.int (oI (x)) :: st) al n R (zi J) (li L) := by
  intro p e s m args below meth c H locs lsA C hH hS hl
  exact lv_lookup C.1 C.2.1 hd hp (by rw [oI_toInt hx]; exact ho) ht (kk p e s m args below meth c H locs lsA C hH hS hl)
theorem zr_tableOut {dflt lo hi : Int} {offs : Array Int} {len : Nat} {x : Int} (tgt : Nat) (hd : decode me.2.1 pc = .ok (.tableswitch dflt lo hi offs, len)) (hx : R32 x) (h : x < lo ∨ hi < x) (ht : (pc : Int) + dflt = (tgt : Int))
    (kk : xJ G l me mc ms Qv Qx cells slots (tgt) ls (st) al n R (zi J) (li L)) : xJ G l me mc ms Qv Qx cells slots (pc) ls (.int (oI (x)) :: st) al n R (zi J) (li L) := by
  intro p e s m args below meth c H locs lsA C hH hS hl
  exact lv_tableOut C.1 C.2.1 hd (by rw [oI_toInt hx]; exact h) ht (kk p e s m args below meth c H locs lsA C hH hS hl)
theorem zr_tableIn {dflt lo hi : Int} {offs : Array Int} {len : Nat} {x off : Int} (tgt : Nat) (hd : decode me.2.1 pc = .ok (.tableswitch dflt lo hi offs, len)) (hx : R32 x) (h1 : ¬ x < lo) (h2 : ¬ hi < x) (ho : offs[(x - lo).toNat]? = some off) (ht : (pc : Int) + off = (tgt : Int))
    (kk : xJ G l me mc ms Qv Qx cells slots (tgt) ls (st) al n R (zi J) (li L)) : xJ G l me mc ms Qv Qx cells slots (pc) ls (.int (oI (x)) :: st) al n R (zi J) (li L) := by
  intro p e s m args below meth c H locs lsA C hH hS hl
  exact lv_tableIn C.1 C.2.1 hd (by rw [oI_toInt hx]; exact h1) (by rw [oI_toInt hx]; exact h2) (by rw [oI_toInt hx]; exact ho) ht (kk p e s m args below meth c H locs lsA C hH hS hl)
theorem zret_b {z : Int} (h : B01 z) : narrow .boolean (.int (oI z)) = .int (oI z) := by rcases h with rfl | rfl <;> rfl
theorem fits_b {z : Int} (h : B01 z) : fits .boolean (.int (oI z)) = true := by rcases h with rfl | rfl <;> rfl
end ZR
def zl_z (F : (Int → zM → yM → Prop) → Int → zM → yM → Prop) (x1 : Int) (J : zM) (L : yM) : Prop := ∀ P : Int → zM → yM → Prop, (∀ (x1 : Int) (J : zM) (L : yM), F P x1 J L → P x1 J L) → P x1 J L
theorem zl_z.by {F : (Int → zM → yM → Prop) → Int → zM → yM → Prop} (Inv : Nat → Int → zM → yM → Prop) (hF : ∀ (m : Nat) (x1 : Int) (J : zM) (L : yM) (K : Int → zM → yM → Prop), Inv m x1 J L → (∀ (m' : Nat) (x1 : Int) (J : zM) (L : yM), m' < m → Inv m' x1 J L → K x1 J L) → F K x1 J L) (m : Nat) : ∀ (x1 : Int) (J : zM) (L : yM), Inv m x1 J L → zl_z F x1 J L := by
  intro x1 J L h P hP
  induction m using Nat.strongRecOn generalizing x1 J L with
  | ind m ih => exact hP x1 J L (hF m x1 J L P h (fun m' x1 J L hm hi => ih m' hm x1 J L hi))
def zl_zz (F : (Int → Int → zM → yM → Prop) → Int → Int → zM → yM → Prop) (x1 : Int) (x2 : Int) (J : zM) (L : yM) : Prop := ∀ P : Int → Int → zM → yM → Prop, (∀ (x1 : Int) (x2 : Int) (J : zM) (L : yM), F P x1 x2 J L → P x1 x2 J L) → P x1 x2 J L
theorem zl_zz.by {F : (Int → Int → zM → yM → Prop) → Int → Int → zM → yM → Prop} (Inv : Nat → Int → Int → zM → yM → Prop) (hF : ∀ (m : Nat) (x1 : Int) (x2 : Int) (J : zM) (L : yM) (K : Int → Int → zM → yM → Prop), Inv m x1 x2 J L → (∀ (m' : Nat) (x1 : Int) (x2 : Int) (J : zM) (L : yM), m' < m → Inv m' x1 x2 J L → K x1 x2 J L) → F K x1 x2 J L) (m : Nat) : ∀ (x1 : Int) (x2 : Int) (J : zM) (L : yM), Inv m x1 x2 J L → zl_zz F x1 x2 J L := by
  intro x1 x2 J L h P hP
  induction m using Nat.strongRecOn generalizing x1 x2 J L with
  | ind m ih => exact hP x1 x2 J L (hF m x1 x2 J L P h (fun m' x1 x2 J L hm hi => ih m' hm x1 x2 J L hi))
def zl_zzz (F : (Int → Int → Int → zM → yM → Prop) → Int → Int → Int → zM → yM → Prop) (x1 : Int) (x2 : Int) (x3 : Int) (J : zM) (L : yM) : Prop := ∀ P : Int → Int → Int → zM → yM → Prop, (∀ (x1 : Int) (x2 : Int) (x3 : Int) (J : zM) (L : yM), F P x1 x2 x3 J L → P x1 x2 x3 J L) → P x1 x2 x3 J L
theorem zl_zzz.by {F : (Int → Int → Int → zM → yM → Prop) → Int → Int → Int → zM → yM → Prop} (Inv : Nat → Int → Int → Int → zM → yM → Prop) (hF : ∀ (m : Nat) (x1 : Int) (x2 : Int) (x3 : Int) (J : zM) (L : yM) (K : Int → Int → Int → zM → yM → Prop), Inv m x1 x2 x3 J L → (∀ (m' : Nat) (x1 : Int) (x2 : Int) (x3 : Int) (J : zM) (L : yM), m' < m → Inv m' x1 x2 x3 J L → K x1 x2 x3 J L) → F K x1 x2 x3 J L) (m : Nat) : ∀ (x1 : Int) (x2 : Int) (x3 : Int) (J : zM) (L : yM), Inv m x1 x2 x3 J L → zl_zzz F x1 x2 x3 J L := by
  intro x1 x2 x3 J L h P hP
  induction m using Nat.strongRecOn generalizing x1 x2 x3 J L with
  | ind m ih => exact hP x1 x2 x3 J L (hF m x1 x2 x3 J L P h (fun m' x1 x2 x3 J L hm hi => ih m' hm x1 x2 x3 J L hi))
def zl_zzzz (F : (Int → Int → Int → Int → zM → yM → Prop) → Int → Int → Int → Int → zM → yM → Prop) (x1 : Int) (x2 : Int) (x3 : Int) (x4 : Int) (J : zM) (L : yM) : Prop := ∀ P : Int → Int → Int → Int → zM → yM → Prop, (∀ (x1 : Int) (x2 : Int) (x3 : Int) (x4 : Int) (J : zM) (L : yM), F P x1 x2 x3 x4 J L → P x1 x2 x3 x4 J L) → P x1 x2 x3 x4 J L
theorem zl_zzzz.by {F : (Int → Int → Int → Int → zM → yM → Prop) → Int → Int → Int → Int → zM → yM → Prop} (Inv : Nat → Int → Int → Int → Int → zM → yM → Prop) (hF : ∀ (m : Nat) (x1 : Int) (x2 : Int) (x3 : Int) (x4 : Int) (J : zM) (L : yM) (K : Int → Int → Int → Int → zM → yM → Prop), Inv m x1 x2 x3 x4 J L → (∀ (m' : Nat) (x1 : Int) (x2 : Int) (x3 : Int) (x4 : Int) (J : zM) (L : yM), m' < m → Inv m' x1 x2 x3 x4 J L → K x1 x2 x3 x4 J L) → F K x1 x2 x3 x4 J L) (m : Nat) : ∀ (x1 : Int) (x2 : Int) (x3 : Int) (x4 : Int) (J : zM) (L : yM), Inv m x1 x2 x3 x4 J L → zl_zzzz F x1 x2 x3 x4 J L := by
  intro x1 x2 x3 x4 J L h P hP
  induction m using Nat.strongRecOn generalizing x1 x2 x3 x4 J L with
  | ind m ih => exact hP x1 x2 x3 x4 J L (hF m x1 x2 x3 x4 J L P h (fun m' x1 x2 x3 x4 J L hm hi => ih m' hm x1 x2 x3 x4 J L hi))
def zl_l (F : (Int64 → zM → yM → Prop) → Int64 → zM → yM → Prop) (x1 : Int64) (J : zM) (L : yM) : Prop := ∀ P : Int64 → zM → yM → Prop, (∀ (x1 : Int64) (J : zM) (L : yM), F P x1 J L → P x1 J L) → P x1 J L
theorem zl_l.by {F : (Int64 → zM → yM → Prop) → Int64 → zM → yM → Prop} (Inv : Nat → Int64 → zM → yM → Prop) (hF : ∀ (m : Nat) (x1 : Int64) (J : zM) (L : yM) (K : Int64 → zM → yM → Prop), Inv m x1 J L → (∀ (m' : Nat) (x1 : Int64) (J : zM) (L : yM), m' < m → Inv m' x1 J L → K x1 J L) → F K x1 J L) (m : Nat) : ∀ (x1 : Int64) (J : zM) (L : yM), Inv m x1 J L → zl_l F x1 J L := by
  intro x1 J L h P hP
  induction m using Nat.strongRecOn generalizing x1 J L with
  | ind m ih => exact hP x1 J L (hF m x1 J L P h (fun m' x1 J L hm hi => ih m' hm x1 J L hi))
def zl_ll (F : (Int64 → Int64 → zM → yM → Prop) → Int64 → Int64 → zM → yM → Prop) (x1 : Int64) (x2 : Int64) (J : zM) (L : yM) : Prop := ∀ P : Int64 → Int64 → zM → yM → Prop, (∀ (x1 : Int64) (x2 : Int64) (J : zM) (L : yM), F P x1 x2 J L → P x1 x2 J L) → P x1 x2 J L
theorem zl_ll.by {F : (Int64 → Int64 → zM → yM → Prop) → Int64 → Int64 → zM → yM → Prop} (Inv : Nat → Int64 → Int64 → zM → yM → Prop) (hF : ∀ (m : Nat) (x1 : Int64) (x2 : Int64) (J : zM) (L : yM) (K : Int64 → Int64 → zM → yM → Prop), Inv m x1 x2 J L → (∀ (m' : Nat) (x1 : Int64) (x2 : Int64) (J : zM) (L : yM), m' < m → Inv m' x1 x2 J L → K x1 x2 J L) → F K x1 x2 J L) (m : Nat) : ∀ (x1 : Int64) (x2 : Int64) (J : zM) (L : yM), Inv m x1 x2 J L → zl_ll F x1 x2 J L := by
  intro x1 x2 J L h P hP
  induction m using Nat.strongRecOn generalizing x1 x2 J L with
  | ind m ih => exact hP x1 x2 J L (hF m x1 x2 J L P h (fun m' x1 x2 J L hm hi => ih m' hm x1 x2 J L hi))
def zl_zl (F : (Int → Int64 → zM → yM → Prop) → Int → Int64 → zM → yM → Prop) (x1 : Int) (x2 : Int64) (J : zM) (L : yM) : Prop := ∀ P : Int → Int64 → zM → yM → Prop, (∀ (x1 : Int) (x2 : Int64) (J : zM) (L : yM), F P x1 x2 J L → P x1 x2 J L) → P x1 x2 J L
theorem zl_zl.by {F : (Int → Int64 → zM → yM → Prop) → Int → Int64 → zM → yM → Prop} (Inv : Nat → Int → Int64 → zM → yM → Prop) (hF : ∀ (m : Nat) (x1 : Int) (x2 : Int64) (J : zM) (L : yM) (K : Int → Int64 → zM → yM → Prop), Inv m x1 x2 J L → (∀ (m' : Nat) (x1 : Int) (x2 : Int64) (J : zM) (L : yM), m' < m → Inv m' x1 x2 J L → K x1 x2 J L) → F K x1 x2 J L) (m : Nat) : ∀ (x1 : Int) (x2 : Int64) (J : zM) (L : yM), Inv m x1 x2 J L → zl_zl F x1 x2 J L := by
  intro x1 x2 J L h P hP
  induction m using Nat.strongRecOn generalizing x1 x2 J L with
  | ind m ih => exact hP x1 x2 J L (hF m x1 x2 J L P h (fun m' x1 x2 J L hm hi => ih m' hm x1 x2 J L hi))
def zl_zll (F : (Int → Int64 → Int64 → zM → yM → Prop) → Int → Int64 → Int64 → zM → yM → Prop) (x1 : Int) (x2 : Int64) (x3 : Int64) (J : zM) (L : yM) : Prop := ∀ P : Int → Int64 → Int64 → zM → yM → Prop, (∀ (x1 : Int) (x2 : Int64) (x3 : Int64) (J : zM) (L : yM), F P x1 x2 x3 J L → P x1 x2 x3 J L) → P x1 x2 x3 J L
theorem zl_zll.by {F : (Int → Int64 → Int64 → zM → yM → Prop) → Int → Int64 → Int64 → zM → yM → Prop} (Inv : Nat → Int → Int64 → Int64 → zM → yM → Prop) (hF : ∀ (m : Nat) (x1 : Int) (x2 : Int64) (x3 : Int64) (J : zM) (L : yM) (K : Int → Int64 → Int64 → zM → yM → Prop), Inv m x1 x2 x3 J L → (∀ (m' : Nat) (x1 : Int) (x2 : Int64) (x3 : Int64) (J : zM) (L : yM), m' < m → Inv m' x1 x2 x3 J L → K x1 x2 x3 J L) → F K x1 x2 x3 J L) (m : Nat) : ∀ (x1 : Int) (x2 : Int64) (x3 : Int64) (J : zM) (L : yM), Inv m x1 x2 x3 J L → zl_zll F x1 x2 x3 J L := by
  intro x1 x2 x3 J L h P hP
  induction m using Nat.strongRecOn generalizing x1 x2 x3 J L with
  | ind m ih => exact hP x1 x2 x3 J L (hF m x1 x2 x3 J L P h (fun m' x1 x2 x3 J L hm hi => ih m' hm x1 x2 x3 J L hi))
def zl_lll (F : (Int64 → Int64 → Int64 → zM → yM → Prop) → Int64 → Int64 → Int64 → zM → yM → Prop) (x1 : Int64) (x2 : Int64) (x3 : Int64) (J : zM) (L : yM) : Prop := ∀ P : Int64 → Int64 → Int64 → zM → yM → Prop, (∀ (x1 : Int64) (x2 : Int64) (x3 : Int64) (J : zM) (L : yM), F P x1 x2 x3 J L → P x1 x2 x3 J L) → P x1 x2 x3 J L
theorem zl_lll.by {F : (Int64 → Int64 → Int64 → zM → yM → Prop) → Int64 → Int64 → Int64 → zM → yM → Prop} (Inv : Nat → Int64 → Int64 → Int64 → zM → yM → Prop) (hF : ∀ (m : Nat) (x1 : Int64) (x2 : Int64) (x3 : Int64) (J : zM) (L : yM) (K : Int64 → Int64 → Int64 → zM → yM → Prop), Inv m x1 x2 x3 J L → (∀ (m' : Nat) (x1 : Int64) (x2 : Int64) (x3 : Int64) (J : zM) (L : yM), m' < m → Inv m' x1 x2 x3 J L → K x1 x2 x3 J L) → F K x1 x2 x3 J L) (m : Nat) : ∀ (x1 : Int64) (x2 : Int64) (x3 : Int64) (J : zM) (L : yM), Inv m x1 x2 x3 J L → zl_lll F x1 x2 x3 J L := by
  intro x1 x2 x3 J L h P hP
  induction m using Nat.strongRecOn generalizing x1 x2 x3 J L with
  | ind m ih => exact hP x1 x2 x3 J L (hF m x1 x2 x3 J L P h (fun m' x1 x2 x3 J L hm hi => ih m' hm x1 x2 x3 J L hi))
