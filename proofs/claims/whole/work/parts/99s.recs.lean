/-! a record, what it is for a side -/
def xorL (l : List Int) (f : Int → Int) : List Int := (List.range l.length).map (fun (j : Nat) => zxor (l.getD j 0) (f (j : Int)))
theorem xorL_len (l : List Int) (f : Int → Int) : (xorL l f).length = l.length := by simp [xorL]
theorem xorL_get {l : List Int} {f : Int → Int} {j : Nat} (h : j < l.length) : (xorL l f).getD j 0 = zxor (l.getD j 0) (f (j : Int)) := by simp [xorL, h]
theorem xorL_oct {l : List Int} {f : Int → Int} (h : oct l) (hf : ∀ j, 0 ≤ f j ∧ f j < 256) : oct (xorL l f) := by
  intro x hx
  unfold xorL at hx
  obtain ⟨j, hj, rfl⟩ := List.mem_map.mp hx
  exact zxor_oct (oct1 h j) (hf _)
theorem sg_xor {J : zM} {a : Nat} {i : Int} {l : List Int} {f : Int → Int} (h : ∀ j : Nat, j < l.length → J a (i + (j : Int)) = zxor (l.getD j 0) (f (j : Int))) : sg J a i l.length = xorL l f := by
  unfold sg xorL
  exact List.map_congr_left (fun j hj => h j (List.mem_range.mp hj))
theorem oct_partI {b : List Int} (h : oct b) (i n : Nat) : oct (partI b i n) := oct_take (oct_drop h i) n
theorem partI_get {b : List Int} {i n j : Nat} (hj : j < n) : (partI b i n).getD j 0 = b.getD (i + j) 0 := by
  unfold partI
  simp [hj]
def sW (s ep : Int) : Nat := ((ep - 2) * 2 + (1 - s)).toNat
theorem sW_b {s ep : Int} (hs : s01 s) (hep : 2 ≤ ep ∧ ep ≤ 3) : ((sW s ep : Nat) : Int) = (ep - 2) * 2 + (1 - s) ∧ sW s ep < 4 := by unfold sW; omega
def sMn (r : List Int) : Nat := (shR r 3 - 8).toNat
def sTg (r : List Int) : List Int := partI r (5 + sMn r) 8
def sMk (s ep : Int) (r : List Int) (A : SA) : List Int := mcI (aY A (20 + sW s ep)) (sTg r)
def sN1 (s ep : Int) (r : List Int) (A : SA) : Int := zxor (r.getD 1 0) ((sMk s ep r A).getD 0 0)
def sN2 (s ep : Int) (r : List Int) (A : SA) : Int := zxor (r.getD 2 0) ((sMk s ep r A).getD 1 0)
def sNu (s ep : Int) (r : List Int) (A : SA) : Int := 256 * sN1 s ep r A + sN2 s ep r A
def sBd (r : List Int) : List Int := partI r 5 (sMn r)
def sCo (s ep : Int) (r : List Int) (A : SA) : List Int := xorL (sBd r) (strA (aY A (16 + sW s ep)) ep (sN1 s ep r A) (sN2 s ep r A))
def sTy (s ep : Int) (r : List Int) (A : SA) : Int := (sCo s ep r A).getD (sMn r - 1) 0
def sCt (s ep : Int) (r : List Int) (A : SA) : List Int := (sCo s ep r A).take (sMn r - 1)
def sTI (s ep : Int) (r : List Int) (A : SA) : List Int := (tagI (aY A (16 + sW s ep)) ep (sNu s ep r A) (sBd r)).take 8
abbrev staD (g : Int) (b : Int64) (n : Int) : Prop := 64 ≤ g - n ∨ (0 ≤ g - n ∧ ((yush b (g - n)) &&& 1) ≠ 0)
abbrev staA (ep n : Int) (A : SA) : Prop := staD ((aN A).1 ep) ((aN A).2 ep) n
def whyS (s ep : Int) (r : List Int) (A : SA) : Nat := if aZ A 13 < ep then 1 else if shR r 3 < 9 then 3 else if staA ep (sNu s ep r A) A then 2 else if sTI s ep r A = sTg r then (if sTy s ep r A = 23 ∧ ¬ opn A then 1 else 4) else 3
def whyP (r : List Int) (A : SA) : Nat := if staA 0 (shR r 2) A then 2 else 4
def sealA (s ep : Int) (r : List Int) (A : SA) : SA := if whyS s ep r A = 4 then hearM (sTy s ep r A) s ep (sNu s ep r A) (sCt s ep r A) (cntA 4 (markA ep (sNu s ep r A) A)) else cntA (whyS s ep r A) A
def pCt (r : List Int) : List Int := partI r 6 (shR r 4).toNat
def plnA (s : Int) (r : List Int) (A : SA) : SA := if whyP r A = 4 then hearM (r.getD 0 0) s 0 (shR r 2) (pCt r) (cntA 4 (markA 0 (shR r 2) A)) else cntA (whyP r A) A
section SEALED
variable {s ep : Int} {r : List Int} {A : SA}
theorem sMk_b (h : oct r) (j : Nat) : 0 ≤ (sMk s ep r A).getD j 0 ∧ (sMk s ep r A).getD j 0 < 256 := oct1 (mcI_oct _ _) j
theorem sN_b (h : oct r) : (0 ≤ sN1 s ep r A ∧ sN1 s ep r A < 256) ∧ 0 ≤ sN2 s ep r A ∧ sN2 s ep r A < 256 := ⟨zxor_oct (oct1 h 1) (sMk_b h 0), zxor_oct (oct1 h 2) (sMk_b h 1)⟩
theorem sNu_b (h : oct r) : 0 ≤ sNu s ep r A ∧ sNu s ep r A < 65536 := by
  obtain ⟨a, b⟩ := sN_b (s := s) (ep := ep) (A := A) h
  unfold sNu
  omega
theorem sNu_div (h : oct r) : sNu s ep r A / 256 = sN1 s ep r A ∧ sNu s ep r A % 256 = sN2 s ep r A := by
  obtain ⟨a, b⟩ := sN_b (s := s) (ep := ep) (A := A) h
  unfold sNu
  omega
theorem sCo_oct (h : oct r) : oct (sCo s ep r A) := xorL_oct (oct_partI h 5 _) (strA_oct _ _ _ _)
theorem sTy_b (h : oct r) : 0 ≤ sTy s ep r A ∧ sTy s ep r A < 256 := oct1 (sCo_oct h) _
theorem sCt_oct (h : oct r) : oct (sCt s ep r A) := oct_take (sCo_oct h) _
theorem sMn_b (h9 : 9 ≤ shR r 3) (hl : 5 + shR r 3 ≤ (r.length : Int)) : (sMn r : Int) = shR r 3 - 8 ∧ 1 ≤ sMn r ∧ 5 + sMn r + 8 ≤ r.length := by unfold sMn; omega
theorem sBd_len (h9 : 9 ≤ shR r 3) (hl : 5 + shR r 3 ≤ (r.length : Int)) : (sBd r).length = sMn r := by
  have := sMn_b h9 hl
  exact partI_len (by omega)
theorem sCo_len (h9 : 9 ≤ shR r 3) (hl : 5 + shR r 3 ≤ (r.length : Int)) : (sCo s ep r A).length = sMn r := by
  unfold sCo
  rw [xorL_len, sBd_len h9 hl]
theorem sCt_len (h9 : 9 ≤ shR r 3) (hl : 5 + shR r 3 ≤ (r.length : Int)) : (sCt s ep r A).length = sMn r - 1 := by
  have h := sCo_len (s := s) (ep := ep) (A := A) h9 hl
  unfold sCt
  rw [List.length_take, h]
  omega
theorem cnt_mark_z {ep n : Int} {A : SA} {k : Nat} (h : k < 21) : aZ (cntA 4 (markA ep n A)) k = aZ A k := by
  unfold cntA
  exact if_neg (by omega)
end SEALED
