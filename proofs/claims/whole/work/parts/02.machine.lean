/-! THE MEMORY AS FUNCTIONS. Cells are numbered 0, 1, .. in the order in which the law's objects are made; cell k lies at address b + k. kd: a cell's kind (0 .. 12: an object of that row of vwCl; 13 int[], 14 boolean[], 15 long[], 16 int[][], 17 Rows[], 18 Side[], 19 Window[]); ln: an array's length; R, I, L: what a slot holds (a cell's number, an int, a long). -/
abbrev xG : Type := Nat × (Nat → ClassId) × (Nat → Nat → Nat) × (Nat → ClassId) × (Nat → Nat) × (Nat → Nat) × (Nat → Nat)
abbrev xb (G : xG) : Nat := G.1
abbrev xdC (G : xG) : Nat → ClassId := G.2.1
abbrev xdI (G : xG) : Nat → Nat → Nat := G.2.2.1
abbrev xcA (G : xG) : Nat → ClassId := G.2.2.2.1
abbrev xkd (G : xG) : Nat → Nat := G.2.2.2.2.1
abbrev xln (G : xG) : Nat → Nat := G.2.2.2.2.2.1
abbrev xts (G : xG) : Nat → Nat := G.2.2.2.2.2.2
abbrev xD (G : xG) : va_G := (xdC G, xdI G)
abbrev xA (G : xG) : Nat → Prop := fun q => xb G ≤ q
/-- the address of a cell, or (from 1000000 on) of a thing that was there before -/
def xad (G : xG) (k : Nat) : Nat := if k < 1000000 then xb G + k else xts G (k - 1000000)
def xtr (G : xG) (v : Value) : Value := match v with
  | .ref k => .ref (xad G k)
  | v => v
def xrv (G : xG) (r : Option Nat) : Value := va_rf (r.map (xad G))
def xcl (c : Nat) : vw_C := vwCl.getD c (RX0, TX0, 4)
abbrev xC (c : Nat) : String := (xcl c).1
abbrev xT (c : Nat) : u_T := (xcl c).2.1
abbrev xN (c : Nat) : Nat := (xcl c).2.2
def xty (c : Nat) : Nat → FieldType := match c with
  | 0 => tyX0
  | 1 => tyX1
  | 2 => tyX2
  | 3 => tyX3
  | 4 => tyX4
  | 5 => tyX5
  | 6 => tyX6
  | 7 => tyX7
  | 8 => tyX8
  | 9 => tyX9
  | 10 => tyX10
  | 11 => tyX11
  | _ => tyX12
def xet (c : Nat) : FieldType := match c with
  | 13 => .int
  | 14 => .boolean
  | 15 => .long
  | 16 => .array .int
  | 17 => .object "LossyPair$Rows"
  | 18 => .object "LossyPair$Side"
  | _ => .object "LossyPair$Window"
def xtys (G : xG) : List (ClassId × FieldType) := (List.range 7).map (fun j => (xcA G (13 + j), xet (13 + j)))
/-- what a field shows -/
def xfv (G : xG) (R : Nat → Nat → Option Nat) (I : Nat → Nat → Int32) (L : Nat → Nat → Int64) (ty : FieldType) (a j : Nat) : Value := match ty with
  | .long => .long (L a j)
  | .object _ => xrv G (R a j)
  | .array _ => xrv G (R a j)
  | _ => .int (I a j)
def xfs (G : xG) (R : Nat → Nat → Option Nat) (I : Nat → Nat → Int32) (L : Nat → Nat → Int64) (c a : Nat) : List Value := (List.range (xN c)).map (fun j => xfv G R I L (xty c j) a j)
def xar (G : xG) (R : Nat → Nat → Option Nat) (I : Nat → Nat → Int32) (L : Nat → Nat → Int64) (c a : Nat) : vp_A := (xln G a, match c with
  | 13 => .inl (I a)
  | 14 => .inl (I a)
  | 15 => .inr (.inl (L a))
  | _ => .inr (.inr (.inr (.inr (fun j => (R a j).map (xad G))))))
def xE (G : xG) (R : Nat → Nat → Option Nat) (I : Nat → Nat → Int32) (L : Nat → Nat → Int64) (a : Nat) : va_E := if xkd G a < 13 then .inr (xkd G a, xfs G R I L (xkd G a) a) else .inl (xcA G (xkd G a), xar G R I L (xkd G a) a)
def xp (G : xG) (n : Nat) (R : Nat → Nat → Option Nat) (I : Nat → Nat → Int32) (L : Nat → Nat → Int64) : va_W := (List.range n).map (fun k => (xb G + k, xE G R I L k))
theorem xp_get {G : xG} {n : Nat} {R : Nat → Nat → Option Nat} {I : Nat → Nat → Int32} {L : Nat → Nat → Int64} {k : Nat} (h : k < n) : (xp G n R I L)[k]? = some (xb G + k, xE G R I L k) := by
  simp [xp, h]
theorem xp_obj {G : xG} {n : Nat} {R : Nat → Nat → Option Nat} {I : Nat → Nat → Int32} {L : Nat → Nat → Int64} {k c : Nat} (h : k < n) (hk : xkd G k = c) (hc : c < 13) : (xp G n R I L)[k]? = some (xb G + k, .inr (c, xfs G R I L c k)) := by
  subst hk
  rw [xp_get h, xE, if_pos hc]
theorem xp_arr {G : xG} {n : Nat} {R : Nat → Nat → Option Nat} {I : Nat → Nat → Int32} {L : Nat → Nat → Int64} {k c : Nat} (h : k < n) (hk : xkd G k = c) (hc : ¬ c < 13) : (xp G n R I L)[k]? = some (xb G + k, .inl (xcA G c, xar G R I L c k)) := by
  subst hk
  rw [xp_get h, xE, if_neg hc]
theorem xE_eq {G : xG} {R R' : Nat → Nat → Option Nat} {I I' : Nat → Nat → Int32} {L L' : Nat → Nat → Int64} {a : Nat} (hR : R' a = R a) (hI : I' a = I a) (hL : L' a = L a) : xE G R' I' L' a = xE G R I L a := by
  have hf : ∀ ty j, xfv G R' I' L' ty a j = xfv G R I L ty a j := by
    intro ty j
    simp only [xfv, hR, hI, hL]
  unfold xE xfs xar
  simp only [hf, hR, hI, hL]
theorem xp_set {G : xG} {n : Nat} {R R' : Nat → Nat → Option Nat} {I I' : Nat → Nat → Int32} {L L' : Nat → Nat → Int64} {k : Nat} {e : va_E} (hR : ∀ j, j ≠ k → R' j = R j) (hI : ∀ j, j ≠ k → I' j = I j) (hL : ∀ j, j ≠ k → L' j = L j) (he : e = xE G R' I' L' k) : (xp G n R I L).set k (xb G + k, e) = xp G n R' I' L' := by
  subst he
  apply List.ext_getElem?
  intro i
  by_cases hi : i < n
  · rw [xp_get hi]
    by_cases hk : i = k
    · subst hk
      rw [List.getElem?_set_self (by simp [xp, hi])]
    · rw [List.getElem?_set_ne (fun q => hk q.symm), xp_get hi, xE_eq (hR i hk) (hI i hk) (hL i hk)]
  · rw [List.getElem?_eq_none (by simp [xp]; omega), List.getElem?_eq_none (by simp [xp]; omega)]
theorem xp_D {G : xG} {n : Nat} {R : Nat → Nat → Option Nat} {I : Nat → Nat → Int32} {L : Nat → Nat → Int64} : va_D (xA G) (xp G n R I L) := by
  constructor
  · intro i j p q hi hj e
    have h1 : i < n := by have := (List.getElem?_eq_some_iff.mp hi).1; simpa [xp] using this
    have h2 : j < n := by have := (List.getElem?_eq_some_iff.mp hj).1; simpa [xp] using this
    rw [xp_get h1] at hi
    rw [xp_get h2] at hj
    cases hi; cases hj
    have e' : xb G + i = xb G + j := e
    omega
  · intro k q hk
    have h1 : k < n := by have := (List.getElem?_eq_some_iff.mp hk).1; simpa [xp] using this
    rw [xp_get h1] at hk
    cases hk
    exact Nat.le_add_right _ _
theorem xfs_get {G : xG} {R : Nat → Nat → Option Nat} {I : Nat → Nat → Int32} {L : Nat → Nat → Int64} {c a j : Nat} (h : j < xN c) : (xfs G R I L c a)[j]? = some (xfv G R I L (xty c j) a j) := by
  simp [xfs, h]
theorem xfs_len {G : xG} {R : Nat → Nat → Option Nat} {I : Nat → Nat → Int32} {L : Nat → Nat → Int64} {c a : Nat} : (xfs G R I L c a).length = xN c := by
  simp [xfs]
theorem xfs_set {G : xG} {R R' : Nat → Nat → Option Nat} {I I' : Nat → Nat → Int32} {L L' : Nat → Nat → Int64} {c a j : Nat} {v : Value} (hj : j < xN c) (hv : v = xfv G R' I' L' (xty c j) a j) (ho : ∀ i, i ≠ j → xfv G R' I' L' (xty c i) a i = xfv G R I L (xty c i) a i) : (xfs G R I L c a).set j v = xfs G R' I' L' c a := by
  subst hv
  apply List.ext_getElem?
  intro i
  by_cases hi : i < xN c
  · rw [xfs_get hi]
    by_cases hk : i = j
    · subst hk
      rw [List.getElem?_set_self (by rw [xfs_len]; exact hi)]
    · rw [List.getElem?_set_ne (fun q => hk q.symm), xfs_get hi, ho i hk]
  · rw [List.getElem?_eq_none (by rw [List.length_set, xfs_len]; omega), List.getElem?_eq_none (by rw [xfs_len]; omega)]
/-- one slot changed -/
def xu {α : Type} (f : Nat → Nat → α) (a k : Nat) (v : α) : Nat → Nat → α := fun i j => if i = a ∧ j = k then v else f i j
theorem xu_s {α : Type} (f : Nat → Nat → α) (a k : Nat) (v : α) : xu f a k v a k = v := by simp [xu]
theorem xu_n {α : Type} (f : Nat → Nat → α) {a k i j : Nat} (v : α) (h : i ≠ a ∨ j ≠ k) : xu f a k v i j = f i j := by
  rw [xu, if_neg]
  rintro ⟨rfl, rfl⟩
  simp at h
theorem xu_r {α : Type} (f : Nat → Nat → α) {a k i : Nat} (v : α) (h : i ≠ a) : xu f a k v i = f i := by
  funext j
  exact xu_n f v (Or.inl h)
theorem xu_up (f : Nat → Nat → Int32) (a k : Nat) (v : Int32) : xu f a k v a = upd (f a) k v := by
  funext j
  by_cases h : j = k <;> simp [xu, upd, h]
theorem xu_upL (f : Nat → Nat → Int64) (a k : Nat) (v : Int64) : xu f a k v a = vp_updL (f a) k v := by
  funext j
  by_cases h : j = k <;> simp [xu, vp_updL, h]
