section XM
variable {G : xG} {l : Launch} {me : xMe} {mc ms : Nat} {Qv : Option Value → xM → Prop} {Qx : String → xM → Prop} {cells slots pc : Nat} {ls : List (Nat × Value)} {st : List Value} {al : Bool} {n : Nat} {R : Nat → Nat → Option Nat} {I : Nat → Nat → Int32} {L : Nat → Nat → Int64}
theorem xad_in {k : Nat} (h : k < n) (hn : n ≤ 1000000) : xad G k = xb G + k := by
  rw [xad, if_pos (by omega)]
/-- a field that is read -/
theorem xr_get (c k : Nat) {idx a : Nat} {v : Value} (hd : decode me.2.1 pc = .ok (.getfield idx, 3)) (hw : Cond.fieldLink me.1.cls idx (xT c k).1 (xT c k).2.1 (xT c k).2.2.1 ∈ xws) (hc : c < 13) (hk : k < xN c) (ha : a < n) (hka : xkd G a = c) (hv : xfv G R I L (xty c k) a k = xtr G v)
    (kk : xJ G l me mc ms Qv Qx cells slots (pc + 3) ls (v :: st) al n R I L) : xJ G l me mc ms Qv Qx cells slots pc ls (.ref a :: st) al n R I L := by
  intro p e s m args below meth c' H locs lsA C hH hS hl
  have h1 := kk p e s m args below meth c' H locs lsA C hH hS hl
  show W _ _ _ _ _ _ _ _ _ _ _ _ _ _ _ (F0 m pc lsA (.ref (xad G a) :: st.map (xtr G)))
  rw [xad_in ha hH.1.2]
  exact va_get (D := xD G) (ci := c) (v := xtr G v) (C := xC c) (T := xT c) (N := xN c) C.1 C.2.1 C.2.2.2.2.2.2.2.1 (xcl_in c hc) C.2.2.2.2.2.2.1 C.2.2.2.2.2.2.2.2.1 hH.1.1 a (xp_obj ha hka hc) (xcl_at c hc) k hk (C.2.2.2.2.2.2.2.1 _ hw) (fun _ h9 => h9) (by rw [xfs_get hk, hv]) hd h1
theorem xr_getI (c k : Nat) {idx a : Nat} {x : Int32} (hd : decode me.2.1 pc = .ok (.getfield idx, 3)) (hw : Cond.fieldLink me.1.cls idx (xT c k).1 (xT c k).2.1 (xT c k).2.2.1 ∈ xws) (hc : c < 13) (hk : k < xN c) (ha : a < n) (hka : xkd G a = c) (ht : xfv G R I L (xty c k) a k = .int (I a k)) (hx : I a k = x)
    (kk : xJ G l me mc ms Qv Qx cells slots (pc + 3) ls (.int x :: st) al n R I L) : xJ G l me mc ms Qv Qx cells slots pc ls (.ref a :: st) al n R I L :=
  xr_get c k hd hw hc hk ha hka (by rw [ht, hx]; rfl) kk
theorem xr_getL (c k : Nat) {idx a : Nat} {x : Int64} (hd : decode me.2.1 pc = .ok (.getfield idx, 3)) (hw : Cond.fieldLink me.1.cls idx (xT c k).1 (xT c k).2.1 (xT c k).2.2.1 ∈ xws) (hc : c < 13) (hk : k < xN c) (ha : a < n) (hka : xkd G a = c) (ht : xfv G R I L (xty c k) a k = .long (L a k)) (hx : L a k = x)
    (kk : xJ G l me mc ms Qv Qx cells slots (pc + 3) ls (.long x :: st) al n R I L) : xJ G l me mc ms Qv Qx cells slots pc ls (.ref a :: st) al n R I L :=
  xr_get c k hd hw hc hk ha hka (by rw [ht, hx]; rfl) kk
theorem xr_getR (c k : Nat) {idx a b : Nat} (hd : decode me.2.1 pc = .ok (.getfield idx, 3)) (hw : Cond.fieldLink me.1.cls idx (xT c k).1 (xT c k).2.1 (xT c k).2.2.1 ∈ xws) (hc : c < 13) (hk : k < xN c) (ha : a < n) (hka : xkd G a = c) (ht : xfv G R I L (xty c k) a k = xrv G (R a k)) (hx : R a k = some b)
    (kk : xJ G l me mc ms Qv Qx cells slots (pc + 3) ls (.ref b :: st) al n R I L) : xJ G l me mc ms Qv Qx cells slots pc ls (.ref a :: st) al n R I L :=
  xr_get c k hd hw hc hk ha hka (by rw [ht, hx]; rfl) kk
/-- a field that is written -/
theorem xr_put (c k : Nat) {idx a : Nat} {v : Value} {R' : Nat → Nat → Option Nat} {I' : Nat → Nat → Int32} {L' : Nat → Nat → Int64} (hd : decode me.2.1 pc = .ok (.putfield idx, 3)) (hw : Cond.fieldLink me.1.cls idx (xT c k).1 (xT c k).2.1 (xT c k).2.2.1 ∈ xws) (hc : c < 13) (hk : k < xN c) (ha : a < n) (hka : xkd G a = c)
    (hfin : (xT c k).2.2.2 = false ∨ ((xT c k).2.2.2 = true ∧ me.1.name = "<init>" ∧ (xT c k).1 = me.1.cls)) (hn : narrow (xty c k) (xtr G v) = xtr G v) (hf : fits (xty c k) (xtr G v) = true)
    (hR : ∀ j, j ≠ a → R' j = R j) (hI : ∀ j, j ≠ a → I' j = I j) (hL : ∀ j, j ≠ a → L' j = L j) (hv : xtr G v = xfv G R' I' L' (xty c k) a k) (ho : ∀ i, i ≠ k → xfv G R' I' L' (xty c i) a i = xfv G R I L (xty c i) a i)
    (kk : xJ G l me mc ms Qv Qx cells slots (pc + 3) ls st al n R' I' L') : xJ G l me mc ms Qv Qx cells slots pc ls (v :: .ref a :: st) al n R I L := by
  intro p e s m args below meth c' H locs lsA C hH hS hl
  show W _ _ _ _ _ _ _ _ _ _ _ _ _ _ _ (F0 m pc lsA (xtr G v :: .ref (xad G a) :: st.map (xtr G)))
  rw [xad_in ha hH.1.2]
  have hset : (xp G n R I L).set a (xb G + a, .inr (c, (xfs G R I L c a).set k (xtr G v))) = xp G n R' I' L' := xp_set hR hI hL (by rw [xfs_set hk hv ho, xE, if_pos (by rw [hka]; exact hc), hka])
  have go : ∀ (H1 : Heap) (locs1 : List Loc), va_P (xD G) vwCl ((xp G n R I L).set a (xb G + a, .inr (c, (xfs G R I L c a).set k (xtr G v)))) H1 → va_D (xA G) ((xp G n R I L).set a (xb G + a, .inr (c, (xfs G R I L c a).set k (xtr G v)))) → va_S (xA G) s.heap H1 locs1 → W p l e (xrm me mc ms) s m args below meth c' H1 locs1 cells slots (vx_MQ below (xQc G al mc Qv) (xXc G Qx) args s mc ms (xA G)) (F0 m (pc + 3) lsA (st.map (xtr G))) := by
    intro H1 locs1 h1 _ h3
    rw [hset] at h1
    exact kk p e s m args below meth c' H1 locs1 lsA C ⟨⟨h1, hH.1.2⟩, hH.2⟩ h3 hl
  rcases hfin with hfin | ⟨hfin, hini, hown⟩
  · exact va_put (D := xD G) (ci := c) (v := xtr G v) (ty := xty c k) (C := xC c) (T := xT c) (N := xN c) C.1 C.2.1 C.2.2.2.2.2.2.2.1 (xcl_in c hc) (xty c) (xcl_ty c hc) (xcl_nm c hc) C.2.2.2.2.2.2.1 C.2.2.2.2.2.2.2.2.1 hH.1.1 xp_D hS a (xp_obj ha hka hc) (xcl_at c hc) k hk (C.2.2.2.2.2.2.2.1 _ hw) (fun _ h9 => h9) hfin (xcl_ty c hc k hk) hn hf (by rw [xfs_len]; exact hk) hd go
  · exact va_putF (D := xD G) (ci := c) (v := xtr G v) (ty := xty c k) (C := xC c) (T := xT c) (N := xN c) C.1 C.2.1 C.2.2.2.2.2.2.2.1 (xcl_in c hc) (xty c) (xcl_ty c hc) (xcl_nm c hc) C.2.2.2.2.2.2.1 C.2.2.2.2.2.2.2.2.1 hH.1.1 xp_D hS a (xp_obj ha hka hc) (xcl_at c hc) k hk (C.2.2.2.2.2.2.2.1 _ hw) (fun _ h9 => h9) hfin (C.2.2.2.2.2.2.2.2.2.2.trans hini) hown (xcl_ty c hc k hk) hn hf (by rw [xfs_len]; exact hk) hd go
/-- a field of ints -/
theorem xr_putI (c k : Nat) {idx a : Nat} {x : Int32} (hd : decode me.2.1 pc = .ok (.putfield idx, 3)) (hw : Cond.fieldLink me.1.cls idx (xT c k).1 (xT c k).2.1 (xT c k).2.2.1 ∈ xws) (hc : c < 13) (hk : k < xN c) (ha : a < n) (hka : xkd G a = c)
    (hfin : (xT c k).2.2.2 = false ∨ ((xT c k).2.2.2 = true ∧ me.1.name = "<init>" ∧ (xT c k).1 = me.1.cls)) (hn : narrow (xty c k) (.int x) = .int x) (hf : fits (xty c k) (.int x) = true) (ht : ∀ (I' : Nat → Nat → Int32), xfv G R I' L (xty c k) a k = .int (I' a k))
    (kk : xJ G l me mc ms Qv Qx cells slots (pc + 3) ls st al n R (xu I a k x) L) : xJ G l me mc ms Qv Qx cells slots pc ls (.int x :: .ref a :: st) al n R I L := by
  refine xr_put c k (v := .int x) (R' := R) (I' := xu I a k x) (L' := L) hd hw hc hk ha hka hfin hn hf (fun _ _ => rfl) (fun j hj => xu_r I x hj) (fun _ _ => rfl) ?_ ?_ kk
  · rw [ht, xu_s]; rfl
  · intro i hi
    unfold xfv
    split <;> first | rfl | (rw [xu_n I x (Or.inr hi)])
theorem xr_putL (c k : Nat) {idx a : Nat} {x : Int64} (hd : decode me.2.1 pc = .ok (.putfield idx, 3)) (hw : Cond.fieldLink me.1.cls idx (xT c k).1 (xT c k).2.1 (xT c k).2.2.1 ∈ xws) (hc : c < 13) (hk : k < xN c) (ha : a < n) (hka : xkd G a = c)
    (hfin : (xT c k).2.2.2 = false) (hn : narrow (xty c k) (.long x) = .long x) (hf : fits (xty c k) (.long x) = true) (ht : ∀ (L' : Nat → Nat → Int64), xfv G R I L' (xty c k) a k = .long (L' a k))
    (kk : xJ G l me mc ms Qv Qx cells slots (pc + 3) ls st al n R I (xu L a k x)) : xJ G l me mc ms Qv Qx cells slots pc ls (.long x :: .ref a :: st) al n R I L := by
  refine xr_put c k (v := .long x) (R' := R) (I' := I) (L' := xu L a k x) hd hw hc hk ha hka (Or.inl hfin) hn hf (fun _ _ => rfl) (fun _ _ => rfl) (fun j hj => xu_r L x hj) ?_ ?_ kk
  · rw [ht, xu_s]; rfl
  · intro i hi
    unfold xfv
    split <;> first | rfl | (rw [xu_n L x (Or.inr hi)])
theorem xr_putR (c k : Nat) {idx a b : Nat} (hd : decode me.2.1 pc = .ok (.putfield idx, 3)) (hw : Cond.fieldLink me.1.cls idx (xT c k).1 (xT c k).2.1 (xT c k).2.2.1 ∈ xws) (hc : c < 13) (hk : k < xN c) (ha : a < n) (hka : xkd G a = c)
    (hfin : (xT c k).2.2.2 = false ∨ ((xT c k).2.2.2 = true ∧ me.1.name = "<init>" ∧ (xT c k).1 = me.1.cls)) (hn : ∀ q : Nat, narrow (xty c k) (.ref q) = .ref q) (hf : ∀ q : Nat, fits (xty c k) (.ref q) = true) (ht : ∀ (R' : Nat → Nat → Option Nat), xfv G R' I L (xty c k) a k = xrv G (R' a k))
    (kk : xJ G l me mc ms Qv Qx cells slots (pc + 3) ls st al n (xu R a k (some b)) I L) : xJ G l me mc ms Qv Qx cells slots pc ls (.ref b :: .ref a :: st) al n R I L := by
  refine xr_put c k (v := .ref b) (R' := xu R a k (some b)) (I' := I) (L' := L) hd hw hc hk ha hka hfin (hn _) (hf _) (fun j hj => xu_r R _ hj) (fun _ _ => rfl) (fun _ _ => rfl) ?_ ?_ kk
  · rw [ht, xu_s]; rfl
  · intro i hi
    unfold xfv
    split <;> first | rfl | (rw [xu_n R _ (Or.inr hi)])
/-! arrays -/
theorem xtys_at (j : Nat) (h : j < 7) : (xtys G)[j]? = some (xcA G (13 + j), xet (13 + j)) := by
  simp [xtys, h]
theorem xr_iaload {a : Nat} {i x : Int32} (hd : decode me.2.1 pc = .ok (.iaload, 1)) (ha : a < n) (hka : xkd G a = 13) (hi : vp_in i (xln G a)) (hx : I a i.toNatClampNeg = x)
    (kk : xJ G l me mc ms Qv Qx cells slots (pc + 1) ls (.int x :: st) al n R I L) : xJ G l me mc ms Qv Qx cells slots pc ls (.int i :: .ref a :: st) al n R I L := by
  intro p e s m args below meth c' H locs lsA C hH hS hl
  have h1 := kk p e s m args below meth c' H locs lsA C hH hS hl
  show W _ _ _ _ _ _ _ _ _ _ _ _ _ _ _ (F0 m pc lsA (.int i :: .ref (xad G a) :: st.map (xtr G)))
  rw [xad_in ha hH.1.2]
  subst hx
  exact va_iald (D := xD G) (f := I a) C.1 C.2.1 C.2.2.2.2.2.2.2.2.1 hH.1.1 a 0 (xp_arr ha hka (by omega)) (xtys_at 0 (by omega)) hi hd h1
theorem xr_zaload {a : Nat} {i x : Int32} (hd : decode me.2.1 pc = .ok (.baload, 1)) (ha : a < n) (hka : xkd G a = 14) (hi : vp_in i (xln G a)) (hx : I a i.toNatClampNeg = x)
    (kk : xJ G l me mc ms Qv Qx cells slots (pc + 1) ls (.int x :: st) al n R I L) : xJ G l me mc ms Qv Qx cells slots pc ls (.int i :: .ref a :: st) al n R I L := by
  intro p e s m args below meth c' H locs lsA C hH hS hl
  have h1 := kk p e s m args below meth c' H locs lsA C hH hS hl
  show W _ _ _ _ _ _ _ _ _ _ _ _ _ _ _ (F0 m pc lsA (.int i :: .ref (xad G a) :: st.map (xtr G)))
  rw [xad_in ha hH.1.2]
  subst hx
  exact va_zald (D := xD G) (f := I a) C.1 C.2.1 C.2.2.2.2.2.2.2.2.1 hH.1.1 a 1 (xp_arr ha hka (by omega)) (xtys_at 1 (by omega)) hi hd h1
theorem xr_laload {a : Nat} {i : Int32} {x : Int64} (hd : decode me.2.1 pc = .ok (.laload, 1)) (ha : a < n) (hka : xkd G a = 15) (hi : vp_in i (xln G a)) (hx : L a i.toNatClampNeg = x)
    (kk : xJ G l me mc ms Qv Qx cells slots (pc + 1) ls (.long x :: st) al n R I L) : xJ G l me mc ms Qv Qx cells slots pc ls (.int i :: .ref a :: st) al n R I L := by
  intro p e s m args below meth c' H locs lsA C hH hS hl
  have h1 := kk p e s m args below meth c' H locs lsA C hH hS hl
  show W _ _ _ _ _ _ _ _ _ _ _ _ _ _ _ (F0 m pc lsA (.int i :: .ref (xad G a) :: st.map (xtr G)))
  rw [xad_in ha hH.1.2]
  subst hx
  exact va_lald (D := xD G) (f := L a) C.1 C.2.1 C.2.2.2.2.2.2.2.2.1 hH.1.1 a 2 (xp_arr ha hka (by omega)) (xtys_at 2 (by omega)) hi hd h1
theorem xet_ref : ∀ j, 3 ≤ j → j < 7 → (xet (13 + j)).isReference = true
  | 0, h, _ => absurd h (by omega)
  | 1, h, _ => absurd h (by omega)
  | 2, h, _ => absurd h (by omega)
  | 3, _, _ => rfl
  | 4, _, _ => rfl
  | 5, _, _ => rfl
  | 6, _, _ => rfl
  | j + 7, _, h => absurd h (by omega)
theorem xar_ref {a : Nat} : ∀ j, 3 ≤ j → j < 7 → xar G R I L (13 + j) a = (xln G a, .inr (.inr (.inr (.inr (fun i => (R a i).map (xad G))))))
  | 0, h, _ => absurd h (by omega)
  | 1, h, _ => absurd h (by omega)
  | 2, h, _ => absurd h (by omega)
  | 3, _, _ => rfl
  | 4, _, _ => rfl
  | 5, _, _ => rfl
  | 6, _, _ => rfl
  | j + 7, _, h => absurd h (by omega)
theorem xr_aaload (j : Nat) {a b : Nat} {i : Int32} (hd : decode me.2.1 pc = .ok (.aaload, 1)) (ha : a < n) (hj : 3 ≤ j) (hj7 : j < 7) (hka : xkd G a = 13 + j) (hi : vp_in i (xln G a)) (hx : R a i.toNatClampNeg = some b)
    (kk : xJ G l me mc ms Qv Qx cells slots (pc + 1) ls (.ref b :: st) al n R I L) : xJ G l me mc ms Qv Qx cells slots pc ls (.int i :: .ref a :: st) al n R I L := by
  intro p e s m args below meth c' H locs lsA C hH hS hl
  have h1 := kk p e s m args below meth c' H locs lsA C hH hS hl
  show W _ _ _ _ _ _ _ _ _ _ _ _ _ _ _ (F0 m pc lsA (.int i :: .ref (xad G a) :: st.map (xtr G)))
  rw [xad_in ha hH.1.2]
  have hlt : i.toNatClampNeg < xln G a := Nat.not_le.mp fun q => hi (Or.inr q)
  have hP := hH.1.1 a _ (xp_arr ha hka (by omega))
  rw [xar_ref j hj hj7] at hP
  have hP : H[xb G + a]? = some (arrV (xcA G (13 + j)) (xln G a) (fun i => va_rf ((R a i).map (xad G)))) := hP
  exact W.aald (v := .ref (xad G b)) (ty := xet (13 + j)) C.1 C.2.1 hP ((C.2.2.2.2.2.2.2.2.1.2 j _ (xtys_at j hj7)).1 _ _) (xet_ref j hj hj7) (fun q => by cases q) (by rw [arrV_size]; exact hi) (by rw [arrV_read _ _ hlt, hx]; rfl) rfl rfl hd h1
theorem xr_iastore {a : Nat} {i x : Int32} (hd : decode me.2.1 pc = .ok (.iastore, 1)) (ha : a < n) (hka : xkd G a = 13) (hi : vp_in i (xln G a))
    (kk : xJ G l me mc ms Qv Qx cells slots (pc + 1) ls st al n R (xu I a i.toNatClampNeg x) L) : xJ G l me mc ms Qv Qx cells slots pc ls (.int x :: .int i :: .ref a :: st) al n R I L := by
  intro p e s m args below meth c' H locs lsA C hH hS hl
  show W _ _ _ _ _ _ _ _ _ _ _ _ _ _ _ (F0 m pc lsA (.int x :: .int i :: .ref (xad G a) :: st.map (xtr G)))
  rw [xad_in ha hH.1.2]
  refine va_iast (D := xD G) (f := I a) C.1 C.2.1 C.2.2.2.2.2.2.2.2.1 hH.1.1 xp_D hS a 0 (xp_arr ha hka (by omega)) (xtys_at 0 (by omega)) hi hd (fun H1 locs1 h1 _ h3 => ?_)
  rw [xp_set (R' := R) (I' := xu I a i.toNatClampNeg x) (L' := L) (fun _ _ => rfl) (fun j hj => xu_r I x hj) (fun _ _ => rfl) (by rw [xE, if_neg (by rw [hka]; omega), hka, xar, ← xu_up])] at h1
  exact kk p e s m args below meth c' H1 locs1 lsA C ⟨⟨h1, hH.1.2⟩, hH.2⟩ h3 hl
theorem xr_zastore {a : Nat} {i x : Int32} (hd : decode me.2.1 pc = .ok (.bastore, 1)) (ha : a < n) (hka : xkd G a = 14) (hi : vp_in i (xln G a))
    (kk : xJ G l me mc ms Qv Qx cells slots (pc + 1) ls st al n R (xu I a i.toNatClampNeg (vp_nar .boolean x)) L) : xJ G l me mc ms Qv Qx cells slots pc ls (.int x :: .int i :: .ref a :: st) al n R I L := by
  intro p e s m args below meth c' H locs lsA C hH hS hl
  show W _ _ _ _ _ _ _ _ _ _ _ _ _ _ _ (F0 m pc lsA (.int x :: .int i :: .ref (xad G a) :: st.map (xtr G)))
  rw [xad_in ha hH.1.2]
  refine va_zast (D := xD G) (f := I a) C.1 C.2.1 C.2.2.2.2.2.2.2.2.1 hH.1.1 xp_D hS a 1 (xp_arr ha hka (by omega)) (xtys_at 1 (by omega)) hi hd (fun H1 locs1 h1 _ h3 => ?_)
  rw [xp_set (R' := R) (I' := xu I a i.toNatClampNeg (vp_nar .boolean x)) (L' := L) (fun _ _ => rfl) (fun j hj => xu_r I _ hj) (fun _ _ => rfl) (by rw [xE, if_neg (by rw [hka]; omega), hka, xar, ← xu_up])] at h1
  exact kk p e s m args below meth c' H1 locs1 lsA C ⟨⟨h1, hH.1.2⟩, hH.2⟩ h3 hl
theorem xr_lastore {a : Nat} {i : Int32} {x : Int64} (hd : decode me.2.1 pc = .ok (.lastore, 1)) (ha : a < n) (hka : xkd G a = 15) (hi : vp_in i (xln G a))
    (kk : xJ G l me mc ms Qv Qx cells slots (pc + 1) ls st al n R I (xu L a i.toNatClampNeg x)) : xJ G l me mc ms Qv Qx cells slots pc ls (.long x :: .int i :: .ref a :: st) al n R I L := by
  intro p e s m args below meth c' H locs lsA C hH hS hl
  show W _ _ _ _ _ _ _ _ _ _ _ _ _ _ _ (F0 m pc lsA (.long x :: .int i :: .ref (xad G a) :: st.map (xtr G)))
  rw [xad_in ha hH.1.2]
  refine va_last (D := xD G) (f := L a) C.1 C.2.1 C.2.2.2.2.2.2.2.2.1 hH.1.1 xp_D hS a 2 (xp_arr ha hka (by omega)) (xtys_at 2 (by omega)) hi hd (fun H1 locs1 h1 _ h3 => ?_)
  rw [xp_set (R' := R) (I' := I) (L' := xu L a i.toNatClampNeg x) (fun _ _ => rfl) (fun _ _ => rfl) (fun j hj => xu_r L x hj) (by rw [xE, if_neg (by rw [hka]; omega), hka, xar, ← xu_upL])] at h1
  exact kk p e s m args below meth c' H1 locs1 lsA C ⟨⟨h1, hH.1.2⟩, hH.2⟩ h3 hl
theorem xr_alen (j : Nat) {a : Nat} {v : Int32} (hd : decode me.2.1 pc = .ok (.arraylength, 1)) (ha : a < n) (hj : j < 7) (hka : xkd G a = 13 + j) (hv : nI (xln G a) = v)
    (kk : xJ G l me mc ms Qv Qx cells slots (pc + 1) ls (.int v :: st) al n R I L) : xJ G l me mc ms Qv Qx cells slots pc ls (.ref a :: st) al n R I L := by
  intro p e s m args below meth c' H locs lsA C hH hS hl
  have h1 := kk p e s m args below meth c' H locs lsA C hH hS hl
  show W _ _ _ _ _ _ _ _ _ _ _ _ _ _ _ (F0 m pc lsA (.ref (xad G a) :: st.map (xtr G)))
  rw [xad_in ha hH.1.2]
  exact va_alen (D := xD G) (v := v) C.1 C.2.1 C.2.2.2.2.2.2.2.2.1 hH.1.1 a j (xp_arr ha hka (by omega)) (xtys_at j hj) hv hd h1
/-! the two static tables -/
theorem xr_gets0 {idx : Nat} (hd : decode me.2.1 pc = .ok (.getstatic idx, 3)) (hw : Cond.fieldLinkNest me.1.cls idx "LossyPair" "FIRST_WORDS" "[I" "LossyPair" ∈ xnw)
    (kk : xJ G l me mc ms Qv Qx cells slots (pc + 3) ls (.ref 1000000 :: st) al n R I L) : xJ G l me mc ms Qv Qx cells slots pc ls st al n R I L := by
  intro p e s m args below meth c' H locs lsA C hH hS hl
  exact va_getsN C.1 C.2.1 C.2.2.2.2.2.2.2.2.2.1.2.1.1 hS C.2.2.2.2.2.2.1 (va_Nw.use rfl (C.2.2.2.2.2.2.2.2.2.1.2.2.2.2.2.1 _ hw)) (fun _ h9 => h9) hd (kk p e s m args below meth c' H locs lsA C hH hS hl)
theorem xr_gets1 {idx : Nat} (hd : decode me.2.1 pc = .ok (.getstatic idx, 3)) (hw : Cond.fieldLinkNest me.1.cls idx "LossyPair" "ROUND_WORDS" "[I" "LossyPair" ∈ xnw)
    (kk : xJ G l me mc ms Qv Qx cells slots (pc + 3) ls (.ref 1000001 :: st) al n R I L) : xJ G l me mc ms Qv Qx cells slots pc ls st al n R I L := by
  intro p e s m args below meth c' H locs lsA C hH hS hl
  exact va_getsN C.1 C.2.1 C.2.2.2.2.2.2.2.2.2.1.2.2.1.1 hS C.2.2.2.2.2.2.1 (va_Nw.use rfl (C.2.2.2.2.2.2.2.2.2.1.2.2.2.2.2.1 _ hw)) (fun _ h9 => h9) hd (kk p e s m args below meth c' H locs lsA C hH hS hl)
theorem xr_tald0 {i x : Int32} (hd : decode me.2.1 pc = .ok (.iaload, 1)) (hi : vp_in i 8) (hx : xF8.getD i.toNatClampNeg 0 = x)
    (kk : xJ G l me mc ms Qv Qx cells slots (pc + 1) ls (.int x :: st) al n R I L) : xJ G l me mc ms Qv Qx cells slots pc ls (.int i :: .ref 1000000 :: st) al n R I L := by
  intro p e s m args below meth c' H locs lsA C hH hS hl
  exact va_ti (v := .int x) C.1 C.2.1 C.2.2.2.2.2.2.2.2.2.1.2.1.2 hS hi (by rw [← hx]) hd (kk p e s m args below meth c' H locs lsA C hH hS hl)
theorem xr_tald1 {i x : Int32} (hd : decode me.2.1 pc = .ok (.iaload, 1)) (hi : vp_in i 64) (hx : xK64.getD i.toNatClampNeg 0 = x)
    (kk : xJ G l me mc ms Qv Qx cells slots (pc + 1) ls (.int x :: st) al n R I L) : xJ G l me mc ms Qv Qx cells slots pc ls (.int i :: .ref 1000001 :: st) al n R I L := by
  intro p e s m args below meth c' H locs lsA C hH hS hl
  exact va_ti (v := .int x) C.1 C.2.1 C.2.2.2.2.2.2.2.2.2.1.2.2.1.2 hS hi (by rw [← hx]) hd (kk p e s m args below meth c' H locs lsA C hH hS hl)
/-! names for what was computed -/
theorem xr_topi {x : Int32} (kk : ∀ y : Int32, y = x → xJ G l me mc ms Qv Qx cells slots pc ls (.int y :: st) al n R I L) : xJ G l me mc ms Qv Qx cells slots pc ls (.int x :: st) al n R I L := kk x rfl
theorem xr_topl {x : Int64} (kk : ∀ y : Int64, y = x → xJ G l me mc ms Qv Qx cells slots pc ls (.long y :: st) al n R I L) : xJ G l me mc ms Qv Qx cells slots pc ls (.long x :: st) al n R I L := kk x rfl
/-! returns -/
theorem xend {p : Program} {e : Env} {s : State} {m : MethodId} {args : Array Value} {below : List Frame} {meth : Method} {c : Code} {H : Heap} {locs : List Loc} {g : JFrame} (h1 : cells ≤ mc) (h2 : slots ≤ ms) (k : W p l e (xrm me mc ms) s m args below meth c H locs mc ms (MQ below (xQc G al mc Qv) args s mc ms (xA G)) g) : W p l e (xrm me mc ms) s m args below meth c H locs cells slots (vx_MQ below (xQc G al mc Qv) (xXc G Qx) args s mc ms (xA G)) g := vx_ret (W.widen h1 h2 k)
theorem xend_q {v : Option Value} {s t : State} {H : Heap} {args : Array Value} {locs : List Loc} (hal : al = true → cells = mc) (hH : xH G n R I L H ∧ (al = true → s.heap.size + cells = xb G + n)) (hS : va_S (xA G) s.heap H locs) (ht : t.heap = H) (hq : Qv v (n, R, I, L)) : xQc G al mc Qv args s (.returned (v.map (xtr G))) t :=
  ⟨⟨v, (n, R, I, L), rfl, hq, by rw [ht]; exact hH.1, fun q => by rw [← hal q]; exact hH.2 q⟩, hS.F ht⟩
theorem xr_vret (hd : decode me.2.1 pc = .ok (.return_, 1)) (hr : me.2.2.2.1 = none) (h1 : cells ≤ mc) (h2 : slots ≤ ms) (hal : al = true → cells = mc) (hq : Qv none (n, R, I, L)) : xJ G l me mc ms Qv Qx cells slots pc ls [] al n R I L := by
  intro p e s m args below meth c' H locs lsA C hH hS hl
  exact xend h1 h2 (W.vret C.1 C.2.1 (C.2.2.2.1.trans hr) (fun t ht hW => xend_q hal hH hS ht hq) hS.2.2 hd C.2.2.2.2.1)
theorem xr_iret {x : Int32} (hd : decode me.2.1 pc = .ok (.ireturn, 1)) (hr : me.2.2.2.1 = some .int) (h1 : cells ≤ mc) (h2 : slots ≤ ms) (hal : al = true → cells = mc) (hq : Qv (some (.int x)) (n, R, I, L)) : xJ G l me mc ms Qv Qx cells slots pc ls [.int x] al n R I L := by
  intro p e s m args below meth c' H locs lsA C hH hS hl
  exact xend h1 h2 (W.iret C.1 C.2.1 (C.2.2.2.1.trans hr) (fun t ht hW => xend_q (v := some (.int x)) hal hH hS ht hq) hS.2.2 hd C.2.2.2.2.1)
theorem xr_zret {x : Int32} (hd : decode me.2.1 pc = .ok (.ireturn, 1)) (hr : me.2.2.2.1 = some .boolean) (hx : narrow .boolean (.int x) = .int x) (h1 : cells ≤ mc) (h2 : slots ≤ ms) (hal : al = true → cells = mc) (hq : Qv (some (.int x)) (n, R, I, L)) : xJ G l me mc ms Qv Qx cells slots pc ls [.int x] al n R I L := by
  intro p e s m args below meth c' H locs lsA C hH hS hl
  exact xend h1 h2 (W.zret (ty := .boolean) C.1 C.2.1 (C.2.2.2.1.trans hr) hx (fun t ht hW => xend_q (v := some (.int x)) hal hH hS ht hq) hS.2.2 hd C.2.2.2.2.1)
theorem xr_lret {x : Int64} (hd : decode me.2.1 pc = .ok (.lreturn, 1)) (hr : me.2.2.2.1 = some .long) (h1 : cells ≤ mc) (h2 : slots ≤ ms) (hal : al = true → cells = mc) (hq : Qv (some (.long x)) (n, R, I, L)) : xJ G l me mc ms Qv Qx cells slots pc ls [.long x] al n R I L := by
  intro p e s m args below meth c' H locs lsA C hH hS hl
  exact xend h1 h2 (W.lret C.1 C.2.1 (C.2.2.2.1.trans hr) (fun t ht hW => xend_q (v := some (.long x)) hal hH hS ht hq) hS.2.2 hd C.2.2.2.2.1)
theorem xr_aret {b : Nat} (hd : decode me.2.1 pc = .ok (.areturn, 1)) (hr : me.2.2.2.1 = some (.array .int)) (h1 : cells ≤ mc) (h2 : slots ≤ ms) (hal : al = true → cells = mc) (hq : Qv (some (.ref b)) (n, R, I, L)) : xJ G l me mc ms Qv Qx cells slots pc ls [.ref b] al n R I L := by
  intro p e s m args below meth c' H locs lsA C hH hS hl
  exact xend h1 h2 (W.aret C.1 C.2.1 (C.2.2.2.1.trans hr) (Or.inr ⟨_, rfl⟩) (Or.inr ⟨_, rfl⟩) (fun t ht hW => xend_q (v := some (.ref b)) hal hH hS ht hq) hS.2.2 hd C.2.2.2.2.1)
end XM
