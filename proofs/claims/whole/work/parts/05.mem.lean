section XM
variable {G : xG} {l : Launch} {me : xMe} {mc ms : Nat} {Qv : Option Value → xM → Prop} {Qx : String → xM → Prop} {cells slots pc : Nat} {ls : List (Nat × Value)} {st : List Value} {al : Bool} {n : Nat} {R : Nat → Nat → Option Nat} {I : Nat → Nat → Int32} {L : Nat → Nat → Int64}
theorem xad_in {k : Nat} (h : k < n) (hn : n ≤ 1000000) : xad G k = xb G + k := by
  rw [xad, if_pos (by omega)]
/-- a field that is read -/
theorem xr_get (c k : Nat) {idx a : Nat} {v : Value} (hd : decode me.2.1 pc = .ok (.getfield idx, 3)) (hw : Cond.fieldLink me.1.cls idx (xT c k).1 (xT c k).2.1 (xT c k).2.2.1 ∈ xws) (hc : c < 13) (hk : k < xN c) (ha : a < n) (hka : xkd G a = c) (hv : xfv G R I L (xty c k) a k = xtr G v)
    (kk : xJ G l me mc ms Qv Qx cells slots (pc + 3) ls (v :: st) al n R I L) : xJ G l me mc ms Qv Qx cells slots pc ls (.ref a :: st) al n R I L := by
  intro p e s m args below meth c' H locs lsA C hH hS hl
  have h1 := kk p e s m args below meth c' H locs lsA C hH hS hl
  show W _ _ _ _ _ _ _ _ _ _ _ _ _ _ _ (F0 m pc lsA (.ref (xad G a) :: st.map (xtr G)))
  rw [xad_in ha hH.1.2]
  exact va_get (D := xD G) (ci := c) (v := xtr G v) (C := xC c) (T := xT c) (N := xN c) C.1 C.2.1 C.2.2.2.2.2.2.2.1 (xcl_in c hc) C.2.2.2.2.2.2.1 C.2.2.2.2.2.2.2.2.1 hH.1.1 a (xp_obj ha hka hc) (xcl_at c hc) k hk (C.2.2.2.2.2.2.2.1 _ hw) (fun _ h9 => h9) (by rw [xfs_get hk, hv]) hd h1
theorem xr_getI (c k : Nat) {idx a : Nat} {x : Int32} (hd : decode me.2.1 pc = .ok (.getfield idx, 3)) (hw : Cond.fieldLink me.1.cls idx (xT c k).1 (xT c k).2.1 (xT c k).2.2.1 ∈ xws) (hc : c < 13) (hk : k < xN c) (ha : a < n) (hka : xkd G a = c) (ht : xfv G R I L (xty c k) a k = .int (I a k)) (hx : I a k = x)
    (kk : xJ G l me mc ms Qv Qx cells slots (pc + 3) ls (.int x :: st) al n R I L) : xJ G l me mc ms Qv Qx cells slots pc ls (.ref a :: st) al n R I L :=
  xr_get c k hd hw hc hk ha hka (by rw [ht, hx]; rfl) kk
theorem xr_getL (c k : Nat) {idx a : Nat} {x : Int64} (hd : decode me.2.1 pc = .ok (.getfield idx, 3)) (hw : Cond.fieldLink me.1.cls idx (xT c k).1 (xT c k).2.1 (xT c k).2.2.1 ∈ xws) (hc : c < 13) (hk : k < xN c) (ha : a < n) (hka : xkd G a = c) (ht : xfv G R I L (xty c k) a k = .long (L a k)) (hx : L a k = x)
    (kk : xJ G l me mc ms Qv Qx cells slots (pc + 3) ls (.long x :: st) al n R I L) : xJ G l me mc ms Qv Qx cells slots pc ls (.ref a :: st) al n R I L :=
  xr_get c k hd hw hc hk ha hka (by rw [ht, hx]; rfl) kk
theorem xr_getR (c k : Nat) {idx a b : Nat} (hd : decode me.2.1 pc = .ok (.getfield idx, 3)) (hw : Cond.fieldLink me.1.cls idx (xT c k).1 (xT c k).2.1 (xT c k).2.2.1 ∈ xws) (hc : c < 13) (hk : k < xN c) (ha : a < n) (hka : xkd G a = c) (ht : xfv G R I L (xty c k) a k = xrv G (R a k)) (hx : R a k = some b)
    (kk : xJ G l me mc ms Qv Qx cells slots (pc + 3) ls (.ref b :: st) al n R I L) : xJ G l me mc ms Qv Qx cells slots pc ls (.ref a :: st) al n R I L :=
  xr_get c k hd hw hc hk ha hka (by rw [ht, hx]; rfl) kk
/-- a field that is written -/
theorem xr_put (c k : Nat) {idx a : Nat} {v : Value} {R' : Nat → Nat → Option Nat} {I' : Nat → Nat → Int32} {L' : Nat → Nat → Int64} (hd : decode me.2.1 pc = .ok (.putfield idx, 3)) (hw : Cond.fieldLink me.1.cls idx (xT c k).1 (xT c k).2.1 (xT c k).2.2.1 ∈ xws) (hc : c < 13) (hk : k < xN c) (ha : a < n) (hka : xkd G a = c)
    (hfin : (xT c k).2.2.2 = false ∨ ((xT c k).2.2.2 = true ∧ me.1.name = "<init>" ∧ (xT c k).1 = me.1.cls)) (hn : narrow (xty c k) (xtr G v) = xtr G v) (hf : fits (xty c k) (xtr G v) = true)
    (hR : ∀ j, j ≠ a → R' j = R j) (hI : ∀ j, j ≠ a → I' j = I j) (hL : ∀ j, j ≠ a → L' j = L j) (hv : xtr G v = xfv G R' I' L' (xty c k) a k) (ho : ∀ i, i ≠ k → xfv G R' I' L' (xty c i) a i = xfv G R I L (xty c i) a i)
    (kk : xJ G l me mc ms Qv Qx cells slots (pc + 3) ls st al n R' I' L') : xJ G l me mc ms Qv Qx cells slots pc ls (v :: .ref a :: st) al n R I L := by
  intro p e s m args below meth c' H locs lsA C hH hS hl
  show W _ _ _ _ _ _ _ _ _ _ _ _ _ _ _ (F0 m pc lsA (xtr G v :: .ref (xad G a) :: st.map (xtr G)))
  rw [xad_in ha hH.1.2]
  have hset : (xp G n R I L).set a (xb G + a, .inr (c, (xfs G R I L c a).set k (xtr G v))) = xp G n R' I' L' := xp_set hR hI hL (by rw [xfs_set hk hv ho, xE, if_pos (by rw [hka]; exact hc), hka])
  have go : ∀ (H1 : Heap) (locs1 : List Loc), va_P (xD G) vwCl ((xp G n R I L).set a (xb G + a, .inr (c, (xfs G R I L c a).set k (xtr G v)))) H1 → va_D (xA G) ((xp G n R I L).set a (xb G + a, .inr (c, (xfs G R I L c a).set k (xtr G v)))) → va_S (xA G) s.heap H1 locs1 → W p l e (xrm me mc ms) s m args below meth c' H1 locs1 cells slots (vx_MQ below (xQc G al mc Qv) (xXc G Qx) args s mc ms (xA G)) (F0 m (pc + 3) lsA (st.map (xtr G))) := by
    intro H1 locs1 h1 _ h3
    rw [hset] at h1
    exact kk p e s m args below meth c' H1 locs1 lsA C ⟨⟨h1, hH.1.2⟩, hH.2⟩ h3 hl
  rcases hfin with hfin | ⟨hfin, hini, hown⟩
  · exact va_put (D := xD G) (ci := c) (v := xtr G v) (ty := xty c k) (C := xC c) (T := xT c) (N := xN c) C.1 C.2.1 C.2.2.2.2.2.2.2.1 (xcl_in c hc) (xty c) (xcl_ty c hc) (xcl_nm c hc) C.2.2.2.2.2.2.1 C.2.2.2.2.2.2.2.2.1 hH.1.1 xp_D hS a (xp_obj ha hka hc) (xcl_at c hc) k hk (C.2.2.2.2.2.2.2.1 _ hw) (fun _ h9 => h9) hfin (xcl_ty c hc k hk) hn hf (by rw [xfs_len]; exact hk) hd go
  · exact va_putF (D := xD G) (ci := c) (v := xtr G v) (ty := xty c k) (C := xC c) (T := xT c) (N := xN c) C.1 C.2.1 C.2.2.2.2.2.2.2.1 (xcl_in c hc) (xty c) (xcl_ty c hc) (xcl_nm c hc) C.2.2.2.2.2.2.1 C.2.2.2.2.2.2.2.2.1 hH.1.1 xp_D hS a (xp_obj ha hka hc) (xcl_at c hc) k hk (C.2.2.2.2.2.2.2.1 _ hw) (fun _ h9 => h9) hfin (C.2.2.2.2.2.2.2.2.2.2.trans hini) hown (xcl_ty c hc k hk) hn hf (by rw [xfs_len]; exact hk) hd go
end XM
