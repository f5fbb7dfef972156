theorem xin_of {ws : List Cond} (ps : List Nat) (hp : ws = ps.filterMap (fun i => lw_tbl[i]?)) (hg : ws.all goodWord = true) : ∀ w ∈ ws, w ∈ xws := by
  intro w hw
  have h1 := List.all_eq_true.mp hg w hw
  rw [hp] at hw
  obtain ⟨i, -, hi⟩ := List.mem_filterMap.mp hw
  exact xmem hi h1
set_option maxRecDepth 20000 in
theorem xinc0 : ∀ w ∈ u_ws RX0 TX0 4, w ∈ xws := xin_of [426, 428, 430, 432] (by decide +kernel) (by decide +kernel)
set_option maxRecDepth 20000 in
theorem xinc1 : ∀ w ∈ u_ws RX1 TX1 15, w ∈ xws := xin_of [172, 174, 176, 178, 180, 182, 184, 186, 188, 190, 192, 194, 196, 198, 200] (by decide +kernel) (by decide +kernel)
set_option maxRecDepth 20000 in
theorem xinc2 : ∀ w ∈ u_ws RX2 TX2 14, w ∈ xws := xin_of [359, 361, 363, 365, 367, 369, 371, 373, 375, 377, 379, 381, 383, 385] (by decide +kernel) (by decide +kernel)
set_option maxRecDepth 20000 in
theorem xinc3 : ∀ w ∈ u_ws RX3 TX3 5, w ∈ xws := xin_of [403, 405, 407, 409, 411] (by decide +kernel) (by decide +kernel)
set_option maxRecDepth 20000 in
theorem xinc4 : ∀ w ∈ u_ws RX4 TX4 6, w ∈ xws := xin_of [241, 243, 245, 247, 249, 251] (by decide +kernel) (by decide +kernel)
set_option maxRecDepth 20000 in
theorem xinc5 : ∀ w ∈ u_ws RX5 TX5 12, w ∈ xws := xin_of [462, 464, 466, 468, 470, 472, 474, 476, 478, 480, 482, 484] (by decide +kernel) (by decide +kernel)
set_option maxRecDepth 20000 in
theorem xinc6 : ∀ w ∈ u_ws RX6 TX6 9, w ∈ xws := xin_of [505, 507, 509, 511, 513, 515, 517, 519, 521] (by decide +kernel) (by decide +kernel)
set_option maxRecDepth 20000 in
theorem xinc7 : ∀ w ∈ u_ws RX7 TX7 5, w ∈ xws := xin_of [215, 217, 219, 221, 223] (by decide +kernel) (by decide +kernel)
set_option maxRecDepth 20000 in
theorem xinc8 : ∀ w ∈ u_ws RX8 TX8 20, w ∈ xws := xin_of [563, 565, 567, 569, 571, 573, 575, 577, 579, 581, 583, 585, 587, 589, 591, 593, 595, 597, 599, 601] (by decide +kernel) (by decide +kernel)
set_option maxRecDepth 20000 in
theorem xinc9 : ∀ w ∈ u_ws RX9 TX9 15, w ∈ xws := xin_of [299, 301, 303, 305, 307, 309, 311, 313, 315, 317, 319, 321, 323, 325, 327] (by decide +kernel) (by decide +kernel)
set_option maxRecDepth 20000 in
theorem xinc10 : ∀ w ∈ u_ws RX10 TX10 2, w ∈ xws := xin_of [531, 533] (by decide +kernel) (by decide +kernel)
set_option maxRecDepth 20000 in
theorem xinc11 : ∀ w ∈ u_ws RX11 TX11 6, w ∈ xws := xin_of [654, 656, 658, 660, 662, 664] (by decide +kernel) (by decide +kernel)
set_option maxRecDepth 20000 in
theorem xinc12 : ∀ w ∈ u_ws RX12 TX12 73, w ∈ xws := xin_of [1614, 1616, 1618, 1620, 1622, 1624, 1626, 1628, 1630, 1632, 1634, 1636, 1638, 1640, 1642, 1644, 1646, 1648, 1650, 1652, 1654, 1656, 1658, 1660, 1662, 1664, 1666, 1668, 1670, 1672, 1674, 1676, 1678, 1680, 1682, 1684, 1686, 1688, 1690, 1692, 1694, 1696, 1698, 1700, 1702, 1704, 1706, 1708, 1710, 1712, 1714, 1716, 1718, 1720, 1722, 1724, 1726, 1728, 1730, 1732, 1734, 1736, 1738, 1740, 1742, 1744, 1746, 1748, 1750, 1752, 1754, 1756, 1758] (by decide +kernel) (by decide +kernel)
theorem xcl_at : ∀ c, c < 13 → vwCl[c]? = some (xC c, xT c, xN c)
  | 0, _ => rfl
  | 1, _ => rfl
  | 2, _ => rfl
  | 3, _ => rfl
  | 4, _ => rfl
  | 5, _ => rfl
  | 6, _ => rfl
  | 7, _ => rfl
  | 8, _ => rfl
  | 9, _ => rfl
  | 10, _ => rfl
  | 11, _ => rfl
  | 12, _ => rfl
  | c + 13, h => absurd h (by omega)
theorem xcl_in : ∀ c, c < 13 → ∀ w ∈ u_ws (xC c) (xT c) (xN c), w ∈ xws
  | 0, _ => xinc0
  | 1, _ => xinc1
  | 2, _ => xinc2
  | 3, _ => xinc3
  | 4, _ => xinc4
  | 5, _ => xinc5
  | 6, _ => xinc6
  | 7, _ => xinc7
  | 8, _ => xinc8
  | 9, _ => xinc9
  | 10, _ => xinc10
  | 11, _ => xinc11
  | 12, _ => xinc12
  | c + 13, h => absurd h (by omega)
theorem xcl_ty : ∀ c, c < 13 → ∀ k, k < xN c → parseFieldDescriptor (xT c k).2.2.1 = some (xty c k)
  | 0, _ => tyX0_ok
  | 1, _ => tyX1_ok
  | 2, _ => tyX2_ok
  | 3, _ => tyX3_ok
  | 4, _ => tyX4_ok
  | 5, _ => tyX5_ok
  | 6, _ => tyX6_ok
  | 7, _ => tyX7_ok
  | 8, _ => tyX8_ok
  | 9, _ => tyX9_ok
  | 10, _ => tyX10_ok
  | 11, _ => tyX11_ok
  | 12, _ => tyX12_ok
  | c + 13, h => absurd h (by omega)
theorem xcl_nm : ∀ c, c < 13 → ∀ a, a < xN c → ∀ b, b < xN c → a ≠ b → (xT c a).2.1 ≠ (xT c b).2.1
  | 0, _ => nmX0
  | 1, _ => nmX1
  | 2, _ => nmX2
  | 3, _ => nmX3
  | 4, _ => nmX4
  | 5, _ => nmX5
  | 6, _ => nmX6
  | 7, _ => nmX7
  | 8, _ => nmX8
  | 9, _ => nmX9
  | 10, _ => nmX10
  | 11, _ => nmX11
  | 12, _ => nmX12
  | c + 13, h => absurd h (by omega)
section XR
variable {G : xG} {l : Launch} {me : xMe} {mc ms : Nat} {Qv : Option Value → xM → Prop} {Qx : String → xM → Prop} {cells slots pc : Nat} {ls : List (Nat × Value)} {st : List Value} {al : Bool} {n : Nat} {R : Nat → Nat → Option Nat} {I : Nat → Nat → Int32} {L : Nat → Nat → Int64}
theorem xr_iconst {z : Int} {v : Int32} (hd : decode me.2.1 pc = .ok (.iconst z, 1)) (hv : Int32.ofInt z = v) (kk : xJ G l me mc ms Qv Qx cells slots (pc + 1) ls (.int v :: st) al n R I L) : xJ G l me mc ms Qv Qx cells slots (pc) ls (st) al n R I L := by
  intro p e s m args below meth c H locs lsA C hH hS hl
  exact lv_iconst C.1 C.2.1 hd hv (kk p e s m args below meth c H locs lsA C hH hS hl)
theorem xr_bipush {z : Int} {v : Int32} (hd : decode me.2.1 pc = .ok (.bipush z, 2)) (hv : (Int8.ofInt z).toInt32 = v) (kk : xJ G l me mc ms Qv Qx cells slots (pc + 2) ls (.int v :: st) al n R I L) : xJ G l me mc ms Qv Qx cells slots (pc) ls (st) al n R I L := by
  intro p e s m args below meth c H locs lsA C hH hS hl
  exact lv_bipush C.1 C.2.1 hd hv (kk p e s m args below meth c H locs lsA C hH hS hl)
theorem xr_sipush {z : Int} {v : Int32} (hd : decode me.2.1 pc = .ok (.sipush z, 3)) (hv : (Int16.ofInt z).toInt32 = v) (kk : xJ G l me mc ms Qv Qx cells slots (pc + 3) ls (.int v :: st) al n R I L) : xJ G l me mc ms Qv Qx cells slots (pc) ls (st) al n R I L := by
  intro p e s m args below meth c H locs lsA C hH hS hl
  exact lv_sipush C.1 C.2.1 hd hv (kk p e s m args below meth c H locs lsA C hH hS hl)
theorem xr_lconst {z : Fin 2} {v : Int64} (hd : decode me.2.1 pc = .ok (.lconst z, 1)) (hv : Int64.ofNat (z : Nat) = v) (kk : xJ G l me mc ms Qv Qx cells slots (pc + 1) ls (.long v :: st) al n R I L) : xJ G l me mc ms Qv Qx cells slots (pc) ls (st) al n R I L := by
  intro p e s m args below meth c H locs lsA C hH hS hl
  exact lv_lconst C.1 C.2.1 hd hv (kk p e s m args below meth c H locs lsA C hH hS hl)
theorem xr_ldc {ix : Nat} {v : Int32} (hd : decode me.2.1 pc = .ok (.ldc ix, 2)) (hw : Cond.constant me.1.cls ix v ∈ xws) (kk : xJ G l me mc ms Qv Qx cells slots (pc + 2) ls (.int v :: st) al n R I L) : xJ G l me mc ms Qv Qx cells slots (pc) ls (st) al n R I L := by
  intro p e s m args below meth c H locs lsA C hH hS hl
  exact lv_ldc C.1 C.2.1 C.2.2.2.2.2.2.1 (C.2.2.2.2.2.2.2.1 _ hw) hd (kk p e s m args below meth c H locs lsA C hH hS hl)
theorem xr_ldc_w {ix : Nat} {v : Int32} (hd : decode me.2.1 pc = .ok (.ldc_w ix, 3)) (hw : Cond.constant me.1.cls ix v ∈ xws) (kk : xJ G l me mc ms Qv Qx cells slots (pc + 3) ls (.int v :: st) al n R I L) : xJ G l me mc ms Qv Qx cells slots (pc) ls (st) al n R I L := by
  intro p e s m args below meth c H locs lsA C hH hS hl
  exact lv_ldcw C.1 C.2.1 C.2.2.2.2.2.2.1 (C.2.2.2.2.2.2.2.1 _ hw) hd (kk p e s m args below meth c H locs lsA C hH hS hl)
theorem xr_ldc2_w {ix : Nat} {v : Int64} (hd : decode me.2.1 pc = .ok (.ldc2_w ix, 3)) (hw : Cond.constantLong me.1.cls ix v ∈ xws) (kk : xJ G l me mc ms Qv Qx cells slots (pc + 3) ls (.long v :: st) al n R I L) : xJ G l me mc ms Qv Qx cells slots (pc) ls (st) al n R I L := by
  intro p e s m args below meth c H locs lsA C hH hS hl
  exact lv_ldc2 C.1 C.2.1 C.2.2.2.2.2.2.1 (C.2.2.2.2.2.2.2.1 _ hw) hd (kk p e s m args below meth c H locs lsA C hH hS hl)
theorem xr_iload_n {k : Fin 4} {x : Int32} (hd : decode me.2.1 pc = .ok (.iload_n k, 1)) (j : Nat) (hj : ls[j]? = some ((k : Nat), .int x)) (kk : xJ G l me mc ms Qv Qx cells slots (pc + 1) ls (.int x :: st) al n R I L) : xJ G l me mc ms Qv Qx cells slots (pc) ls (st) al n R I L := by
  intro p e s m args below meth c H locs lsA C hH hS hl
  exact lv_iload_n C.1 C.2.1 hd rfl (lv_at hl j (xtl_at hj)) (kk p e s m args below meth c H locs lsA C hH hS hl)
theorem xr_iload {i : Nat} {x : Int32} (hd : decode me.2.1 pc = .ok (.iload i, 2)) (j : Nat) (hj : ls[j]? = some (i, .int x)) (kk : xJ G l me mc ms Qv Qx cells slots (pc + 2) ls (.int x :: st) al n R I L) : xJ G l me mc ms Qv Qx cells slots (pc) ls (st) al n R I L := by
  intro p e s m args below meth c H locs lsA C hH hS hl
  exact lv_iload C.1 C.2.1 hd (lv_at hl j (xtl_at hj)) (kk p e s m args below meth c H locs lsA C hH hS hl)
theorem xr_lload_n {k : Fin 4} {x : Int64} (hd : decode me.2.1 pc = .ok (.lload_n k, 1)) (j : Nat) (hj : ls[j]? = some ((k : Nat), .long x)) (kk : xJ G l me mc ms Qv Qx cells slots (pc + 1) ls (.long x :: st) al n R I L) : xJ G l me mc ms Qv Qx cells slots (pc) ls (st) al n R I L := by
  intro p e s m args below meth c H locs lsA C hH hS hl
  exact lv_lload_n C.1 C.2.1 hd rfl (lv_at hl j (xtl_at hj)) (kk p e s m args below meth c H locs lsA C hH hS hl)
theorem xr_lload {i : Nat} {x : Int64} (hd : decode me.2.1 pc = .ok (.lload i, 2)) (j : Nat) (hj : ls[j]? = some (i, .long x)) (kk : xJ G l me mc ms Qv Qx cells slots (pc + 2) ls (.long x :: st) al n R I L) : xJ G l me mc ms Qv Qx cells slots (pc) ls (st) al n R I L := by
  intro p e s m args below meth c H locs lsA C hH hS hl
  exact lv_lload C.1 C.2.1 hd (lv_at hl j (xtl_at hj)) (kk p e s m args below meth c H locs lsA C hH hS hl)
theorem xr_aload_n {k : Fin 4} {x : Nat} (hd : decode me.2.1 pc = .ok (.aload_n k, 1)) (j : Nat) (hj : ls[j]? = some ((k : Nat), .ref x)) (kk : xJ G l me mc ms Qv Qx cells slots (pc + 1) ls (.ref x :: st) al n R I L) : xJ G l me mc ms Qv Qx cells slots (pc) ls (st) al n R I L := by
  intro p e s m args below meth c H locs lsA C hH hS hl
  exact lv_aload_n C.1 C.2.1 hd rfl (lv_at hl j (xtl_at hj)) (kk p e s m args below meth c H locs lsA C hH hS hl)
theorem xr_aload {i : Nat} {x : Nat} (hd : decode me.2.1 pc = .ok (.aload i, 2)) (j : Nat) (hj : ls[j]? = some (i, .ref x)) (kk : xJ G l me mc ms Qv Qx cells slots (pc + 2) ls (.ref x :: st) al n R I L) : xJ G l me mc ms Qv Qx cells slots (pc) ls (st) al n R I L := by
  intro p e s m args below meth c H locs lsA C hH hS hl
  exact lv_aload C.1 C.2.1 hd (lv_at hl j (xtl_at hj)) (kk p e s m args below meth c H locs lsA C hH hS hl)
theorem xr_istore_n {k : Fin 4} {i : Nat} {x : Int32} (ls' : List (Nat × Value)) (hd : decode me.2.1 pc = .ok (.istore_n k, 1)) (hi : (k : Nat) = i) (hn : i < me.2.2.1) (hs : xs1 i (.int x) ls = ls') (kk : xJ G l me mc ms Qv Qx cells slots (pc + 1) ls' (st) al n R I L) : xJ G l me mc ms Qv Qx cells slots (pc) ls (.int x :: st) al n R I L := by
  intro p e s m args below meth c H locs lsA C hH hS hl
  subst hs
  exact lv_istore_n C.1 C.2.1 hd hi hl hn rfl (fun A hA => kk p e s m args below meth c H locs A C hH hS (xs1_has hA))
theorem xr_istore {i : Nat} {x : Int32} (ls' : List (Nat × Value)) (hd : decode me.2.1 pc = .ok (.istore i, 2)) (hn : i < me.2.2.1) (hs : xs1 i (.int x) ls = ls') (kk : xJ G l me mc ms Qv Qx cells slots (pc + 2) ls' (st) al n R I L) : xJ G l me mc ms Qv Qx cells slots (pc) ls (.int x :: st) al n R I L := by
  intro p e s m args below meth c H locs lsA C hH hS hl
  subst hs
  exact lv_istore C.1 C.2.1 hd hl hn rfl (fun A hA => kk p e s m args below meth c H locs A C hH hS (xs1_has hA))
theorem xr_lstore_n {k : Fin 4} {i : Nat} {x : Int64} (ls' : List (Nat × Value)) (hd : decode me.2.1 pc = .ok (.lstore_n k, 1)) (hi : (k : Nat) = i) (hn : i + 1 < me.2.2.1) (hs : xs2 i (.long x) ls = ls') (kk : xJ G l me mc ms Qv Qx cells slots (pc + 1) ls' (st) al n R I L) : xJ G l me mc ms Qv Qx cells slots (pc) ls (.long x :: st) al n R I L := by
  intro p e s m args below meth c H locs lsA C hH hS hl
  subst hs
  exact lv_lstore_n C.1 C.2.1 hd hi hl hn rfl (fun A hA => kk p e s m args below meth c H locs A C hH hS (xs2_has hA))
theorem xr_lstore {i : Nat} {x : Int64} (ls' : List (Nat × Value)) (hd : decode me.2.1 pc = .ok (.lstore i, 2)) (hn : i + 1 < me.2.2.1) (hs : xs2 i (.long x) ls = ls') (kk : xJ G l me mc ms Qv Qx cells slots (pc + 2) ls' (st) al n R I L) : xJ G l me mc ms Qv Qx cells slots (pc) ls (.long x :: st) al n R I L := by
  intro p e s m args below meth c H locs lsA C hH hS hl
  subst hs
  exact lv_lstore C.1 C.2.1 hd hl hn rfl (fun A hA => kk p e s m args below meth c H locs A C hH hS (xs2_has hA))
theorem xr_astore_n {k : Fin 4} {i : Nat} {x : Nat} (ls' : List (Nat × Value)) (hd : decode me.2.1 pc = .ok (.astore_n k, 1)) (hi : (k : Nat) = i) (hn : i < me.2.2.1) (hs : xs1 i (.ref x) ls = ls') (kk : xJ G l me mc ms Qv Qx cells slots (pc + 1) ls' (st) al n R I L) : xJ G l me mc ms Qv Qx cells slots (pc) ls (.ref x :: st) al n R I L := by
  intro p e s m args below meth c H locs lsA C hH hS hl
  subst hs
  exact lv_astore_n C.1 C.2.1 hd hi hl hn rfl (fun A hA => kk p e s m args below meth c H locs A C hH hS (xs1_has hA))
theorem xr_astore {i : Nat} {x : Nat} (ls' : List (Nat × Value)) (hd : decode me.2.1 pc = .ok (.astore i, 2)) (hn : i < me.2.2.1) (hs : xs1 i (.ref x) ls = ls') (kk : xJ G l me mc ms Qv Qx cells slots (pc + 2) ls' (st) al n R I L) : xJ G l me mc ms Qv Qx cells slots (pc) ls (.ref x :: st) al n R I L := by
  intro p e s m args below meth c H locs lsA C hH hS hl
  subst hs
  exact lv_astore C.1 C.2.1 hd hl hn rfl (fun A hA => kk p e s m args below meth c H locs A C hH hS (xs1_has hA))
theorem xr_iinc {i : Nat} {z : Int} {x v : Int32} (ls' : List (Nat × Value)) (hd : decode me.2.1 pc = .ok (.iinc i z, 3)) (j : Nat) (hj : ls[j]? = some (i, .int x)) (hv : x + Int32.ofInt z = v) (hn : i < me.2.2.1) (hs : xs1 i (.int v) ls = ls') (kk : xJ G l me mc ms Qv Qx cells slots (pc + 3) ls' (st) al n R I L) : xJ G l me mc ms Qv Qx cells slots (pc) ls (st) al n R I L := by
  intro p e s m args below meth c H locs lsA C hH hS hl
  subst hs
  exact lv_iinc C.1 C.2.1 hd hl (xtl_at hj) hv hn rfl (fun A hA => kk p e s m args below meth c H locs A C hH hS (xs1_has hA))
theorem xr_iadd {x y : Int32} (hd : decode me.2.1 pc = .ok (.iadd, 1)) (kk : xJ G l me mc ms Qv Qx cells slots (pc + 1) ls (.int (x + y) :: st) al n R I L) : xJ G l me mc ms Qv Qx cells slots (pc) ls (.int y :: .int x :: st) al n R I L := by
  intro p e s m args below meth c H locs lsA C hH hS hl
  exact lv_iadd C.1 C.2.1 hd (kk p e s m args below meth c H locs lsA C hH hS hl)
theorem xr_isub {x y : Int32} (hd : decode me.2.1 pc = .ok (.isub, 1)) (kk : xJ G l me mc ms Qv Qx cells slots (pc + 1) ls (.int (x - y) :: st) al n R I L) : xJ G l me mc ms Qv Qx cells slots (pc) ls (.int y :: .int x :: st) al n R I L := by
  intro p e s m args below meth c H locs lsA C hH hS hl
  exact lv_isub C.1 C.2.1 hd (kk p e s m args below meth c H locs lsA C hH hS hl)
theorem xr_imul {x y : Int32} (hd : decode me.2.1 pc = .ok (.imul, 1)) (kk : xJ G l me mc ms Qv Qx cells slots (pc + 1) ls (.int (x * y) :: st) al n R I L) : xJ G l me mc ms Qv Qx cells slots (pc) ls (.int y :: .int x :: st) al n R I L := by
  intro p e s m args below meth c H locs lsA C hH hS hl
  exact lv_imul C.1 C.2.1 hd (kk p e s m args below meth c H locs lsA C hH hS hl)
theorem xr_iand {x y : Int32} (hd : decode me.2.1 pc = .ok (.iand, 1)) (kk : xJ G l me mc ms Qv Qx cells slots (pc + 1) ls (.int (x &&& y) :: st) al n R I L) : xJ G l me mc ms Qv Qx cells slots (pc) ls (.int y :: .int x :: st) al n R I L := by
  intro p e s m args below meth c H locs lsA C hH hS hl
  exact lv_iand C.1 C.2.1 hd (kk p e s m args below meth c H locs lsA C hH hS hl)
theorem xr_ior {x y : Int32} (hd : decode me.2.1 pc = .ok (.ior, 1)) (kk : xJ G l me mc ms Qv Qx cells slots (pc + 1) ls (.int (x ||| y) :: st) al n R I L) : xJ G l me mc ms Qv Qx cells slots (pc) ls (.int y :: .int x :: st) al n R I L := by
  intro p e s m args below meth c H locs lsA C hH hS hl
  exact lv_ior C.1 C.2.1 hd (kk p e s m args below meth c H locs lsA C hH hS hl)
theorem xr_ixor {x y : Int32} (hd : decode me.2.1 pc = .ok (.ixor, 1)) (kk : xJ G l me mc ms Qv Qx cells slots (pc + 1) ls (.int (x ^^^ y) :: st) al n R I L) : xJ G l me mc ms Qv Qx cells slots (pc) ls (.int y :: .int x :: st) al n R I L := by
  intro p e s m args below meth c H locs lsA C hH hS hl
  exact lv_ixor C.1 C.2.1 hd (kk p e s m args below meth c H locs lsA C hH hS hl)
theorem xr_ishl {x y : Int32} (hd : decode me.2.1 pc = .ok (.ishl, 1)) (kk : xJ G l me mc ms Qv Qx cells slots (pc + 1) ls (.int (x <<< (y &&& 31)) :: st) al n R I L) : xJ G l me mc ms Qv Qx cells slots (pc) ls (.int y :: .int x :: st) al n R I L := by
  intro p e s m args below meth c H locs lsA C hH hS hl
  exact lv_ishl C.1 C.2.1 hd (kk p e s m args below meth c H locs lsA C hH hS hl)
theorem xr_ishr {x y : Int32} (hd : decode me.2.1 pc = .ok (.ishr, 1)) (kk : xJ G l me mc ms Qv Qx cells slots (pc + 1) ls (.int (x >>> (y &&& 31)) :: st) al n R I L) : xJ G l me mc ms Qv Qx cells slots (pc) ls (.int y :: .int x :: st) al n R I L := by
  intro p e s m args below meth c H locs lsA C hH hS hl
  exact lv_ishr C.1 C.2.1 hd (kk p e s m args below meth c H locs lsA C hH hS hl)
theorem xr_iushr {x y : Int32} (hd : decode me.2.1 pc = .ok (.iushr, 1)) (kk : xJ G l me mc ms Qv Qx cells slots (pc + 1) ls (.int ((x.toUInt32 >>> (y.toUInt32 &&& Int32.toUInt32 31)).toInt32) :: st) al n R I L) : xJ G l me mc ms Qv Qx cells slots (pc) ls (.int y :: .int x :: st) al n R I L := by
  intro p e s m args below meth c H locs lsA C hH hS hl
  exact lv_iushr C.1 C.2.1 hd rfl (kk p e s m args below meth c H locs lsA C hH hS hl)
theorem xr_idiv {x y : Int32} (hd : decode me.2.1 pc = .ok (.idiv, 1)) (hne : ¬ y = 0) (kk : xJ G l me mc ms Qv Qx cells slots (pc + 1) ls (.int (x / y) :: st) al n R I L) : xJ G l me mc ms Qv Qx cells slots (pc) ls (.int y :: .int x :: st) al n R I L := by
  intro p e s m args below meth c H locs lsA C hH hS hl
  exact lv_idiv C.1 C.2.1 hd hne (kk p e s m args below meth c H locs lsA C hH hS hl)
theorem xr_irem {x y : Int32} (hd : decode me.2.1 pc = .ok (.irem, 1)) (hne : ¬ y = 0) (kk : xJ G l me mc ms Qv Qx cells slots (pc + 1) ls (.int (x - x / y * y) :: st) al n R I L) : xJ G l me mc ms Qv Qx cells slots (pc) ls (.int y :: .int x :: st) al n R I L := by
  intro p e s m args below meth c H locs lsA C hH hS hl
  exact lv_irem C.1 C.2.1 hd hne (kk p e s m args below meth c H locs lsA C hH hS hl)
theorem xr_ineg {x : Int32} (hd : decode me.2.1 pc = .ok (.ineg, 1)) (kk : xJ G l me mc ms Qv Qx cells slots (pc + 1) ls (.int (-x) :: st) al n R I L) : xJ G l me mc ms Qv Qx cells slots (pc) ls (.int x :: st) al n R I L := by
  intro p e s m args below meth c H locs lsA C hH hS hl
  exact lv_ineg C.1 C.2.1 hd (kk p e s m args below meth c H locs lsA C hH hS hl)
theorem xr_ladd {x y : Int64} (hd : decode me.2.1 pc = .ok (.ladd, 1)) (kk : xJ G l me mc ms Qv Qx cells slots (pc + 1) ls (.long (x + y) :: st) al n R I L) : xJ G l me mc ms Qv Qx cells slots (pc) ls (.long y :: .long x :: st) al n R I L := by
  intro p e s m args below meth c H locs lsA C hH hS hl
  exact lv_ladd C.1 C.2.1 hd (kk p e s m args below meth c H locs lsA C hH hS hl)
theorem xr_lsub {x y : Int64} (hd : decode me.2.1 pc = .ok (.lsub, 1)) (kk : xJ G l me mc ms Qv Qx cells slots (pc + 1) ls (.long (x - y) :: st) al n R I L) : xJ G l me mc ms Qv Qx cells slots (pc) ls (.long y :: .long x :: st) al n R I L := by
  intro p e s m args below meth c H locs lsA C hH hS hl
  exact lv_lsub C.1 C.2.1 hd (kk p e s m args below meth c H locs lsA C hH hS hl)
theorem xr_lmul {x y : Int64} (hd : decode me.2.1 pc = .ok (.lmul, 1)) (kk : xJ G l me mc ms Qv Qx cells slots (pc + 1) ls (.long (x * y) :: st) al n R I L) : xJ G l me mc ms Qv Qx cells slots (pc) ls (.long y :: .long x :: st) al n R I L := by
  intro p e s m args below meth c H locs lsA C hH hS hl
  exact lv_lmul C.1 C.2.1 hd (kk p e s m args below meth c H locs lsA C hH hS hl)
theorem xr_land {x y : Int64} (hd : decode me.2.1 pc = .ok (.land, 1)) (kk : xJ G l me mc ms Qv Qx cells slots (pc + 1) ls (.long (x &&& y) :: st) al n R I L) : xJ G l me mc ms Qv Qx cells slots (pc) ls (.long y :: .long x :: st) al n R I L := by
  intro p e s m args below meth c H locs lsA C hH hS hl
  exact lv_land C.1 C.2.1 hd (kk p e s m args below meth c H locs lsA C hH hS hl)
theorem xr_lor {x y : Int64} (hd : decode me.2.1 pc = .ok (.lor, 1)) (kk : xJ G l me mc ms Qv Qx cells slots (pc + 1) ls (.long (x ||| y) :: st) al n R I L) : xJ G l me mc ms Qv Qx cells slots (pc) ls (.long y :: .long x :: st) al n R I L := by
  intro p e s m args below meth c H locs lsA C hH hS hl
  exact lv_lor C.1 C.2.1 hd (kk p e s m args below meth c H locs lsA C hH hS hl)
theorem xr_lxor {x y : Int64} (hd : decode me.2.1 pc = .ok (.lxor, 1)) (kk : xJ G l me mc ms Qv Qx cells slots (pc + 1) ls (.long (x ^^^ y) :: st) al n R I L) : xJ G l me mc ms Qv Qx cells slots (pc) ls (.long y :: .long x :: st) al n R I L := by
  intro p e s m args below meth c H locs lsA C hH hS hl
  exact lv_lxor C.1 C.2.1 hd (kk p e s m args below meth c H locs lsA C hH hS hl)
theorem xr_lrem {x y : Int64} (hd : decode me.2.1 pc = .ok (.lrem, 1)) (hne : ¬ y = 0) (kk : xJ G l me mc ms Qv Qx cells slots (pc + 1) ls (.long (x - x / y * y) :: st) al n R I L) : xJ G l me mc ms Qv Qx cells slots (pc) ls (.long y :: .long x :: st) al n R I L := by
  intro p e s m args below meth c H locs lsA C hH hS hl
  exact lv_lrem C.1 C.2.1 hd hne (kk p e s m args below meth c H locs lsA C hH hS hl)
theorem xr_lshl {x : Int64} {y : Int32} (hd : decode me.2.1 pc = .ok (.lshl, 1)) (kk : xJ G l me mc ms Qv Qx cells slots (pc + 1) ls (.long (x <<< (y.toInt64 &&& 63)) :: st) al n R I L) : xJ G l me mc ms Qv Qx cells slots (pc) ls (.int y :: .long x :: st) al n R I L := by
  intro p e s m args below meth c H locs lsA C hH hS hl
  exact lv_lshl C.1 C.2.1 hd rfl (kk p e s m args below meth c H locs lsA C hH hS hl)
theorem xr_lshr {x : Int64} {y : Int32} (hd : decode me.2.1 pc = .ok (.lshr, 1)) (kk : xJ G l me mc ms Qv Qx cells slots (pc + 1) ls (.long (x >>> (y.toInt64 &&& 63)) :: st) al n R I L) : xJ G l me mc ms Qv Qx cells slots (pc) ls (.int y :: .long x :: st) al n R I L := by
  intro p e s m args below meth c H locs lsA C hH hS hl
  exact lv_lshr C.1 C.2.1 hd rfl (kk p e s m args below meth c H locs lsA C hH hS hl)
theorem xr_lushr {x : Int64} {y : Int32} (hd : decode me.2.1 pc = .ok (.lushr, 1)) (kk : xJ G l me mc ms Qv Qx cells slots (pc + 1) ls (.long ((x.toUInt64 >>> (y.toInt64.toUInt64 &&& Int64.toUInt64 63)).toInt64) :: st) al n R I L) : xJ G l me mc ms Qv Qx cells slots (pc) ls (.int y :: .long x :: st) al n R I L := by
  intro p e s m args below meth c H locs lsA C hH hS hl
  exact lv_lushr C.1 C.2.1 hd rfl (kk p e s m args below meth c H locs lsA C hH hS hl)
theorem xr_i2l {x : Int32} (hd : decode me.2.1 pc = .ok (.i2l, 1)) (kk : xJ G l me mc ms Qv Qx cells slots (pc + 1) ls (.long x.toInt64 :: st) al n R I L) : xJ G l me mc ms Qv Qx cells slots (pc) ls (.int x :: st) al n R I L := by
  intro p e s m args below meth c H locs lsA C hH hS hl
  exact lv_i2l C.1 C.2.1 hd rfl (kk p e s m args below meth c H locs lsA C hH hS hl)
theorem xr_l2i {x : Int64} (hd : decode me.2.1 pc = .ok (.l2i, 1)) (kk : xJ G l me mc ms Qv Qx cells slots (pc + 1) ls (.int x.toInt32 :: st) al n R I L) : xJ G l me mc ms Qv Qx cells slots (pc) ls (.long x :: st) al n R I L := by
  intro p e s m args below meth c H locs lsA C hH hS hl
  exact lv_l2i C.1 C.2.1 hd rfl (kk p e s m args below meth c H locs lsA C hH hS hl)
theorem xr_lcmp {x y : Int64} (hd : decode me.2.1 pc = .ok (.lcmp, 1)) (kk : xJ G l me mc ms Qv Qx cells slots (pc + 1) ls (.int (lg_cmp x y) :: st) al n R I L) : xJ G l me mc ms Qv Qx cells slots (pc) ls (.long y :: .long x :: st) al n R I L := by
  intro p e s m args below meth c H locs lsA C hH hS hl
  exact W.lcmp C.1 C.2.1 hd (kk p e s m args below meth c H locs lsA C hH hS hl)
theorem xr_dup {a : Value} (hd : decode me.2.1 pc = .ok (.dup, 1)) (ha : a.category = 1) (kk : xJ G l me mc ms Qv Qx cells slots (pc + 1) ls (a :: a :: st) al n R I L) : xJ G l me mc ms Qv Qx cells slots (pc) ls (a :: st) al n R I L := by
  intro p e s m args below meth c H locs lsA C hH hS hl
  exact lv_dup C.1 C.2.1 hd (by rw [xtr_cat]; exact ha) (kk p e s m args below meth c H locs lsA C hH hS hl)
theorem xr_dup2 {a b : Value} (hd : decode me.2.1 pc = .ok (.dup2, 1)) (ha : a.category = 1) (hb : b.category = 1) (kk : xJ G l me mc ms Qv Qx cells slots (pc + 1) ls (a :: b :: a :: b :: st) al n R I L) : xJ G l me mc ms Qv Qx cells slots (pc) ls (a :: b :: st) al n R I L := by
  intro p e s m args below meth c H locs lsA C hH hS hl
  exact lv_dup2_11 C.1 C.2.1 hd (by rw [xtr_cat]; exact ha) (by rw [xtr_cat]; exact hb) (kk p e s m args below meth c H locs lsA C hH hS hl)
theorem xr_dup2_2 {a : Value} (hd : decode me.2.1 pc = .ok (.dup2, 1)) (ha : a.category = 2) (kk : xJ G l me mc ms Qv Qx cells slots (pc + 1) ls (a :: a :: st) al n R I L) : xJ G l me mc ms Qv Qx cells slots (pc) ls (a :: st) al n R I L := by
  intro p e s m args below meth c H locs lsA C hH hS hl
  exact lv_dup2_2 C.1 C.2.1 hd (by rw [xtr_cat]; exact ha) (kk p e s m args below meth c H locs lsA C hH hS hl)
theorem xr_pop {a : Value} (hd : decode me.2.1 pc = .ok (.pop, 1)) (ha : a.category = 1) (kk : xJ G l me mc ms Qv Qx cells slots (pc + 1) ls (st) al n R I L) : xJ G l me mc ms Qv Qx cells slots (pc) ls (a :: st) al n R I L := by
  intro p e s m args below meth c H locs lsA C hH hS hl
  exact lv_pop C.1 C.2.1 hd (by rw [xtr_cat]; exact ha) (kk p e s m args below meth c H locs lsA C hH hS hl)
theorem xr_if_eq {x : Int32} {off : Int} (tgt : Nat) (hd : decode me.2.1 pc = .ok (.ifCond .eq off, 3)) (ht : (pc : Int) + off = (tgt : Int)) (kt : x = 0 → xJ G l me mc ms Qv Qx cells slots (tgt) ls (st) al n R I L) (kf : ¬ x = 0 → xJ G l me mc ms Qv Qx cells slots (pc + 3) ls (st) al n R I L) : xJ G l me mc ms Qv Qx cells slots (pc) ls (.int x :: st) al n R I L := by
  intro p e s m args below meth c H locs lsA C hH hS hl
  exact lv_if_eq C.1 C.2.1 hd ht (fun q => kt q p e s m args below meth c H locs lsA C hH hS hl) (fun q => kf q p e s m args below meth c H locs lsA C hH hS hl)
theorem xr_icmp_eq {x y : Int32} {off : Int} (tgt : Nat) (hd : decode me.2.1 pc = .ok (.if_icmp .eq off, 3)) (ht : (pc : Int) + off = (tgt : Int)) (kt : x = y → xJ G l me mc ms Qv Qx cells slots (tgt) ls (st) al n R I L) (kf : ¬ x = y → xJ G l me mc ms Qv Qx cells slots (pc + 3) ls (st) al n R I L) : xJ G l me mc ms Qv Qx cells slots (pc) ls (.int y :: .int x :: st) al n R I L := by
  intro p e s m args below meth c H locs lsA C hH hS hl
  exact lv_icmp_eq C.1 C.2.1 hd ht (fun q => kt q p e s m args below meth c H locs lsA C hH hS hl) (fun q => kf q p e s m args below meth c H locs lsA C hH hS hl)
theorem xr_if_ne {x : Int32} {off : Int} (tgt : Nat) (hd : decode me.2.1 pc = .ok (.ifCond .ne off, 3)) (ht : (pc : Int) + off = (tgt : Int)) (kt : ¬ x = 0 → xJ G l me mc ms Qv Qx cells slots (tgt) ls (st) al n R I L) (kf : x = 0 → xJ G l me mc ms Qv Qx cells slots (pc + 3) ls (st) al n R I L) : xJ G l me mc ms Qv Qx cells slots (pc) ls (.int x :: st) al n R I L := by
  intro p e s m args below meth c H locs lsA C hH hS hl
  exact lv_if_ne C.1 C.2.1 hd ht (fun q => kt q p e s m args below meth c H locs lsA C hH hS hl) (fun q => kf q p e s m args below meth c H locs lsA C hH hS hl)
theorem xr_icmp_ne {x y : Int32} {off : Int} (tgt : Nat) (hd : decode me.2.1 pc = .ok (.if_icmp .ne off, 3)) (ht : (pc : Int) + off = (tgt : Int)) (kt : ¬ x = y → xJ G l me mc ms Qv Qx cells slots (tgt) ls (st) al n R I L) (kf : x = y → xJ G l me mc ms Qv Qx cells slots (pc + 3) ls (st) al n R I L) : xJ G l me mc ms Qv Qx cells slots (pc) ls (.int y :: .int x :: st) al n R I L := by
  intro p e s m args below meth c H locs lsA C hH hS hl
  exact lv_icmp_ne C.1 C.2.1 hd ht (fun q => kt q p e s m args below meth c H locs lsA C hH hS hl) (fun q => kf q p e s m args below meth c H locs lsA C hH hS hl)
theorem xr_if_lt {x : Int32} {off : Int} (tgt : Nat) (hd : decode me.2.1 pc = .ok (.ifCond .lt off, 3)) (ht : (pc : Int) + off = (tgt : Int)) (kt : x < 0 → xJ G l me mc ms Qv Qx cells slots (tgt) ls (st) al n R I L) (kf : ¬ x < 0 → xJ G l me mc ms Qv Qx cells slots (pc + 3) ls (st) al n R I L) : xJ G l me mc ms Qv Qx cells slots (pc) ls (.int x :: st) al n R I L := by
  intro p e s m args below meth c H locs lsA C hH hS hl
  exact lv_if_lt C.1 C.2.1 hd ht (fun q => kt q p e s m args below meth c H locs lsA C hH hS hl) (fun q => kf q p e s m args below meth c H locs lsA C hH hS hl)
theorem xr_icmp_lt {x y : Int32} {off : Int} (tgt : Nat) (hd : decode me.2.1 pc = .ok (.if_icmp .lt off, 3)) (ht : (pc : Int) + off = (tgt : Int)) (kt : x < y → xJ G l me mc ms Qv Qx cells slots (tgt) ls (st) al n R I L) (kf : ¬ x < y → xJ G l me mc ms Qv Qx cells slots (pc + 3) ls (st) al n R I L) : xJ G l me mc ms Qv Qx cells slots (pc) ls (.int y :: .int x :: st) al n R I L := by
  intro p e s m args below meth c H locs lsA C hH hS hl
  exact lv_icmp_lt C.1 C.2.1 hd ht (fun q => kt q p e s m args below meth c H locs lsA C hH hS hl) (fun q => kf q p e s m args below meth c H locs lsA C hH hS hl)
theorem xr_if_ge {x : Int32} {off : Int} (tgt : Nat) (hd : decode me.2.1 pc = .ok (.ifCond .ge off, 3)) (ht : (pc : Int) + off = (tgt : Int)) (kt : 0 ≤ x → xJ G l me mc ms Qv Qx cells slots (tgt) ls (st) al n R I L) (kf : ¬ 0 ≤ x → xJ G l me mc ms Qv Qx cells slots (pc + 3) ls (st) al n R I L) : xJ G l me mc ms Qv Qx cells slots (pc) ls (.int x :: st) al n R I L := by
  intro p e s m args below meth c H locs lsA C hH hS hl
  exact lv_if_ge C.1 C.2.1 hd ht (fun q => kt q p e s m args below meth c H locs lsA C hH hS hl) (fun q => kf q p e s m args below meth c H locs lsA C hH hS hl)
theorem xr_icmp_ge {x y : Int32} {off : Int} (tgt : Nat) (hd : decode me.2.1 pc = .ok (.if_icmp .ge off, 3)) (ht : (pc : Int) + off = (tgt : Int)) (kt : y ≤ x → xJ G l me mc ms Qv Qx cells slots (tgt) ls (st) al n R I L) (kf : ¬ y ≤ x → xJ G l me mc ms Qv Qx cells slots (pc + 3) ls (st) al n R I L) : xJ G l me mc ms Qv Qx cells slots (pc) ls (.int y :: .int x :: st) al n R I L := by
  intro p e s m args below meth c H locs lsA C hH hS hl
  exact lv_icmp_ge C.1 C.2.1 hd ht (fun q => kt q p e s m args below meth c H locs lsA C hH hS hl) (fun q => kf q p e s m args below meth c H locs lsA C hH hS hl)
theorem xr_if_gt {x : Int32} {off : Int} (tgt : Nat) (hd : decode me.2.1 pc = .ok (.ifCond .gt off, 3)) (ht : (pc : Int) + off = (tgt : Int)) (kt : 0 < x → xJ G l me mc ms Qv Qx cells slots (tgt) ls (st) al n R I L) (kf : ¬ 0 < x → xJ G l me mc ms Qv Qx cells slots (pc + 3) ls (st) al n R I L) : xJ G l me mc ms Qv Qx cells slots (pc) ls (.int x :: st) al n R I L := by
  intro p e s m args below meth c H locs lsA C hH hS hl
  exact lv_if_gt C.1 C.2.1 hd ht (fun q => kt q p e s m args below meth c H locs lsA C hH hS hl) (fun q => kf q p e s m args below meth c H locs lsA C hH hS hl)
theorem xr_icmp_gt {x y : Int32} {off : Int} (tgt : Nat) (hd : decode me.2.1 pc = .ok (.if_icmp .gt off, 3)) (ht : (pc : Int) + off = (tgt : Int)) (kt : y < x → xJ G l me mc ms Qv Qx cells slots (tgt) ls (st) al n R I L) (kf : ¬ y < x → xJ G l me mc ms Qv Qx cells slots (pc + 3) ls (st) al n R I L) : xJ G l me mc ms Qv Qx cells slots (pc) ls (.int y :: .int x :: st) al n R I L := by
  intro p e s m args below meth c H locs lsA C hH hS hl
  exact lv_icmp_gt C.1 C.2.1 hd ht (fun q => kt q p e s m args below meth c H locs lsA C hH hS hl) (fun q => kf q p e s m args below meth c H locs lsA C hH hS hl)
theorem xr_if_le {x : Int32} {off : Int} (tgt : Nat) (hd : decode me.2.1 pc = .ok (.ifCond .le off, 3)) (ht : (pc : Int) + off = (tgt : Int)) (kt : x ≤ 0 → xJ G l me mc ms Qv Qx cells slots (tgt) ls (st) al n R I L) (kf : ¬ x ≤ 0 → xJ G l me mc ms Qv Qx cells slots (pc + 3) ls (st) al n R I L) : xJ G l me mc ms Qv Qx cells slots (pc) ls (.int x :: st) al n R I L := by
  intro p e s m args below meth c H locs lsA C hH hS hl
  exact lv_if_le C.1 C.2.1 hd ht (fun q => kt q p e s m args below meth c H locs lsA C hH hS hl) (fun q => kf q p e s m args below meth c H locs lsA C hH hS hl)
theorem xr_icmp_le {x y : Int32} {off : Int} (tgt : Nat) (hd : decode me.2.1 pc = .ok (.if_icmp .le off, 3)) (ht : (pc : Int) + off = (tgt : Int)) (kt : x ≤ y → xJ G l me mc ms Qv Qx cells slots (tgt) ls (st) al n R I L) (kf : ¬ x ≤ y → xJ G l me mc ms Qv Qx cells slots (pc + 3) ls (st) al n R I L) : xJ G l me mc ms Qv Qx cells slots (pc) ls (.int y :: .int x :: st) al n R I L := by
  intro p e s m args below meth c H locs lsA C hH hS hl
  exact lv_icmp_le C.1 C.2.1 hd ht (fun q => kt q p e s m args below meth c H locs lsA C hH hS hl) (fun q => kf q p e s m args below meth c H locs lsA C hH hS hl)
theorem xr_goto {off : Int} (tgt : Nat) (hd : decode me.2.1 pc = .ok (.goto off, 3)) (ht : (pc : Int) + off = (tgt : Int)) (kk : xJ G l me mc ms Qv Qx cells slots (tgt) ls (st) al n R I L) : xJ G l me mc ms Qv Qx cells slots (pc) ls (st) al n R I L := by
  intro p e s m args below meth c H locs lsA C hH hS hl
  exact lv_goto C.1 C.2.1 hd ht (kk p e s m args below meth c H locs lsA C hH hS hl)

end XR
