theorem wIa : Cond.arrayClass .int ∈ xws := xt_1 (j := 108) (by decide +kernel) (by decide +kernel)
theorem wZa : Cond.arrayClass .boolean ∈ xws := xt_7 (j := 227) (by decide +kernel) (by decide +kernel)
theorem wLa : Cond.arrayClass .long ∈ xws := xt_7 (j := 226) (by decide +kernel) (by decide +kernel)
theorem wOi : Cond.instanceMethod Lib.objectInit ∈ xws ∧ Cond.code Lib.objectInit ⟨#[0xb1]⟩ 1 none ∈ xws := ⟨xt_1 (j := 32) (by decide +kernel) (by decide +kernel), xt_1 (j := 33) rfl (by decide +kernel)⟩
theorem wN0 : Cond.instantiable (xC 0) (xN 0) ∈ xws ∧ Cond.initialized (xC 0) ∈ xws := ⟨xt_2 (j := 80) (by decide +kernel) (by decide +kernel), xt_1 (j := 9) (by decide +kernel) (by decide +kernel)⟩
theorem wN1 : Cond.instantiable (xC 1) (xN 1) ∈ xws ∧ Cond.initialized (xC 1) ∈ xws := ⟨xt_1 (j := 39) (by decide +kernel) (by decide +kernel), xt_1 (j := 2) (by decide +kernel) (by decide +kernel)⟩
theorem wN2 : Cond.instantiable (xC 2) (xN 2) ∈ xws ∧ Cond.initialized (xC 2) ∈ xws := ⟨xt_1 (j := 236) (by decide +kernel) (by decide +kernel), xt_1 (j := 7) (by decide +kernel) (by decide +kernel)⟩
theorem wN3 : Cond.instantiable (xC 3) (xN 3) ∈ xws ∧ Cond.initialized (xC 3) ∈ xws := ⟨xt_2 (j := 54) (by decide +kernel) (by decide +kernel), xt_1 (j := 8) (by decide +kernel) (by decide +kernel)⟩
theorem wN4 : Cond.instantiable (xC 4) (xN 4) ∈ xws ∧ Cond.initialized (xC 4) ∈ xws := ⟨xt_1 (j := 131) (by decide +kernel) (by decide +kernel), xt_1 (j := 4) (by decide +kernel) (by decide +kernel)⟩
theorem wN5 : Cond.instantiable (xC 5) (xN 5) ∈ xws ∧ Cond.initialized (xC 5) ∈ xws := ⟨xt_2 (j := 105) (by decide +kernel) (by decide +kernel), xt_1 (j := 10) (by decide +kernel) (by decide +kernel)⟩
theorem wN6 : Cond.instantiable (xC 6) (xN 6) ∈ xws ∧ Cond.initialized (xC 6) ∈ xws := ⟨xt_2 (j := 153) (by decide +kernel) (by decide +kernel), xt_1 (j := 11) (by decide +kernel) (by decide +kernel)⟩
theorem wN7 : Cond.instantiable (xC 7) (xN 7) ∈ xws ∧ Cond.initialized (xC 7) ∈ xws := ⟨xt_1 (j := 110) (by decide +kernel) (by decide +kernel), xt_1 (j := 3) (by decide +kernel) (by decide +kernel)⟩
theorem wN8 : Cond.instantiable (xC 8) (xN 8) ∈ xws ∧ Cond.initialized (xC 8) ∈ xws := ⟨xt_1 (j := 159) (by decide +kernel) (by decide +kernel), xt_1 (j := 5) (by decide +kernel) (by decide +kernel)⟩
theorem wN9 : Cond.instantiable (xC 9) (xN 9) ∈ xws ∧ Cond.initialized (xC 9) ∈ xws := ⟨xt_1 (j := 165) (by decide +kernel) (by decide +kernel), xt_1 (j := 6) (by decide +kernel) (by decide +kernel)⟩
theorem wN10 : Cond.instantiable (xC 10) (xN 10) ∈ xws ∧ Cond.initialized (xC 10) ∈ xws := ⟨xt_2 (j := 189) (by decide +kernel) (by decide +kernel), xt_1 (j := 12) (by decide +kernel) (by decide +kernel)⟩
theorem wN11 : Cond.instantiable (xC 11) (xN 11) ∈ xws ∧ Cond.initialized (xC 11) ∈ xws := ⟨xt_1 (j := 27) (by decide +kernel) (by decide +kernel), xt_1 (j := 1) (by decide +kernel) (by decide +kernel)⟩
theorem wN12 : Cond.instantiable (xC 12) (xN 12) ∈ xws ∧ Cond.initialized (xC 12) ∈ xws := ⟨xt_6 (j := 213) (by decide +kernel) (by decide +kernel), xt_1 (j := 13) (by decide +kernel) (by decide +kernel)⟩
/-- above n all is 0 -/
def Zr (n : Nat) (R : Nat → Nat → Option Nat) (I : Nat → Nat → Int32) (L : Nat → Nat → Int64) : Prop := ∀ k, n ≤ k → R k = (fun _ => none) ∧ I k = (fun _ => 0) ∧ L k = fun _ => 0
section ZR
variable {n : Nat} {R : Nat → Nat → Option Nat} {I : Nat → Nat → Int32} {L : Nat → Nat → Int64}
theorem Zr.mono {m : Nat} (h : Zr n R I L) (hm : n ≤ m) : Zr m R I L := fun k hk => h k (Nat.le_trans hm hk)
theorem Zr.re {R' : Nat → Nat → Option Nat} {a k : Nat} {v : Option Nat} (h : Zr n R I L) (e : R' = xu R a k v) (ha : a < n) : Zr n R' I L := fun q hq => ⟨by rw [e, xu_r R v (by omega)]; exact (h q hq).1, (h q hq).2⟩
theorem Zr.ie {I' : Nat → Nat → Int32} {a k : Nat} {v : Int32} (h : Zr n R I L) (e : I' = xu I a k v) (ha : a < n) : Zr n R I' L := fun q hq => ⟨(h q hq).1, by rw [e, xu_r I v (by omega)]; exact (h q hq).2.1, (h q hq).2.2⟩
theorem Zr.mu {R' : Nat → Nat → Option Nat} {N m : Nat} (h : Zr n R I L) (e : R' = xmul R n N) (hm : n + 1 + N ≤ m) : Zr m R' I L := fun q hq => ⟨by rw [e]; funext i; rw [xmul, if_neg (by omega), (h q (by omega)).1], (h q (by omega)).2⟩
end ZR
theorem xmul_n {R : Nat → Nat → Option Nat} {o N q : Nat} (h : q ≠ o) : xmul R o N q = R q := by
  funext i
  rw [xmul, if_neg h]
section XA2
variable {G : xG} {l : Launch} {me : xMe} {mc ms : Nat} {Qv : Option Value → xM → Prop} {Qx : String → xM → Prop} {cells slots pc : Nat} {ls : List (Nat × Value)} {st : List Value} {al : Bool} {n : Nat} {R R' : Nat → Nat → Option Nat} {I : Nat → Nat → Int32} {L : Nat → Nat → Int64}
theorem xr_putR2 (c k : Nat) {idx a b : Nat} (hR : R' = xu R a k (some b)) (hd : decode me.2.1 pc = .ok (.putfield idx, 3)) (hw : Cond.fieldLink me.1.cls idx (xT c k).1 (xT c k).2.1 (xT c k).2.2.1 ∈ xws) (hc : c < 13) (hk : k < xN c) (ha : a < n) (hka : xkd G a = c)
    (hfin : (xT c k).2.2.2 = false ∨ ((xT c k).2.2.2 = true ∧ me.1.name = "<init>" ∧ (xT c k).1 = me.1.cls)) (hn : ∀ q : Nat, narrow (xty c k) (.ref q) = .ref q) (hf : ∀ q : Nat, fits (xty c k) (.ref q) = true) (ht : ∀ (R' : Nat → Nat → Option Nat), xfv G R' I L (xty c k) a k = xrv G (R' a k))
    (kk : xJ G l me mc ms Qv Qx cells slots (pc + 3) ls st al n R' I L) : xJ G l me mc ms Qv Qx cells slots pc ls (.ref b :: .ref a :: st) al n R I L := by
  subst hR
  exact xr_putR c k hd hw hc hk ha hka hfin hn hf ht kk
theorem xr_aast2 (j cl : Nat) {a v : Nat} {i : Int32} {k : Nat} (hR : R' = xu R a k (some v)) (hik : i.toNatClampNeg = k) (hd : decode me.2.1 pc = .ok (.aastore, 1)) (hj : 3 ≤ j) (hj7 : j < 7) (hcl : cl < 13) (hty : xet (13 + j) = .object (xC cl)) (ha : a < n) (hka : xkd G a = 13 + j) (hv : v < n) (hkv : xkd G v = cl) (hi : vp_in i (xln G a))
    (kk : xJ G l me mc ms Qv Qx cells slots (pc + 1) ls st al n R' I L) : xJ G l me mc ms Qv Qx cells slots pc ls (.ref v :: .int i :: .ref a :: st) al n R I L := by
  subst hik
  subst hR
  exact xr_aast j cl hd hj hj7 hcl hty ha hka hv hkv hi kk
theorem xr_mna2 {idx : Nat} {a b : Int32} {N K : Nat} (hR : R' = xmul R n N) (hd : decode me.2.1 pc = .ok (.multianewarray idx 2, 4)) (hw : Cond.classLink me.1.cls idx "[[I" ∈ xws) (ha : ¬ a < 0) (hb : ¬ b < 0) (hN : a.toNatClampNeg = N) (hK : b.toNatClampNeg = K) (hkd : xkd G n = 16) (hln : xln G n = N) (hrow : ∀ i, i < N → xkd G (n + 1 + i) = 13 ∧ xln G (n + 1 + i) = K) (hI : Zr n R I L) (hNb : N ≤ 1000) (hKb : K ≤ 1000) (hn : n + 1 + N ≤ 1000000) (hc : cells + (1 + N) ≤ mc) (hs : slots + (N + N * K) ≤ ms)
    (kk : xJ G l me mc ms Qv Qx (cells + 1 + N) (slots + N + N * K) (pc + 4) ls (.ref n :: st) true (n + 1 + N) R' I L) : xJ G l me mc ms Qv Qx cells slots pc ls (.int b :: .int a :: st) true n R I L := by
  subst hR
  exact xr_mna hd hw wIa ha hb hN hK hkd hln hrow (fun k hk => (hI k (by omega)).2.1) hNb hKb hn hc hs kk
end XA2
theorem getD_rep {α : Type} {x d : α} {N i : Nat} (h : i < N) : (List.replicate N x).getD i d = x := by
  rw [List.getD_eq_getElem?_getD, List.getElem?_replicate, if_pos h]
  rfl
/-- rows of an array of arrays, out of what is known of all cells -/
theorem hrow_of {a len o N K : Nat} {ks lsn : List Nat} (hk : ∀ j, j < len → kd0 (a + j) = ks.getD j 0 ∧ ln0 (a + j) = lsn.getD j 0) (hc : o + 1 + N ≤ len ∧ (∀ i, i < N → ks.getD (o + 1 + i) 0 = 13 ∧ lsn.getD (o + 1 + i) 0 = K)) : ∀ i, i < N → kd0 (a + o + 1 + i) = 13 ∧ ln0 (a + o + 1 + i) = K := fun i hi => by
  have h := hk (o + 1 + i) (by omega)
  rw [show a + (o + 1 + i) = a + o + 1 + i by omega, (hc.2 i hi).1, (hc.2 i hi).2] at h
  exact h
theorem hk_sub {a o len cnt : Nat} {ks lsn ks' ln' : List Nat} (hk : ∀ j, j < len → kd0 (a + j) = ks.getD j 0 ∧ ln0 (a + j) = lsn.getD j 0) (hc : o + cnt ≤ len ∧ ∀ j, j < cnt → ks.getD (o + j) 0 = ks'.getD j 0 ∧ lsn.getD (o + j) 0 = ln'.getD j 0) : ∀ j, j < cnt → kd0 (a + o + j) = ks'.getD j 0 ∧ ln0 (a + o + j) = ln'.getD j 0 := fun j hj => by
  have h := hk (o + j) (by omega)
  rw [show a + (o + j) = a + o + j by omega, (hc.2 j hj).1, (hc.2 j hj).2] at h
  exact h
def rX0 (a : Nat) (R : Nat → Nat → Option Nat) : Nat → Nat → Option Nat := xu (xu R (a) 0 (some (a + 1))) (a) 1 (some (a + 2))
theorem rX0_lt {a q : Nat} {R : Nat → Nat → Option Nat} (h : q < a) : rX0 a R q = R q := by
  unfold rX0
  rw [xu_r _ _ (by omega), xu_r _ _ (by omega)]
set_option maxHeartbeats 4000000 in
set_option maxRecDepth 100000 in
theorem t_X0 {b : Nat} {dC : Nat → ClassId} {dI : Nat → Nat → Nat} {cA : Nat → ClassId} {ts : Nat → Nat} {l : Launch} {a : Nat} (hk : ∀ j, j < 3 → kd0 (a + j) = ([0, 13, 13] : List Nat).getD j 0 ∧ ln0 (a + j) = ([0, 8, 8] : List Nat).getD j 0) (ha : a + 3 ≤ 900000) {R : Nat → Nat → Option Nat} {I : Nat → Nat → Int32} {L : Nat → Nat → Int64} (z : Zr (a + 1) R I L) : xCn (xGm b dC dI cA ts) l mX0_init [.ref a] true (a + 1, R, I, L) 2 16 (fun v M => v = none ∧ M = (a + 3, (rX0 a R), I, L) ∧ Zr (a + 3) (rX0 a R) I L) (fun _ _ => False) := by
  refine xCn.ofJ (by decide) (Nat.le_of_ble_eq_true rfl) ?_
  show xJ _ _ _ _ _ _ _ _ _ 0 [(0, .ref (a))] [] true (a + 1) R I L
  refine xr_aload_n (xd dX0_init 0 rfl) 0 rfl ?_
  refine xr_oinit (xd dX0_init 1 rfl) (xt_2 (j := 84) (by decide +kernel) (by decide +kernel)) wOi ⟨by decide, by decide⟩ ?_
  refine xr_aload_n (xd dX0_init 2 rfl) 0 rfl ?_
  refine xr_bipush (v := nI 8) (xd dX0_init 3 rfl) (by decide) ?_
  refine xr_newI (N := 8) (xd dX0_init 4 rfl) wIa (nI_pos (by decide)) (nI_clamp (by decide)) (hk 1 (by decide)).1 (hk 1 (by decide)).2 (z _ (Nat.le_refl _)).2.1 (by decide) (by omega) (by decide) (by decide) ?_
  have z := z.mono (Nat.le_succ _)
  show xJ _ _ _ _ _ _ _ _ _ 9 [(0, .ref (a))] [.ref (a + 1), .ref (a)] true (a + 2) R I L
  obtain ⟨R1, eR1⟩ : ∃ z_ : Nat → Nat → Option Nat, z_ = xu R (a) 0 (some (a + 1)) := ⟨_, rfl⟩
  refine xr_putR2 0 0 eR1 (xd dX0_init 5 rfl) f0_9 (by decide) (by decide) (by omega) (hk 0 (by decide)).1 (by decide) (fun _ => rfl) (fun _ => rfl) (fun _ => rfl) ?_
  have z := z.re eR1 (by omega)
  refine xr_aload_n (xd dX0_init 6 rfl) 0 rfl ?_
  refine xr_bipush (v := nI 8) (xd dX0_init 7 rfl) (by decide) ?_
  refine xr_newI (N := 8) (xd dX0_init 8 rfl) wIa (nI_pos (by decide)) (nI_clamp (by decide)) (hk 2 (by decide)).1 (hk 2 (by decide)).2 (z _ (Nat.le_refl _)).2.1 (by decide) (by omega) (by decide) (by decide) ?_
  have z := z.mono (Nat.le_succ _)
  show xJ _ _ _ _ _ _ _ _ _ 17 [(0, .ref (a))] [.ref (a + 2), .ref (a)] true (a + 3) R1 I L
  obtain ⟨R2, eR2⟩ : ∃ z_ : Nat → Nat → Option Nat, z_ = xu R1 (a) 1 (some (a + 2)) := ⟨_, rfl⟩
  refine xr_putR2 0 1 eR2 (xd dX0_init 9 rfl) f0_15 (by decide) (by decide) (by omega) (hk 0 (by decide)).1 (by decide) (fun _ => rfl) (fun _ => rfl) (fun _ => rfl) ?_
  have z := z.re eR2 (by omega)
  refine xr_vret (xd dX0_init 10 rfl) rfl (by decide) (by decide) (fun _ => rfl) ?_
  subst eR2; subst eR1
  exact ⟨rfl, rfl, z⟩
def rX1 (a : Nat) (R : Nat → Nat → Option Nat) : Nat → Nat → Option Nat := xu R (a) 0 (some (a + 1))
theorem rX1_lt {a q : Nat} {R : Nat → Nat → Option Nat} (h : q < a) : rX1 a R q = R q := by
  unfold rX1
  rw [xu_r _ _ (by omega)]
set_option maxHeartbeats 4000000 in
set_option maxRecDepth 100000 in
theorem t_X1 {b : Nat} {dC : Nat → ClassId} {dI : Nat → Nat → Nat} {cA : Nat → ClassId} {ts : Nat → Nat} {l : Launch} {a : Nat} (hk : ∀ j, j < 2 → kd0 (a + j) = ([1, 13] : List Nat).getD j 0 ∧ ln0 (a + j) = ([0, 500] : List Nat).getD j 0) (ha : a + 2 ≤ 900000) {R : Nat → Nat → Option Nat} {I : Nat → Nat → Int32} {L : Nat → Nat → Int64} (z : Zr (a + 1) R I L) : xCn (xGm b dC dI cA ts) l mX1_init [.ref a] true (a + 1, R, I, L) 1 500 (fun v M => v = none ∧ M = (a + 2, (rX1 a R), I, L) ∧ Zr (a + 2) (rX1 a R) I L) (fun _ _ => False) := by
  refine xCn.ofJ (by decide) (Nat.le_of_ble_eq_true rfl) ?_
  show xJ _ _ _ _ _ _ _ _ _ 0 [(0, .ref (a))] [] true (a + 1) R I L
  refine xr_aload_n (xd dX1_init 0 rfl) 0 rfl ?_
  refine xr_oinit (xd dX1_init 1 rfl) (xt_1 (j := 43) (by decide +kernel) (by decide +kernel)) wOi ⟨by decide, by decide⟩ ?_
  refine xr_aload_n (xd dX1_init 2 rfl) 0 rfl ?_
  refine xr_sipush (v := nI 500) (xd dX1_init 3 rfl) (by decide) ?_
  refine xr_newI (N := 500) (xd dX1_init 4 rfl) wIa (nI_pos (by decide)) (nI_clamp (by decide)) (hk 1 (by decide)).1 (hk 1 (by decide)).2 (z _ (Nat.le_refl _)).2.1 (by decide) (by omega) (by decide) (by decide) ?_
  have z := z.mono (Nat.le_succ _)
  show xJ _ _ _ _ _ _ _ _ _ 10 [(0, .ref (a))] [.ref (a + 1), .ref (a)] true (a + 2) R I L
  obtain ⟨R1, eR1⟩ : ∃ z_ : Nat → Nat → Option Nat, z_ = xu R (a) 0 (some (a + 1)) := ⟨_, rfl⟩
  refine xr_putR2 1 0 eR1 (xd dX1_init 5 rfl) f1_9 (by decide) (by decide) (by omega) (hk 0 (by decide)).1 (by decide) (fun _ => rfl) (fun _ => rfl) (fun _ => rfl) ?_
  have z := z.re eR1 (by omega)
  refine xr_vret (xd dX1_init 6 rfl) rfl (by decide) (by decide) (fun _ => rfl) ?_
  subst eR1
  exact ⟨rfl, rfl, z⟩
def rX2 (a : Nat) (R : Nat → Nat → Option Nat) : Nat → Nat → Option Nat := xu (xu (xu (xu (xu (xu (xu (xu R (a) 0 (some (a + 1))) (a) 1 (some (a + 2))) (a) 2 (some (a + 3))) (a) 3 (some (a + 4))) (a) 4 (some (a + 5))) (a) 5 (some (a + 6))) (a) 6 (some (a + 7))) (a) 7 (some (a + 8))
theorem rX2_lt {a q : Nat} {R : Nat → Nat → Option Nat} (h : q < a) : rX2 a R q = R q := by
  unfold rX2
  rw [xu_r _ _ (by omega), xu_r _ _ (by omega), xu_r _ _ (by omega), xu_r _ _ (by omega), xu_r _ _ (by omega), xu_r _ _ (by omega), xu_r _ _ (by omega), xu_r _ _ (by omega)]
set_option maxHeartbeats 4000000 in
set_option maxRecDepth 100000 in
theorem t_X2 {b : Nat} {dC : Nat → ClassId} {dI : Nat → Nat → Nat} {cA : Nat → ClassId} {ts : Nat → Nat} {l : Launch} {a : Nat} (hk : ∀ j, j < 9 → kd0 (a + j) = ([2, 13, 13, 13, 13, 13, 13, 13, 13] : List Nat).getD j 0 ∧ ln0 (a + j) = ([0, 204, 204, 3, 3, 4, 1836, 1836, 1836] : List Nat).getD j 0) (ha : a + 9 ≤ 900000) {R : Nat → Nat → Option Nat} {I : Nat → Nat → Int32} {L : Nat → Nat → Int64} (z : Zr (a + 1) R I L) : xCn (xGm b dC dI cA ts) l mX2_init [.ref a] true (a + 1, R, I, L) 8 5926 (fun v M => v = none ∧ M = (a + 9, (rX2 a R), I, L) ∧ Zr (a + 9) (rX2 a R) I L) (fun _ _ => False) := by
  refine xCn.ofJ (by decide) (Nat.le_of_ble_eq_true rfl) ?_
  show xJ _ _ _ _ _ _ _ _ _ 0 [(0, .ref (a))] [] true (a + 1) R I L
  refine xr_aload_n (xd dX2_init 0 rfl) 0 rfl ?_
  refine xr_oinit (xd dX2_init 1 rfl) (xt_2 (j := 0) (by decide +kernel) (by decide +kernel)) wOi ⟨by decide, by decide⟩ ?_
  refine xr_aload_n (xd dX2_init 2 rfl) 0 rfl ?_
  refine xr_sipush (v := nI 204) (xd dX2_init 3 rfl) (by decide) ?_
  refine xr_newI (N := 204) (xd dX2_init 4 rfl) wIa (nI_pos (by decide)) (nI_clamp (by decide)) (hk 1 (by decide)).1 (hk 1 (by decide)).2 (z _ (Nat.le_refl _)).2.1 (by decide) (by omega) (by decide) (by decide) ?_
  have z := z.mono (Nat.le_succ _)
  show xJ _ _ _ _ _ _ _ _ _ 10 [(0, .ref (a))] [.ref (a + 1), .ref (a)] true (a + 2) R I L
  obtain ⟨R1, eR1⟩ : ∃ z_ : Nat → Nat → Option Nat, z_ = xu R (a) 0 (some (a + 1)) := ⟨_, rfl⟩
  refine xr_putR2 2 0 eR1 (xd dX2_init 5 rfl) f2_9 (by decide) (by decide) (by omega) (hk 0 (by decide)).1 (by decide) (fun _ => rfl) (fun _ => rfl) (fun _ => rfl) ?_
  have z := z.re eR1 (by omega)
  refine xr_aload_n (xd dX2_init 6 rfl) 0 rfl ?_
  refine xr_sipush (v := nI 204) (xd dX2_init 7 rfl) (by decide) ?_
  refine xr_newI (N := 204) (xd dX2_init 8 rfl) wIa (nI_pos (by decide)) (nI_clamp (by decide)) (hk 2 (by decide)).1 (hk 2 (by decide)).2 (z _ (Nat.le_refl _)).2.1 (by decide) (by omega) (by decide) (by decide) ?_
  have z := z.mono (Nat.le_succ _)
  show xJ _ _ _ _ _ _ _ _ _ 19 [(0, .ref (a))] [.ref (a + 2), .ref (a)] true (a + 3) R1 I L
  obtain ⟨R2, eR2⟩ : ∃ z_ : Nat → Nat → Option Nat, z_ = xu R1 (a) 1 (some (a + 2)) := ⟨_, rfl⟩
  refine xr_putR2 2 1 eR2 (xd dX2_init 9 rfl) f2_15 (by decide) (by decide) (by omega) (hk 0 (by decide)).1 (by decide) (fun _ => rfl) (fun _ => rfl) (fun _ => rfl) ?_
  have z := z.re eR2 (by omega)
  refine xr_aload_n (xd dX2_init 10 rfl) 0 rfl ?_
  refine xr_iconst (v := nI 3) (xd dX2_init 11 rfl) (by decide) ?_
  refine xr_newI (N := 3) (xd dX2_init 12 rfl) wIa (nI_pos (by decide)) (nI_clamp (by decide)) (hk 3 (by decide)).1 (hk 3 (by decide)).2 (z _ (Nat.le_refl _)).2.1 (by decide) (by omega) (by decide) (by decide) ?_
  have z := z.mono (Nat.le_succ _)
  show xJ _ _ _ _ _ _ _ _ _ 26 [(0, .ref (a))] [.ref (a + 3), .ref (a)] true (a + 4) R2 I L
  obtain ⟨R3, eR3⟩ : ∃ z_ : Nat → Nat → Option Nat, z_ = xu R2 (a) 2 (some (a + 3)) := ⟨_, rfl⟩
  refine xr_putR2 2 2 eR3 (xd dX2_init 13 rfl) f2_18 (by decide) (by decide) (by omega) (hk 0 (by decide)).1 (by decide) (fun _ => rfl) (fun _ => rfl) (fun _ => rfl) ?_
  have z := z.re eR3 (by omega)
  refine xr_aload_n (xd dX2_init 14 rfl) 0 rfl ?_
  refine xr_iconst (v := nI 3) (xd dX2_init 15 rfl) (by decide) ?_
  refine xr_newI (N := 3) (xd dX2_init 16 rfl) wIa (nI_pos (by decide)) (nI_clamp (by decide)) (hk 4 (by decide)).1 (hk 4 (by decide)).2 (z _ (Nat.le_refl _)).2.1 (by decide) (by omega) (by decide) (by decide) ?_
  have z := z.mono (Nat.le_succ _)
  show xJ _ _ _ _ _ _ _ _ _ 33 [(0, .ref (a))] [.ref (a + 4), .ref (a)] true (a + 5) R3 I L
  obtain ⟨R4, eR4⟩ : ∃ z_ : Nat → Nat → Option Nat, z_ = xu R3 (a) 3 (some (a + 4)) := ⟨_, rfl⟩
  refine xr_putR2 2 3 eR4 (xd dX2_init 17 rfl) f2_21 (by decide) (by decide) (by omega) (hk 0 (by decide)).1 (by decide) (fun _ => rfl) (fun _ => rfl) (fun _ => rfl) ?_
  have z := z.re eR4 (by omega)
  refine xr_aload_n (xd dX2_init 18 rfl) 0 rfl ?_
  refine xr_iconst (v := nI 4) (xd dX2_init 19 rfl) (by decide) ?_
  refine xr_newI (N := 4) (xd dX2_init 20 rfl) wIa (nI_pos (by decide)) (nI_clamp (by decide)) (hk 5 (by decide)).1 (hk 5 (by decide)).2 (z _ (Nat.le_refl _)).2.1 (by decide) (by omega) (by decide) (by decide) ?_
  have z := z.mono (Nat.le_succ _)
  show xJ _ _ _ _ _ _ _ _ _ 40 [(0, .ref (a))] [.ref (a + 5), .ref (a)] true (a + 6) R4 I L
  obtain ⟨R5, eR5⟩ : ∃ z_ : Nat → Nat → Option Nat, z_ = xu R4 (a) 4 (some (a + 5)) := ⟨_, rfl⟩
  refine xr_putR2 2 4 eR5 (xd dX2_init 21 rfl) f2_24 (by decide) (by decide) (by omega) (hk 0 (by decide)).1 (by decide) (fun _ => rfl) (fun _ => rfl) (fun _ => rfl) ?_
  have z := z.re eR5 (by omega)
  refine xr_aload_n (xd dX2_init 22 rfl) 0 rfl ?_
  refine xr_sipush (v := nI 1836) (xd dX2_init 23 rfl) (by decide) ?_
  refine xr_newI (N := 1836) (xd dX2_init 24 rfl) wIa (nI_pos (by decide)) (nI_clamp (by decide)) (hk 6 (by decide)).1 (hk 6 (by decide)).2 (z _ (Nat.le_refl _)).2.1 (by decide) (by omega) (by decide) (by decide) ?_
  have z := z.mono (Nat.le_succ _)
  show xJ _ _ _ _ _ _ _ _ _ 49 [(0, .ref (a))] [.ref (a + 6), .ref (a)] true (a + 7) R5 I L
  obtain ⟨R6, eR6⟩ : ∃ z_ : Nat → Nat → Option Nat, z_ = xu R5 (a) 5 (some (a + 6)) := ⟨_, rfl⟩
  refine xr_putR2 2 5 eR6 (xd dX2_init 25 rfl) f2_27 (by decide) (by decide) (by omega) (hk 0 (by decide)).1 (by decide) (fun _ => rfl) (fun _ => rfl) (fun _ => rfl) ?_
  have z := z.re eR6 (by omega)
  refine xr_aload_n (xd dX2_init 26 rfl) 0 rfl ?_
  refine xr_sipush (v := nI 1836) (xd dX2_init 27 rfl) (by decide) ?_
  refine xr_newI (N := 1836) (xd dX2_init 28 rfl) wIa (nI_pos (by decide)) (nI_clamp (by decide)) (hk 7 (by decide)).1 (hk 7 (by decide)).2 (z _ (Nat.le_refl _)).2.1 (by decide) (by omega) (by decide) (by decide) ?_
  have z := z.mono (Nat.le_succ _)
  show xJ _ _ _ _ _ _ _ _ _ 58 [(0, .ref (a))] [.ref (a + 7), .ref (a)] true (a + 8) R6 I L
  obtain ⟨R7, eR7⟩ : ∃ z_ : Nat → Nat → Option Nat, z_ = xu R6 (a) 6 (some (a + 7)) := ⟨_, rfl⟩
  refine xr_putR2 2 6 eR7 (xd dX2_init 29 rfl) f2_30 (by decide) (by decide) (by omega) (hk 0 (by decide)).1 (by decide) (fun _ => rfl) (fun _ => rfl) (fun _ => rfl) ?_
  have z := z.re eR7 (by omega)
  refine xr_aload_n (xd dX2_init 30 rfl) 0 rfl ?_
  refine xr_sipush (v := nI 1836) (xd dX2_init 31 rfl) (by decide) ?_
  refine xr_newI (N := 1836) (xd dX2_init 32 rfl) wIa (nI_pos (by decide)) (nI_clamp (by decide)) (hk 8 (by decide)).1 (hk 8 (by decide)).2 (z _ (Nat.le_refl _)).2.1 (by decide) (by omega) (by decide) (by decide) ?_
  have z := z.mono (Nat.le_succ _)
  show xJ _ _ _ _ _ _ _ _ _ 67 [(0, .ref (a))] [.ref (a + 8), .ref (a)] true (a + 9) R7 I L
  obtain ⟨R8, eR8⟩ : ∃ z_ : Nat → Nat → Option Nat, z_ = xu R7 (a) 7 (some (a + 8)) := ⟨_, rfl⟩
  refine xr_putR2 2 7 eR8 (xd dX2_init 33 rfl) f2_33 (by decide) (by decide) (by omega) (hk 0 (by decide)).1 (by decide) (fun _ => rfl) (fun _ => rfl) (fun _ => rfl) ?_
  have z := z.re eR8 (by omega)
  refine xr_vret (xd dX2_init 34 rfl) rfl (by decide) (by decide) (fun _ => rfl) ?_
  subst eR8; subst eR7; subst eR6; subst eR5; subst eR4; subst eR3; subst eR2; subst eR1
  exact ⟨rfl, rfl, z⟩
def rX3 (a : Nat) (R : Nat → Nat → Option Nat) : Nat → Nat → Option Nat := xu (xmul (xu (xmul (xu (xu (xu R (a) 0 (some (a + 1))) (a) 1 (some (a + 2))) (a) 2 (some (a + 3))) (a + 4) 5) (a) 3 (some (a + 4))) (a + 10) 5) (a) 4 (some (a + 10))
theorem rX3_lt {a q : Nat} {R : Nat → Nat → Option Nat} (h : q < a) : rX3 a R q = R q := by
  unfold rX3
  rw [xu_r _ _ (by omega), xmul_n (by omega), xu_r _ _ (by omega), xmul_n (by omega), xu_r _ _ (by omega), xu_r _ _ (by omega), xu_r _ _ (by omega)]
set_option maxHeartbeats 4000000 in
set_option maxRecDepth 100000 in
theorem t_X3 {b : Nat} {dC : Nat → ClassId} {dI : Nat → Nat → Nat} {cA : Nat → ClassId} {ts : Nat → Nat} {l : Launch} {a : Nat} (hk : ∀ j, j < 16 → kd0 (a + j) = ([3, 13, 13, 13, 16, 13, 13, 13, 13, 13, 16, 13, 13, 13, 13, 13] : List Nat).getD j 0 ∧ ln0 (a + j) = ([0, 5, 5, 5, 5, 152, 152, 152, 152, 152, 5, 152, 152, 152, 152, 152] : List Nat).getD j 0) (ha : a + 16 ≤ 900000) {R : Nat → Nat → Option Nat} {I : Nat → Nat → Int32} {L : Nat → Nat → Int64} (z : Zr (a + 1) R I L) : xCn (xGm b dC dI cA ts) l mX3_init [.ref a] true (a + 1, R, I, L) 15 1545 (fun v M => v = none ∧ M = (a + 16, (rX3 a R), I, L) ∧ Zr (a + 16) (rX3 a R) I L) (fun _ _ => False) := by
  refine xCn.ofJ (by decide) (Nat.le_of_ble_eq_true rfl) ?_
  show xJ _ _ _ _ _ _ _ _ _ 0 [(0, .ref (a))] [] true (a + 1) R I L
  refine xr_aload_n (xd dX3_init 0 rfl) 0 rfl ?_
  refine xr_oinit (xd dX3_init 1 rfl) (xt_2 (j := 58) (by decide +kernel) (by decide +kernel)) wOi ⟨by decide, by decide⟩ ?_
  refine xr_aload_n (xd dX3_init 2 rfl) 0 rfl ?_
  refine xr_iconst (v := nI 5) (xd dX3_init 3 rfl) (by decide) ?_
  refine xr_newI (N := 5) (xd dX3_init 4 rfl) wIa (nI_pos (by decide)) (nI_clamp (by decide)) (hk 1 (by decide)).1 (hk 1 (by decide)).2 (z _ (Nat.le_refl _)).2.1 (by decide) (by omega) (by decide) (by decide) ?_
  have z := z.mono (Nat.le_succ _)
  show xJ _ _ _ _ _ _ _ _ _ 8 [(0, .ref (a))] [.ref (a + 1), .ref (a)] true (a + 2) R I L
  obtain ⟨R1, eR1⟩ : ∃ z_ : Nat → Nat → Option Nat, z_ = xu R (a) 0 (some (a + 1)) := ⟨_, rfl⟩
  refine xr_putR2 3 0 eR1 (xd dX3_init 5 rfl) f3_9 (by decide) (by decide) (by omega) (hk 0 (by decide)).1 (by decide) (fun _ => rfl) (fun _ => rfl) (fun _ => rfl) ?_
  have z := z.re eR1 (by omega)
  refine xr_aload_n (xd dX3_init 6 rfl) 0 rfl ?_
  refine xr_iconst (v := nI 5) (xd dX3_init 7 rfl) (by decide) ?_
  refine xr_newI (N := 5) (xd dX3_init 8 rfl) wIa (nI_pos (by decide)) (nI_clamp (by decide)) (hk 2 (by decide)).1 (hk 2 (by decide)).2 (z _ (Nat.le_refl _)).2.1 (by decide) (by omega) (by decide) (by decide) ?_
  have z := z.mono (Nat.le_succ _)
  show xJ _ _ _ _ _ _ _ _ _ 15 [(0, .ref (a))] [.ref (a + 2), .ref (a)] true (a + 3) R1 I L
  obtain ⟨R2, eR2⟩ : ∃ z_ : Nat → Nat → Option Nat, z_ = xu R1 (a) 1 (some (a + 2)) := ⟨_, rfl⟩
  refine xr_putR2 3 1 eR2 (xd dX3_init 9 rfl) f3_15 (by decide) (by decide) (by omega) (hk 0 (by decide)).1 (by decide) (fun _ => rfl) (fun _ => rfl) (fun _ => rfl) ?_
  have z := z.re eR2 (by omega)
  refine xr_aload_n (xd dX3_init 10 rfl) 0 rfl ?_
  refine xr_iconst (v := nI 5) (xd dX3_init 11 rfl) (by decide) ?_
  refine xr_newI (N := 5) (xd dX3_init 12 rfl) wIa (nI_pos (by decide)) (nI_clamp (by decide)) (hk 3 (by decide)).1 (hk 3 (by decide)).2 (z _ (Nat.le_refl _)).2.1 (by decide) (by omega) (by decide) (by decide) ?_
  have z := z.mono (Nat.le_succ _)
  show xJ _ _ _ _ _ _ _ _ _ 22 [(0, .ref (a))] [.ref (a + 3), .ref (a)] true (a + 4) R2 I L
  obtain ⟨R3, eR3⟩ : ∃ z_ : Nat → Nat → Option Nat, z_ = xu R2 (a) 2 (some (a + 3)) := ⟨_, rfl⟩
  refine xr_putR2 3 2 eR3 (xd dX3_init 13 rfl) f3_18 (by decide) (by decide) (by omega) (hk 0 (by decide)).1 (by decide) (fun _ => rfl) (fun _ => rfl) (fun _ => rfl) ?_
  have z := z.re eR3 (by omega)
  refine xr_aload_n (xd dX3_init 14 rfl) 0 rfl ?_
  refine xr_iconst (v := nI 5) (xd dX3_init 15 rfl) (by decide) ?_
  refine xr_sipush (v := nI 152) (xd dX3_init 16 rfl) (by decide) ?_
  obtain ⟨R4, eR4⟩ : ∃ z_ : Nat → Nat → Option Nat, z_ = xmul R3 (a + 4) 5 := ⟨_, rfl⟩
  refine xr_mna2 (N := 5) (K := 152) eR4 (xd dX3_init 17 rfl) (xt_2 (j := 59) (by decide +kernel) (by decide +kernel)) (nI_pos (by decide)) (nI_pos (by decide)) (nI_clamp (by decide)) (nI_clamp (by decide)) (hk 4 (by decide)).1 (hk 4 (by decide)).2 (hrow_of hk (by decide +kernel)) z (by decide) (by decide) (by omega) (by decide) (by decide) ?_
  have z := z.mu eR4 (Nat.le_refl _)
  show xJ _ _ _ _ _ _ _ _ _ 34 [(0, .ref (a))] [.ref (a + 4), .ref (a)] true (a + 10) R4 I L
  obtain ⟨R5, eR5⟩ : ∃ z_ : Nat → Nat → Option Nat, z_ = xu R4 (a) 3 (some (a + 4)) := ⟨_, rfl⟩
  refine xr_putR2 3 3 eR5 (xd dX3_init 18 rfl) f3_23 (by decide) (by decide) (by omega) (hk 0 (by decide)).1 (by decide) (fun _ => rfl) (fun _ => rfl) (fun _ => rfl) ?_
  have z := z.re eR5 (by omega)
  refine xr_aload_n (xd dX3_init 19 rfl) 0 rfl ?_
  refine xr_iconst (v := nI 5) (xd dX3_init 20 rfl) (by decide) ?_
  refine xr_sipush (v := nI 152) (xd dX3_init 21 rfl) (by decide) ?_
  obtain ⟨R6, eR6⟩ : ∃ z_ : Nat → Nat → Option Nat, z_ = xmul R5 (a + 10) 5 := ⟨_, rfl⟩
  refine xr_mna2 (N := 5) (K := 152) eR6 (xd dX3_init 22 rfl) (xt_2 (j := 59) (by decide +kernel) (by decide +kernel)) (nI_pos (by decide)) (nI_pos (by decide)) (nI_clamp (by decide)) (nI_clamp (by decide)) (hk 10 (by decide)).1 (hk 10 (by decide)).2 (hrow_of hk (by decide +kernel)) z (by decide) (by decide) (by omega) (by decide) (by decide) ?_
  have z := z.mu eR6 (Nat.le_refl _)
  show xJ _ _ _ _ _ _ _ _ _ 46 [(0, .ref (a))] [.ref (a + 10), .ref (a)] true (a + 16) R6 I L
  obtain ⟨R7, eR7⟩ : ∃ z_ : Nat → Nat → Option Nat, z_ = xu R6 (a) 4 (some (a + 10)) := ⟨_, rfl⟩
  refine xr_putR2 3 4 eR7 (xd dX3_init 23 rfl) f3_26 (by decide) (by decide) (by omega) (hk 0 (by decide)).1 (by decide) (fun _ => rfl) (fun _ => rfl) (fun _ => rfl) ?_
  have z := z.re eR7 (by omega)
  refine xr_vret (xd dX3_init 24 rfl) rfl (by decide) (by decide) (fun _ => rfl) ?_
  subst eR7; subst eR6; subst eR5; subst eR4; subst eR3; subst eR2; subst eR1
  exact ⟨rfl, rfl, z⟩
def rX5 (a : Nat) (p : Nat) (R : Nat → Nat → Option Nat) : Nat → Nat → Option Nat := xu (xu (xu (xu (xu (xu (xu (xu (xmul (xu (xmul (xu (xmul R (a + 1) 6) (a) 1 (some (a + 1))) (a + 8) 4) (a) 2 (some (a + 8))) (a + 13) 4) (a) 3 (some (a + 13))) (a) 4 (some (a + 18))) (a) 5 (some (a + 19))) (a) 6 (some (a + 20))) (a) 7 (some (a + 21))) (a) 8 (some (a + 22))) (a) 9 (some (a + 23))) (a) 0 (some (p))
theorem rX5_lt {a p q : Nat} {R : Nat → Nat → Option Nat} (h : q < a) : rX5 a p R q = R q := by
  unfold rX5
  rw [xu_r _ _ (by omega), xu_r _ _ (by omega), xu_r _ _ (by omega), xu_r _ _ (by omega), xu_r _ _ (by omega), xu_r _ _ (by omega), xu_r _ _ (by omega), xu_r _ _ (by omega), xmul_n (by omega), xu_r _ _ (by omega), xmul_n (by omega), xu_r _ _ (by omega), xmul_n (by omega)]
set_option maxHeartbeats 4000000 in
set_option maxRecDepth 100000 in
theorem t_X5 {b : Nat} {dC : Nat → ClassId} {dI : Nat → Nat → Nat} {cA : Nat → ClassId} {ts : Nat → Nat} {l : Launch} {a : Nat} (hk : ∀ j, j < 24 → kd0 (a + j) = ([5, 16, 13, 13, 13, 13, 13, 13, 16, 13, 13, 13, 13, 16, 13, 13, 13, 13, 13, 13, 13, 13, 13, 13] : List Nat).getD j 0 ∧ ln0 (a + j) = ([0, 6, 32, 32, 32, 32, 32, 32, 4, 32, 32, 32, 32, 4, 32, 32, 32, 32, 293, 32, 32, 32, 32, 32] : List Nat).getD j 0) (ha : a + 24 ≤ 900000) {p : Nat} {R : Nat → Nat → Option Nat} {I : Nat → Nat → Int32} {L : Nat → Nat → Int64} (z : Zr (a + 1) R I L) : xCn (xGm b dC dI cA ts) l mX5_init [.ref a, .ref p] true (a + 1, R, I, L) 23 915 (fun v M => v = none ∧ M = (a + 24, (rX5 a p R), I, L) ∧ Zr (a + 24) (rX5 a p R) I L) (fun _ _ => False) := by
  refine xCn.ofJ (by decide) (Nat.le_of_ble_eq_true rfl) ?_
  show xJ _ _ _ _ _ _ _ _ _ 0 [(0, .ref (a)), (1, .ref (p))] [] true (a + 1) R I L
  refine xr_aload_n (xd dX5_init 0 rfl) 0 rfl ?_
  refine xr_oinit (xd dX5_init 1 rfl) (xt_2 (j := 109) (by decide +kernel) (by decide +kernel)) wOi ⟨by decide, by decide⟩ ?_
  refine xr_aload_n (xd dX5_init 2 rfl) 0 rfl ?_
  refine xr_bipush (v := nI 6) (xd dX5_init 3 rfl) (by decide) ?_
  refine xr_bipush (v := nI 32) (xd dX5_init 4 rfl) (by decide) ?_
  obtain ⟨R1, eR1⟩ : ∃ z_ : Nat → Nat → Option Nat, z_ = xmul R (a + 1) 6 := ⟨_, rfl⟩
  refine xr_mna2 (N := 6) (K := 32) eR1 (xd dX5_init 5 rfl) (xt_2 (j := 110) (by decide +kernel) (by decide +kernel)) (nI_pos (by decide)) (nI_pos (by decide)) (nI_clamp (by decide)) (nI_clamp (by decide)) (hk 1 (by decide)).1 (hk 1 (by decide)).2 (hrow_of hk (by decide +kernel)) z (by decide) (by decide) (by omega) (by decide) (by decide) ?_
  have z := z.mu eR1 (Nat.le_refl _)
  show xJ _ _ _ _ _ _ _ _ _ 13 [(0, .ref (a)), (1, .ref (p))] [.ref (a + 1), .ref (a)] true (a + 8) R1 I L
  obtain ⟨R2, eR2⟩ : ∃ z_ : Nat → Nat → Option Nat, z_ = xu R1 (a) 1 (some (a + 1)) := ⟨_, rfl⟩
  refine xr_putR2 5 1 eR2 (xd dX5_init 6 rfl) f5_11 (by decide) (by decide) (by omega) (hk 0 (by decide)).1 (by decide) (fun _ => rfl) (fun _ => rfl) (fun _ => rfl) ?_
  have z := z.re eR2 (by omega)
  refine xr_aload_n (xd dX5_init 7 rfl) 0 rfl ?_
  refine xr_iconst (v := nI 4) (xd dX5_init 8 rfl) (by decide) ?_
  refine xr_bipush (v := nI 32) (xd dX5_init 9 rfl) (by decide) ?_
  obtain ⟨R3, eR3⟩ : ∃ z_ : Nat → Nat → Option Nat, z_ = xmul R2 (a + 8) 4 := ⟨_, rfl⟩
  refine xr_mna2 (N := 4) (K := 32) eR3 (xd dX5_init 10 rfl) (xt_2 (j := 110) (by decide +kernel) (by decide +kernel)) (nI_pos (by decide)) (nI_pos (by decide)) (nI_clamp (by decide)) (nI_clamp (by decide)) (hk 8 (by decide)).1 (hk 8 (by decide)).2 (hrow_of hk (by decide +kernel)) z (by decide) (by decide) (by omega) (by decide) (by decide) ?_
  have z := z.mu eR3 (Nat.le_refl _)
  show xJ _ _ _ _ _ _ _ _ _ 24 [(0, .ref (a)), (1, .ref (p))] [.ref (a + 8), .ref (a)] true (a + 13) R3 I L
  obtain ⟨R4, eR4⟩ : ∃ z_ : Nat → Nat → Option Nat, z_ = xu R3 (a) 2 (some (a + 8)) := ⟨_, rfl⟩
  refine xr_putR2 5 2 eR4 (xd dX5_init 11 rfl) f5_16 (by decide) (by decide) (by omega) (hk 0 (by decide)).1 (by decide) (fun _ => rfl) (fun _ => rfl) (fun _ => rfl) ?_
  have z := z.re eR4 (by omega)
  refine xr_aload_n (xd dX5_init 12 rfl) 0 rfl ?_
  refine xr_iconst (v := nI 4) (xd dX5_init 13 rfl) (by decide) ?_
  refine xr_bipush (v := nI 32) (xd dX5_init 14 rfl) (by decide) ?_
  obtain ⟨R5, eR5⟩ : ∃ z_ : Nat → Nat → Option Nat, z_ = xmul R4 (a + 13) 4 := ⟨_, rfl⟩
  refine xr_mna2 (N := 4) (K := 32) eR5 (xd dX5_init 15 rfl) (xt_2 (j := 110) (by decide +kernel) (by decide +kernel)) (nI_pos (by decide)) (nI_pos (by decide)) (nI_clamp (by decide)) (nI_clamp (by decide)) (hk 13 (by decide)).1 (hk 13 (by decide)).2 (hrow_of hk (by decide +kernel)) z (by decide) (by decide) (by omega) (by decide) (by decide) ?_
  have z := z.mu eR5 (Nat.le_refl _)
  show xJ _ _ _ _ _ _ _ _ _ 35 [(0, .ref (a)), (1, .ref (p))] [.ref (a + 13), .ref (a)] true (a + 18) R5 I L
  obtain ⟨R6, eR6⟩ : ∃ z_ : Nat → Nat → Option Nat, z_ = xu R5 (a) 3 (some (a + 13)) := ⟨_, rfl⟩
  refine xr_putR2 5 3 eR6 (xd dX5_init 16 rfl) f5_19 (by decide) (by decide) (by omega) (hk 0 (by decide)).1 (by decide) (fun _ => rfl) (fun _ => rfl) (fun _ => rfl) ?_
  have z := z.re eR6 (by omega)
  refine xr_aload_n (xd dX5_init 17 rfl) 0 rfl ?_
  refine xr_sipush (v := nI 293) (xd dX5_init 18 rfl) (by decide) ?_
  refine xr_newI (N := 293) (xd dX5_init 19 rfl) wIa (nI_pos (by decide)) (nI_clamp (by decide)) (hk 18 (by decide)).1 (hk 18 (by decide)).2 (z _ (Nat.le_refl _)).2.1 (by decide) (by omega) (by decide) (by decide) ?_
  have z := z.mono (Nat.le_succ _)
  show xJ _ _ _ _ _ _ _ _ _ 44 [(0, .ref (a)), (1, .ref (p))] [.ref (a + 18), .ref (a)] true (a + 19) R6 I L
  obtain ⟨R7, eR7⟩ : ∃ z_ : Nat → Nat → Option Nat, z_ = xu R6 (a) 4 (some (a + 18)) := ⟨_, rfl⟩
  refine xr_putR2 5 4 eR7 (xd dX5_init 20 rfl) f5_22 (by decide) (by decide) (by omega) (hk 0 (by decide)).1 (by decide) (fun _ => rfl) (fun _ => rfl) (fun _ => rfl) ?_
  have z := z.re eR7 (by omega)
  refine xr_aload_n (xd dX5_init 21 rfl) 0 rfl ?_
  refine xr_bipush (v := nI 32) (xd dX5_init 22 rfl) (by decide) ?_
  refine xr_newI (N := 32) (xd dX5_init 23 rfl) wIa (nI_pos (by decide)) (nI_clamp (by decide)) (hk 19 (by decide)).1 (hk 19 (by decide)).2 (z _ (Nat.le_refl _)).2.1 (by decide) (by omega) (by decide) (by decide) ?_
  have z := z.mono (Nat.le_succ _)
  show xJ _ _ _ _ _ _ _ _ _ 52 [(0, .ref (a)), (1, .ref (p))] [.ref (a + 19), .ref (a)] true (a + 20) R7 I L
  obtain ⟨R8, eR8⟩ : ∃ z_ : Nat → Nat → Option Nat, z_ = xu R7 (a) 5 (some (a + 19)) := ⟨_, rfl⟩
  refine xr_putR2 5 5 eR8 (xd dX5_init 24 rfl) f5_26 (by decide) (by decide) (by omega) (hk 0 (by decide)).1 (by decide) (fun _ => rfl) (fun _ => rfl) (fun _ => rfl) ?_
  have z := z.re eR8 (by omega)
  refine xr_aload_n (xd dX5_init 25 rfl) 0 rfl ?_
  refine xr_bipush (v := nI 32) (xd dX5_init 26 rfl) (by decide) ?_
  refine xr_newI (N := 32) (xd dX5_init 27 rfl) wIa (nI_pos (by decide)) (nI_clamp (by decide)) (hk 20 (by decide)).1 (hk 20 (by decide)).2 (z _ (Nat.le_refl _)).2.1 (by decide) (by omega) (by decide) (by decide) ?_
  have z := z.mono (Nat.le_succ _)
  show xJ _ _ _ _ _ _ _ _ _ 60 [(0, .ref (a)), (1, .ref (p))] [.ref (a + 20), .ref (a)] true (a + 21) R8 I L
  obtain ⟨R9, eR9⟩ : ∃ z_ : Nat → Nat → Option Nat, z_ = xu R8 (a) 6 (some (a + 20)) := ⟨_, rfl⟩
  refine xr_putR2 5 6 eR9 (xd dX5_init 28 rfl) f5_29 (by decide) (by decide) (by omega) (hk 0 (by decide)).1 (by decide) (fun _ => rfl) (fun _ => rfl) (fun _ => rfl) ?_
  have z := z.re eR9 (by omega)
  refine xr_aload_n (xd dX5_init 29 rfl) 0 rfl ?_
  refine xr_bipush (v := nI 32) (xd dX5_init 30 rfl) (by decide) ?_
  refine xr_newI (N := 32) (xd dX5_init 31 rfl) wIa (nI_pos (by decide)) (nI_clamp (by decide)) (hk 21 (by decide)).1 (hk 21 (by decide)).2 (z _ (Nat.le_refl _)).2.1 (by decide) (by omega) (by decide) (by decide) ?_
  have z := z.mono (Nat.le_succ _)
  show xJ _ _ _ _ _ _ _ _ _ 68 [(0, .ref (a)), (1, .ref (p))] [.ref (a + 21), .ref (a)] true (a + 22) R9 I L
  obtain ⟨R10, eR10⟩ : ∃ z_ : Nat → Nat → Option Nat, z_ = xu R9 (a) 7 (some (a + 21)) := ⟨_, rfl⟩
  refine xr_putR2 5 7 eR10 (xd dX5_init 32 rfl) f5_32 (by decide) (by decide) (by omega) (hk 0 (by decide)).1 (by decide) (fun _ => rfl) (fun _ => rfl) (fun _ => rfl) ?_
  have z := z.re eR10 (by omega)
  refine xr_aload_n (xd dX5_init 33 rfl) 0 rfl ?_
  refine xr_bipush (v := nI 32) (xd dX5_init 34 rfl) (by decide) ?_
  refine xr_newI (N := 32) (xd dX5_init 35 rfl) wIa (nI_pos (by decide)) (nI_clamp (by decide)) (hk 22 (by decide)).1 (hk 22 (by decide)).2 (z _ (Nat.le_refl _)).2.1 (by decide) (by omega) (by decide) (by decide) ?_
  have z := z.mono (Nat.le_succ _)
  show xJ _ _ _ _ _ _ _ _ _ 76 [(0, .ref (a)), (1, .ref (p))] [.ref (a + 22), .ref (a)] true (a + 23) R10 I L
  obtain ⟨R11, eR11⟩ : ∃ z_ : Nat → Nat → Option Nat, z_ = xu R10 (a) 8 (some (a + 22)) := ⟨_, rfl⟩
  refine xr_putR2 5 8 eR11 (xd dX5_init 36 rfl) f5_35 (by decide) (by decide) (by omega) (hk 0 (by decide)).1 (by decide) (fun _ => rfl) (fun _ => rfl) (fun _ => rfl) ?_
  have z := z.re eR11 (by omega)
  refine xr_aload_n (xd dX5_init 37 rfl) 0 rfl ?_
  refine xr_bipush (v := nI 32) (xd dX5_init 38 rfl) (by decide) ?_
  refine xr_newI (N := 32) (xd dX5_init 39 rfl) wIa (nI_pos (by decide)) (nI_clamp (by decide)) (hk 23 (by decide)).1 (hk 23 (by decide)).2 (z _ (Nat.le_refl _)).2.1 (by decide) (by omega) (by decide) (by decide) ?_
  have z := z.mono (Nat.le_succ _)
  show xJ _ _ _ _ _ _ _ _ _ 84 [(0, .ref (a)), (1, .ref (p))] [.ref (a + 23), .ref (a)] true (a + 24) R11 I L
  obtain ⟨R12, eR12⟩ : ∃ z_ : Nat → Nat → Option Nat, z_ = xu R11 (a) 9 (some (a + 23)) := ⟨_, rfl⟩
  refine xr_putR2 5 9 eR12 (xd dX5_init 40 rfl) f5_38 (by decide) (by decide) (by omega) (hk 0 (by decide)).1 (by decide) (fun _ => rfl) (fun _ => rfl) (fun _ => rfl) ?_
  have z := z.re eR12 (by omega)
  refine xr_aload_n (xd dX5_init 41 rfl) 0 rfl ?_
  refine xr_aload_n (xd dX5_init 42 rfl) 1 rfl ?_
  obtain ⟨R13, eR13⟩ : ∃ z_ : Nat → Nat → Option Nat, z_ = xu R12 (a) 0 (some (p)) := ⟨_, rfl⟩
  refine xr_putR2 5 0 eR13 (xd dX5_init 43 rfl) f5_41 (by decide) (by decide) (by omega) (hk 0 (by decide)).1 (by decide) (fun _ => rfl) (fun _ => rfl) (fun _ => rfl) ?_
  have z := z.re eR13 (by omega)
  refine xr_vret (xd dX5_init 44 rfl) rfl (by decide) (by decide) (fun _ => rfl) ?_
  subst eR13; subst eR12; subst eR11; subst eR10; subst eR9; subst eR8; subst eR7; subst eR6; subst eR5; subst eR4; subst eR3; subst eR2; subst eR1
  exact ⟨rfl, rfl, z⟩
def rX6 (a : Nat) (p : Nat) (r2 : Nat) (R : Nat → Nat → Option Nat) : Nat → Nat → Option Nat := xu (xu (xu (xu (xu R (a) 3 (some (a + 1))) (a) 4 (some (a + 2))) (a) 5 (some (a + 3))) (a) 1 (some (p))) (a) 2 (some (r2))
theorem rX6_lt {a p r2 q : Nat} {R : Nat → Nat → Option Nat} (h : q < a) : rX6 a p r2 R q = R q := by
  unfold rX6
  rw [xu_r _ _ (by omega), xu_r _ _ (by omega), xu_r _ _ (by omega), xu_r _ _ (by omega), xu_r _ _ (by omega)]
def iX6 (a : Nat) (vi : Int32) (I : Nat → Nat → Int32) : Nat → Nat → Int32 := xu I (a) 0 (vi)
set_option maxHeartbeats 4000000 in
set_option maxRecDepth 100000 in
theorem t_X6 {b : Nat} {dC : Nat → ClassId} {dI : Nat → Nat → Nat} {cA : Nat → ClassId} {ts : Nat → Nat} {l : Launch} {a : Nat} (hk : ∀ j, j < 4 → kd0 (a + j) = ([6, 13, 13, 13] : List Nat).getD j 0 ∧ ln0 (a + j) = ([0, 500, 500, 4] : List Nat).getD j 0) (ha : a + 4 ≤ 900000) {vi : Int32} {p : Nat} {r2 : Nat} {R : Nat → Nat → Option Nat} {I : Nat → Nat → Int32} {L : Nat → Nat → Int64} (z : Zr (a + 1) R I L) : xCn (xGm b dC dI cA ts) l mX6_init [.ref a, .int vi, .ref p, .ref r2] true (a + 1, R, I, L) 3 1004 (fun v M => v = none ∧ M = (a + 4, (rX6 a p r2 R), (iX6 a vi I), L) ∧ Zr (a + 4) (rX6 a p r2 R) (iX6 a vi I) L) (fun _ _ => False) := by
  refine xCn.ofJ (by decide) (Nat.le_of_ble_eq_true rfl) ?_
  show xJ _ _ _ _ _ _ _ _ _ 0 [(0, .ref (a)), (1, .int (vi)), (2, .ref (p)), (3, .ref (r2))] [] true (a + 1) R I L
  refine xr_aload_n (xd dX6_init 0 rfl) 0 rfl ?_
  refine xr_oinit (xd dX6_init 1 rfl) (xt_2 (j := 157) (by decide +kernel) (by decide +kernel)) wOi ⟨by decide, by decide⟩ ?_
  refine xr_aload_n (xd dX6_init 2 rfl) 0 rfl ?_
  refine xr_sipush (v := nI 500) (xd dX6_init 3 rfl) (by decide) ?_
  refine xr_newI (N := 500) (xd dX6_init 4 rfl) wIa (nI_pos (by decide)) (nI_clamp (by decide)) (hk 1 (by decide)).1 (hk 1 (by decide)).2 (z _ (Nat.le_refl _)).2.1 (by decide) (by omega) (by decide) (by decide) ?_
  have z := z.mono (Nat.le_succ _)
  show xJ _ _ _ _ _ _ _ _ _ 10 [(0, .ref (a)), (1, .int (vi)), (2, .ref (p)), (3, .ref (r2))] [.ref (a + 1), .ref (a)] true (a + 2) R I L
  obtain ⟨R1, eR1⟩ : ∃ z_ : Nat → Nat → Option Nat, z_ = xu R (a) 3 (some (a + 1)) := ⟨_, rfl⟩
  refine xr_putR2 6 3 eR1 (xd dX6_init 5 rfl) f6_9 (by decide) (by decide) (by omega) (hk 0 (by decide)).1 (by decide) (fun _ => rfl) (fun _ => rfl) (fun _ => rfl) ?_
  have z := z.re eR1 (by omega)
  refine xr_aload_n (xd dX6_init 6 rfl) 0 rfl ?_
  refine xr_sipush (v := nI 500) (xd dX6_init 7 rfl) (by decide) ?_
  refine xr_newI (N := 500) (xd dX6_init 8 rfl) wIa (nI_pos (by decide)) (nI_clamp (by decide)) (hk 2 (by decide)).1 (hk 2 (by decide)).2 (z _ (Nat.le_refl _)).2.1 (by decide) (by omega) (by decide) (by decide) ?_
  have z := z.mono (Nat.le_succ _)
  show xJ _ _ _ _ _ _ _ _ _ 19 [(0, .ref (a)), (1, .int (vi)), (2, .ref (p)), (3, .ref (r2))] [.ref (a + 2), .ref (a)] true (a + 3) R1 I L
  obtain ⟨R2, eR2⟩ : ∃ z_ : Nat → Nat → Option Nat, z_ = xu R1 (a) 4 (some (a + 2)) := ⟨_, rfl⟩
  refine xr_putR2 6 4 eR2 (xd dX6_init 9 rfl) f6_15 (by decide) (by decide) (by omega) (hk 0 (by decide)).1 (by decide) (fun _ => rfl) (fun _ => rfl) (fun _ => rfl) ?_
  have z := z.re eR2 (by omega)
  refine xr_aload_n (xd dX6_init 10 rfl) 0 rfl ?_
  refine xr_iconst (v := nI 4) (xd dX6_init 11 rfl) (by decide) ?_
  refine xr_newI (N := 4) (xd dX6_init 12 rfl) wIa (nI_pos (by decide)) (nI_clamp (by decide)) (hk 3 (by decide)).1 (hk 3 (by decide)).2 (z _ (Nat.le_refl _)).2.1 (by decide) (by omega) (by decide) (by decide) ?_
  have z := z.mono (Nat.le_succ _)
  show xJ _ _ _ _ _ _ _ _ _ 26 [(0, .ref (a)), (1, .int (vi)), (2, .ref (p)), (3, .ref (r2))] [.ref (a + 3), .ref (a)] true (a + 4) R2 I L
  obtain ⟨R3, eR3⟩ : ∃ z_ : Nat → Nat → Option Nat, z_ = xu R2 (a) 5 (some (a + 3)) := ⟨_, rfl⟩
  refine xr_putR2 6 5 eR3 (xd dX6_init 13 rfl) f6_18 (by decide) (by decide) (by omega) (hk 0 (by decide)).1 (by decide) (fun _ => rfl) (fun _ => rfl) (fun _ => rfl) ?_
  have z := z.re eR3 (by omega)
  refine xr_aload_n (xd dX6_init 14 rfl) 0 rfl ?_
  refine xr_iload_n (xd dX6_init 15 rfl) 1 rfl ?_
  obtain ⟨I1, eI1⟩ : ∃ z_ : Nat → Nat → Int32, z_ = xu I (a) 0 (vi) := ⟨_, rfl⟩
  refine xr_putI2 6 0 (I' := I1) eI1 (xd dX6_init 16 rfl) f6_21 (by decide) (by decide) (by omega) (hk 0 (by decide)).1 (by decide) rfl rfl (fun _ => rfl) ?_
  have z := z.ie eI1 (by omega)
  refine xr_aload_n (xd dX6_init 17 rfl) 0 rfl ?_
  refine xr_aload_n (xd dX6_init 18 rfl) 2 rfl ?_
  obtain ⟨R4, eR4⟩ : ∃ z_ : Nat → Nat → Option Nat, z_ = xu R3 (a) 1 (some (p)) := ⟨_, rfl⟩
  refine xr_putR2 6 1 eR4 (xd dX6_init 19 rfl) f6_25 (by decide) (by decide) (by omega) (hk 0 (by decide)).1 (by decide) (fun _ => rfl) (fun _ => rfl) (fun _ => rfl) ?_
  have z := z.re eR4 (by omega)
  refine xr_aload_n (xd dX6_init 20 rfl) 0 rfl ?_
  refine xr_aload_n (xd dX6_init 21 rfl) 3 rfl ?_
  obtain ⟨R5, eR5⟩ : ∃ z_ : Nat → Nat → Option Nat, z_ = xu R4 (a) 2 (some (r2)) := ⟨_, rfl⟩
  refine xr_putR2 6 2 eR5 (xd dX6_init 22 rfl) f6_29 (by decide) (by decide) (by omega) (hk 0 (by decide)).1 (by decide) (fun _ => rfl) (fun _ => rfl) (fun _ => rfl) ?_
  have z := z.re eR5 (by omega)
  refine xr_vret (xd dX6_init 23 rfl) rfl (by decide) (by decide) (fun _ => rfl) ?_
  subst eR5; subst eR4; subst eI1; subst eR3; subst eR2; subst eR1
  exact ⟨rfl, rfl, z⟩
def rX7 (a : Nat) (R : Nat → Nat → Option Nat) : Nat → Nat → Option Nat := xu (xu (xu (xu R (a) 0 (some (a + 1))) (a) 1 (some (a + 2))) (a) 2 (some (a + 3))) (a) 3 (some (a + 4))
theorem rX7_lt {a q : Nat} {R : Nat → Nat → Option Nat} (h : q < a) : rX7 a R q = R q := by
  unfold rX7
  rw [xu_r _ _ (by omega), xu_r _ _ (by omega), xu_r _ _ (by omega), xu_r _ _ (by omega)]
set_option maxHeartbeats 4000000 in
set_option maxRecDepth 100000 in
theorem t_X7 {b : Nat} {dC : Nat → ClassId} {dI : Nat → Nat → Nat} {cA : Nat → ClassId} {ts : Nat → Nat} {l : Launch} {a : Nat} (hk : ∀ j, j < 5 → kd0 (a + j) = ([7, 13, 13, 13, 13] : List Nat).getD j 0 ∧ ln0 (a + j) = ([0, 704, 128, 8, 64] : List Nat).getD j 0) (ha : a + 5 ≤ 900000) {R : Nat → Nat → Option Nat} {I : Nat → Nat → Int32} {L : Nat → Nat → Int64} (z : Zr (a + 1) R I L) : xCn (xGm b dC dI cA ts) l mX7_init [.ref a] true (a + 1, R, I, L) 4 904 (fun v M => v = none ∧ M = (a + 5, (rX7 a R), I, L) ∧ Zr (a + 5) (rX7 a R) I L) (fun _ _ => False) := by
  refine xCn.ofJ (by decide) (Nat.le_of_ble_eq_true rfl) ?_
  show xJ _ _ _ _ _ _ _ _ _ 0 [(0, .ref (a))] [] true (a + 1) R I L
  refine xr_aload_n (xd dX7_init 0 rfl) 0 rfl ?_
  refine xr_oinit (xd dX7_init 1 rfl) (xt_1 (j := 114) (by decide +kernel) (by decide +kernel)) wOi ⟨by decide, by decide⟩ ?_
  refine xr_aload_n (xd dX7_init 2 rfl) 0 rfl ?_
  refine xr_sipush (v := nI 704) (xd dX7_init 3 rfl) (by decide) ?_
  refine xr_newI (N := 704) (xd dX7_init 4 rfl) wIa (nI_pos (by decide)) (nI_clamp (by decide)) (hk 1 (by decide)).1 (hk 1 (by decide)).2 (z _ (Nat.le_refl _)).2.1 (by decide) (by omega) (by decide) (by decide) ?_
  have z := z.mono (Nat.le_succ _)
  show xJ _ _ _ _ _ _ _ _ _ 10 [(0, .ref (a))] [.ref (a + 1), .ref (a)] true (a + 2) R I L
  obtain ⟨R1, eR1⟩ : ∃ z_ : Nat → Nat → Option Nat, z_ = xu R (a) 0 (some (a + 1)) := ⟨_, rfl⟩
  refine xr_putR2 7 0 eR1 (xd dX7_init 5 rfl) f7_9 (by decide) (by decide) (by omega) (hk 0 (by decide)).1 (by decide) (fun _ => rfl) (fun _ => rfl) (fun _ => rfl) ?_
  have z := z.re eR1 (by omega)
  refine xr_aload_n (xd dX7_init 6 rfl) 0 rfl ?_
  refine xr_sipush (v := nI 128) (xd dX7_init 7 rfl) (by decide) ?_
  refine xr_newI (N := 128) (xd dX7_init 8 rfl) wIa (nI_pos (by decide)) (nI_clamp (by decide)) (hk 2 (by decide)).1 (hk 2 (by decide)).2 (z _ (Nat.le_refl _)).2.1 (by decide) (by omega) (by decide) (by decide) ?_
  have z := z.mono (Nat.le_succ _)
  show xJ _ _ _ _ _ _ _ _ _ 19 [(0, .ref (a))] [.ref (a + 2), .ref (a)] true (a + 3) R1 I L
  obtain ⟨R2, eR2⟩ : ∃ z_ : Nat → Nat → Option Nat, z_ = xu R1 (a) 1 (some (a + 2)) := ⟨_, rfl⟩
  refine xr_putR2 7 1 eR2 (xd dX7_init 9 rfl) f7_15 (by decide) (by decide) (by omega) (hk 0 (by decide)).1 (by decide) (fun _ => rfl) (fun _ => rfl) (fun _ => rfl) ?_
  have z := z.re eR2 (by omega)
  refine xr_aload_n (xd dX7_init 10 rfl) 0 rfl ?_
  refine xr_bipush (v := nI 8) (xd dX7_init 11 rfl) (by decide) ?_
  refine xr_newI (N := 8) (xd dX7_init 12 rfl) wIa (nI_pos (by decide)) (nI_clamp (by decide)) (hk 3 (by decide)).1 (hk 3 (by decide)).2 (z _ (Nat.le_refl _)).2.1 (by decide) (by omega) (by decide) (by decide) ?_
  have z := z.mono (Nat.le_succ _)
  show xJ _ _ _ _ _ _ _ _ _ 27 [(0, .ref (a))] [.ref (a + 3), .ref (a)] true (a + 4) R2 I L
  obtain ⟨R3, eR3⟩ : ∃ z_ : Nat → Nat → Option Nat, z_ = xu R2 (a) 2 (some (a + 3)) := ⟨_, rfl⟩
  refine xr_putR2 7 2 eR3 (xd dX7_init 13 rfl) f7_18 (by decide) (by decide) (by omega) (hk 0 (by decide)).1 (by decide) (fun _ => rfl) (fun _ => rfl) (fun _ => rfl) ?_
  have z := z.re eR3 (by omega)
  refine xr_aload_n (xd dX7_init 14 rfl) 0 rfl ?_
  refine xr_bipush (v := nI 64) (xd dX7_init 15 rfl) (by decide) ?_
  refine xr_newI (N := 64) (xd dX7_init 16 rfl) wIa (nI_pos (by decide)) (nI_clamp (by decide)) (hk 4 (by decide)).1 (hk 4 (by decide)).2 (z _ (Nat.le_refl _)).2.1 (by decide) (by omega) (by decide) (by decide) ?_
  have z := z.mono (Nat.le_succ _)
  show xJ _ _ _ _ _ _ _ _ _ 35 [(0, .ref (a))] [.ref (a + 4), .ref (a)] true (a + 5) R3 I L
  obtain ⟨R4, eR4⟩ : ∃ z_ : Nat → Nat → Option Nat, z_ = xu R3 (a) 3 (some (a + 4)) := ⟨_, rfl⟩
  refine xr_putR2 7 3 eR4 (xd dX7_init 17 rfl) f7_21 (by decide) (by decide) (by omega) (hk 0 (by decide)).1 (by decide) (fun _ => rfl) (fun _ => rfl) (fun _ => rfl) ?_
  have z := z.re eR4 (by omega)
  refine xr_vret (xd dX7_init 18 rfl) rfl (by decide) (by decide) (fun _ => rfl) ?_
  subst eR4; subst eR3; subst eR2; subst eR1
  exact ⟨rfl, rfl, z⟩
def rX9 (a : Nat) (R : Nat → Nat → Option Nat) : Nat → Nat → Option Nat := xu (xu (xu (xu (xu (xu R (a) 0 (some (a + 1))) (a) 1 (some (a + 2))) (a) 2 (some (a + 3))) (a) 3 (some (a + 4))) (a) 9 (some (a + 5))) (a) 10 (some (a + 6))
theorem rX9_lt {a q : Nat} {R : Nat → Nat → Option Nat} (h : q < a) : rX9 a R q = R q := by
  unfold rX9
  rw [xu_r _ _ (by omega), xu_r _ _ (by omega), xu_r _ _ (by omega), xu_r _ _ (by omega), xu_r _ _ (by omega), xu_r _ _ (by omega)]
set_option maxHeartbeats 4000000 in
set_option maxRecDepth 100000 in
theorem t_X9 {b : Nat} {dC : Nat → ClassId} {dI : Nat → Nat → Nat} {cA : Nat → ClassId} {ts : Nat → Nat} {l : Launch} {a : Nat} (hk : ∀ j, j < 7 → kd0 (a + j) = ([9, 13, 13, 13, 13, 13, 13] : List Nat).getD j 0 ∧ ln0 (a + j) = ([0, 16, 8, 8, 150, 16, 16] : List Nat).getD j 0) (ha : a + 7 ≤ 900000) {R : Nat → Nat → Option Nat} {I : Nat → Nat → Int32} {L : Nat → Nat → Int64} (z : Zr (a + 1) R I L) : xCn (xGm b dC dI cA ts) l mX9_init [.ref a] true (a + 1, R, I, L) 6 214 (fun v M => v = none ∧ M = (a + 7, (rX9 a R), I, L) ∧ Zr (a + 7) (rX9 a R) I L) (fun _ _ => False) := by
  refine xCn.ofJ (by decide) (Nat.le_of_ble_eq_true rfl) ?_
  show xJ _ _ _ _ _ _ _ _ _ 0 [(0, .ref (a))] [] true (a + 1) R I L
  refine xr_aload_n (xd dX9_init 0 rfl) 0 rfl ?_
  refine xr_oinit (xd dX9_init 1 rfl) (xt_1 (j := 169) (by decide +kernel) (by decide +kernel)) wOi ⟨by decide, by decide⟩ ?_
  refine xr_aload_n (xd dX9_init 2 rfl) 0 rfl ?_
  refine xr_bipush (v := nI 16) (xd dX9_init 3 rfl) (by decide) ?_
  refine xr_newI (N := 16) (xd dX9_init 4 rfl) wIa (nI_pos (by decide)) (nI_clamp (by decide)) (hk 1 (by decide)).1 (hk 1 (by decide)).2 (z _ (Nat.le_refl _)).2.1 (by decide) (by omega) (by decide) (by decide) ?_
  have z := z.mono (Nat.le_succ _)
  show xJ _ _ _ _ _ _ _ _ _ 9 [(0, .ref (a))] [.ref (a + 1), .ref (a)] true (a + 2) R I L
  obtain ⟨R1, eR1⟩ : ∃ z_ : Nat → Nat → Option Nat, z_ = xu R (a) 0 (some (a + 1)) := ⟨_, rfl⟩
  refine xr_putR2 9 0 eR1 (xd dX9_init 5 rfl) f9_9 (by decide) (by decide) (by omega) (hk 0 (by decide)).1 (by decide) (fun _ => rfl) (fun _ => rfl) (fun _ => rfl) ?_
  have z := z.re eR1 (by omega)
  refine xr_aload_n (xd dX9_init 6 rfl) 0 rfl ?_
  refine xr_bipush (v := nI 8) (xd dX9_init 7 rfl) (by decide) ?_
  refine xr_newI (N := 8) (xd dX9_init 8 rfl) wIa (nI_pos (by decide)) (nI_clamp (by decide)) (hk 2 (by decide)).1 (hk 2 (by decide)).2 (z _ (Nat.le_refl _)).2.1 (by decide) (by omega) (by decide) (by decide) ?_
  have z := z.mono (Nat.le_succ _)
  show xJ _ _ _ _ _ _ _ _ _ 17 [(0, .ref (a))] [.ref (a + 2), .ref (a)] true (a + 3) R1 I L
  obtain ⟨R2, eR2⟩ : ∃ z_ : Nat → Nat → Option Nat, z_ = xu R1 (a) 1 (some (a + 2)) := ⟨_, rfl⟩
  refine xr_putR2 9 1 eR2 (xd dX9_init 9 rfl) f9_15 (by decide) (by decide) (by omega) (hk 0 (by decide)).1 (by decide) (fun _ => rfl) (fun _ => rfl) (fun _ => rfl) ?_
  have z := z.re eR2 (by omega)
  refine xr_aload_n (xd dX9_init 10 rfl) 0 rfl ?_
  refine xr_bipush (v := nI 8) (xd dX9_init 11 rfl) (by decide) ?_
  refine xr_newI (N := 8) (xd dX9_init 12 rfl) wIa (nI_pos (by decide)) (nI_clamp (by decide)) (hk 3 (by decide)).1 (hk 3 (by decide)).2 (z _ (Nat.le_refl _)).2.1 (by decide) (by omega) (by decide) (by decide) ?_
  have z := z.mono (Nat.le_succ _)
  show xJ _ _ _ _ _ _ _ _ _ 25 [(0, .ref (a))] [.ref (a + 3), .ref (a)] true (a + 4) R2 I L
  obtain ⟨R3, eR3⟩ : ∃ z_ : Nat → Nat → Option Nat, z_ = xu R2 (a) 2 (some (a + 3)) := ⟨_, rfl⟩
  refine xr_putR2 9 2 eR3 (xd dX9_init 13 rfl) f9_18 (by decide) (by decide) (by omega) (hk 0 (by decide)).1 (by decide) (fun _ => rfl) (fun _ => rfl) (fun _ => rfl) ?_
  have z := z.re eR3 (by omega)
  refine xr_aload_n (xd dX9_init 14 rfl) 0 rfl ?_
  refine xr_sipush (v := nI 150) (xd dX9_init 15 rfl) (by decide) ?_
  refine xr_newI (N := 150) (xd dX9_init 16 rfl) wIa (nI_pos (by decide)) (nI_clamp (by decide)) (hk 4 (by decide)).1 (hk 4 (by decide)).2 (z _ (Nat.le_refl _)).2.1 (by decide) (by omega) (by decide) (by decide) ?_
  have z := z.mono (Nat.le_succ _)
  show xJ _ _ _ _ _ _ _ _ _ 34 [(0, .ref (a))] [.ref (a + 4), .ref (a)] true (a + 5) R3 I L
  obtain ⟨R4, eR4⟩ : ∃ z_ : Nat → Nat → Option Nat, z_ = xu R3 (a) 3 (some (a + 4)) := ⟨_, rfl⟩
  refine xr_putR2 9 3 eR4 (xd dX9_init 17 rfl) f9_21 (by decide) (by decide) (by omega) (hk 0 (by decide)).1 (by decide) (fun _ => rfl) (fun _ => rfl) (fun _ => rfl) ?_
  have z := z.re eR4 (by omega)
  refine xr_aload_n (xd dX9_init 18 rfl) 0 rfl ?_
  refine xr_bipush (v := nI 16) (xd dX9_init 19 rfl) (by decide) ?_
  refine xr_newI (N := 16) (xd dX9_init 20 rfl) wIa (nI_pos (by decide)) (nI_clamp (by decide)) (hk 5 (by decide)).1 (hk 5 (by decide)).2 (z _ (Nat.le_refl _)).2.1 (by decide) (by omega) (by decide) (by decide) ?_
  have z := z.mono (Nat.le_succ _)
  show xJ _ _ _ _ _ _ _ _ _ 42 [(0, .ref (a))] [.ref (a + 5), .ref (a)] true (a + 6) R4 I L
  obtain ⟨R5, eR5⟩ : ∃ z_ : Nat → Nat → Option Nat, z_ = xu R4 (a) 9 (some (a + 5)) := ⟨_, rfl⟩
  refine xr_putR2 9 9 eR5 (xd dX9_init 21 rfl) f9_24 (by decide) (by decide) (by omega) (hk 0 (by decide)).1 (by decide) (fun _ => rfl) (fun _ => rfl) (fun _ => rfl) ?_
  have z := z.re eR5 (by omega)
  refine xr_aload_n (xd dX9_init 22 rfl) 0 rfl ?_
  refine xr_bipush (v := nI 16) (xd dX9_init 23 rfl) (by decide) ?_
  refine xr_newI (N := 16) (xd dX9_init 24 rfl) wIa (nI_pos (by decide)) (nI_clamp (by decide)) (hk 6 (by decide)).1 (hk 6 (by decide)).2 (z _ (Nat.le_refl _)).2.1 (by decide) (by omega) (by decide) (by decide) ?_
  have z := z.mono (Nat.le_succ _)
  show xJ _ _ _ _ _ _ _ _ _ 50 [(0, .ref (a))] [.ref (a + 6), .ref (a)] true (a + 7) R5 I L
  obtain ⟨R6, eR6⟩ : ∃ z_ : Nat → Nat → Option Nat, z_ = xu R5 (a) 10 (some (a + 6)) := ⟨_, rfl⟩
  refine xr_putR2 9 10 eR6 (xd dX9_init 25 rfl) f9_27 (by decide) (by decide) (by omega) (hk 0 (by decide)).1 (by decide) (fun _ => rfl) (fun _ => rfl) (fun _ => rfl) ?_
  have z := z.re eR6 (by omega)
  refine xr_vret (xd dX9_init 26 rfl) rfl (by decide) (by decide) (fun _ => rfl) ?_
  subst eR6; subst eR5; subst eR4; subst eR3; subst eR2; subst eR1
  exact ⟨rfl, rfl, z⟩
set_option maxHeartbeats 4000000 in
set_option maxRecDepth 100000 in
theorem t_X10 {b : Nat} {dC : Nat → ClassId} {dI : Nat → Nat → Nat} {cA : Nat → ClassId} {ts : Nat → Nat} {l : Launch} {a : Nat} (hk : ∀ j, j < 1 → kd0 (a + j) = ([10] : List Nat).getD j 0 ∧ ln0 (a + j) = ([0] : List Nat).getD j 0) (ha : a + 1 ≤ 900000) {R : Nat → Nat → Option Nat} {I : Nat → Nat → Int32} {L : Nat → Nat → Int64} (z : Zr (a + 1) R I L) : xCn (xGm b dC dI cA ts) l mX10_init [.ref a] true (a + 1, R, I, L) 0 0 (fun v M => v = none ∧ M = (a + 1, R, I, L) ∧ Zr (a + 1) R I L) (fun _ _ => False) := by
  refine xCn.ofJ (by decide) (Nat.le_of_ble_eq_true rfl) ?_
  show xJ _ _ _ _ _ _ _ _ _ 0 [(0, .ref (a))] [] true (a + 1) R I L
  refine xr_aload_n (xd dX10_init 0 rfl) 0 rfl ?_
  refine xr_oinit (xd dX10_init 1 rfl) (xt_2 (j := 193) (by decide +kernel) (by decide +kernel)) wOi ⟨by decide, by decide⟩ ?_
  refine xr_vret (xd dX10_init 2 rfl) rfl (by decide) (by decide) (fun _ => rfl) ?_
  skip
  exact ⟨rfl, rfl, z⟩
def rX4 (a N : Nat) (R : Nat → Nat → Option Nat) : Nat → Nat → Option Nat := xu (xu (xu (xmul R (a + 1) N) a 2 (some (a + 1))) a 3 (some (a + 1 + 1 + N))) a 4 (some (a + 1 + 1 + N + 1))
theorem rX4_lt {a N q : Nat} {R : Nat → Nat → Option Nat} (h : q < a) : rX4 a N R q = R q := by
  unfold rX4
  rw [xu_r _ _ (by omega), xu_r _ _ (by omega), xu_r _ _ (by omega), xmul_n (by omega)]
/-- numbers 0, 1, .. in the first t places of a row -/
def xord (I : Nat → Nat → Int32) (o t : Nat) : Nat → Nat → Int32 := fun k i => if k = o ∧ i < t then nI i else I k i
theorem xord_s (I : Nat → Nat → Int32) (o t : Nat) : xu (xord I o t) o t (nI t) = xord I o (t + 1) := by
  funext k i
  unfold xu xord
  by_cases h1 : k = o
  · by_cases h2 : i = t
    · subst h1; subst h2
      rw [if_pos ⟨rfl, rfl⟩, if_pos ⟨rfl, by omega⟩]
    · rw [if_neg (fun q => h2 q.2)]
      by_cases h3 : i < t
      · rw [if_pos ⟨h1, h3⟩, if_pos ⟨h1, by omega⟩]
      · rw [if_neg (fun q => h3 q.2), if_neg (fun q => h3 (by omega))]
  · rw [if_neg (fun q => h1 q.1), if_neg (fun q => h1 q.1), if_neg (fun q => h1 q.1)]
def iX4 (a N K : Nat) (I : Nat → Nat → Int32) : Nat → Nat → Int32 := xord (xu (xu I a 0 (nI N)) a 1 (nI K)) (a + 1 + 1 + N + 1) N
theorem Zr.ord {n o t : Nat} {R : Nat → Nat → Option Nat} {I I' : Nat → Nat → Int32} {L : Nat → Nat → Int64} (h : Zr n R I L) (e : I' = xord I o t) (ho : o < n) : Zr n R I' L := fun q hq => ⟨(h q hq).1, by rw [e]; funext i; rw [xord, if_neg (by omega), (h q hq).2.1], (h q hq).2.2⟩
set_option maxHeartbeats 4000000 in
set_option maxRecDepth 100000 in
theorem t_X4 {b : Nat} {dC : Nat → ClassId} {dI : Nat → Nat → Nat} {cA : Nat → ClassId} {ts : Nat → Nat} {l : Launch} {a N K : Nat} (hN : N ≤ 1000) (hK : K ≤ 1000) (ka : kd0 a = 4) (k1 : kd0 (a + 1) = 16) (l1 : ln0 (a + 1) = N) (kr : ∀ i, i < N → kd0 (a + 1 + 1 + i) = 13 ∧ ln0 (a + 1 + 1 + i) = K) (k2 : kd0 (a + 1 + 1 + N) = 13) (l2 : ln0 (a + 1 + 1 + N) = N) (k3 : kd0 (a + 1 + 1 + N + 1) = 13) (l3 : ln0 (a + 1 + 1 + N + 1) = N) (ha : a + N + 4 ≤ 900000) {R : Nat → Nat → Option Nat} {I : Nat → Nat → Int32} {L : Nat → Nat → Int64} (z : Zr (a + 1) R I L) : xCn (xGm b dC dI cA ts) l mX4_init [.ref a, .int (nI N), .int (nI K)] true (a + 1, R, I, L) (N + 3) (N + N * K + N + N) (fun v M => v = none ∧ M = (a + 1 + 1 + N + 1 + 1, rX4 a N R, iX4 a N K I, L) ∧ Zr (a + 1 + 1 + N + 1 + 1) (rX4 a N R) (iX4 a N K I) L) (fun _ _ => False) := by
  refine xCn.ofJ (by decide) (Nat.le_of_ble_eq_true rfl) ?_
  generalize hNK : N * K = NK
  show xJ _ _ _ _ _ _ _ _ _ 0 [(0, .ref a), (1, .int (nI N)), (2, .int (nI K))] [] true (a + 1) R I L
  refine xr_aload_n (xd dX4_init 0 rfl) 0 rfl ?_
  refine xr_oinit (xd dX4_init 1 rfl) (xt_1 (j := 135) (by decide +kernel) (by decide +kernel)) wOi ⟨by decide, by decide⟩ ?_
  refine xr_aload_n (xd dX4_init 2 rfl) 0 rfl ?_
  refine xr_iload_n (xd dX4_init 3 rfl) 1 rfl ?_
  obtain ⟨I1, eI1⟩ : ∃ z_ : Nat → Nat → Int32, z_ = xu I a 0 (nI N) := ⟨_, rfl⟩
  refine xr_putI2 4 0 (I' := I1) eI1 (xd dX4_init 4 rfl) f4_7 (by decide) (by decide) (by omega) ka (by decide) rfl rfl (fun _ => rfl) ?_
  have z := z.ie eI1 (by omega)
  refine xr_aload_n (xd dX4_init 5 rfl) 0 rfl ?_
  refine xr_iload_n (xd dX4_init 6 rfl) 2 rfl ?_
  obtain ⟨I2, eI2⟩ : ∃ z_ : Nat → Nat → Int32, z_ = xu I1 a 1 (nI K) := ⟨_, rfl⟩
  refine xr_putI2 4 1 (I' := I2) eI2 (xd dX4_init 7 rfl) f4_13 (by decide) (by decide) (by omega) ka (by decide) rfl rfl (fun _ => rfl) ?_
  have z := z.ie eI2 (by omega)
  refine xr_aload_n (xd dX4_init 8 rfl) 0 rfl ?_
  refine xr_iload_n (xd dX4_init 9 rfl) 1 rfl ?_
  refine xr_iload_n (xd dX4_init 10 rfl) 2 rfl ?_
  obtain ⟨R1, eR1⟩ : ∃ z_ : Nat → Nat → Option Nat, z_ = xmul R (a + 1) N := ⟨_, rfl⟩
  refine xr_mna2 (N := N) (K := K) eR1 (xd dX4_init 11 rfl) (xt_1 (j := 136) (by decide +kernel) (by decide +kernel)) (nI_pos (by omega)) (nI_pos (by omega)) (nI_clamp (by omega)) (nI_clamp (by omega)) k1 l1 kr z hN hK (by omega) (by omega) (by rw [hNK]; omega) ?_
  have z := z.mu eR1 (Nat.le_refl _)
  obtain ⟨R2, eR2⟩ : ∃ z_ : Nat → Nat → Option Nat, z_ = xu R1 a 2 (some (a + 1)) := ⟨_, rfl⟩
  refine xr_putR2 4 2 eR2 (xd dX4_init 12 rfl) f4_18 (by decide) (by decide) (by omega) ka (by decide) (fun _ => rfl) (fun _ => rfl) (fun _ => rfl) ?_
  have z := z.re eR2 (by omega)
  refine xr_aload_n (xd dX4_init 13 rfl) 0 rfl ?_
  refine xr_iload_n (xd dX4_init 14 rfl) 1 rfl ?_
  refine xr_newI (N := N) (xd dX4_init 15 rfl) wIa (nI_pos (by omega)) (nI_clamp (by omega)) k2 l2 (z _ (Nat.le_refl _)).2.1 (by omega) (by omega) (by omega) (by rw [hNK]; omega) ?_
  have z := z.mono (Nat.le_succ _)
  obtain ⟨R3, eR3⟩ : ∃ z_ : Nat → Nat → Option Nat, z_ = xu R2 a 3 (some (a + 1 + 1 + N)) := ⟨_, rfl⟩
  refine xr_putR2 4 3 eR3 (xd dX4_init 16 rfl) f4_21 (by decide) (by decide) (by omega) ka (by decide) (fun _ => rfl) (fun _ => rfl) (fun _ => rfl) ?_
  have z := z.re eR3 (by omega)
  refine xr_aload_n (xd dX4_init 17 rfl) 0 rfl ?_
  refine xr_iload_n (xd dX4_init 18 rfl) 1 rfl ?_
  refine xr_newI (N := N) (xd dX4_init 19 rfl) wIa (nI_pos (by omega)) (nI_clamp (by omega)) k3 l3 (z _ (Nat.le_refl _)).2.1 (by omega) (by omega) (by omega) (by rw [hNK]; omega) ?_
  have z := z.mono (Nat.le_succ _)
  obtain ⟨R4, eR4⟩ : ∃ z_ : Nat → Nat → Option Nat, z_ = xu R3 a 4 (some (a + 1 + 1 + N + 1)) := ⟨_, rfl⟩
  refine xr_putR2 4 4 eR4 (xd dX4_init 20 rfl) f4_25 (by decide) (by decide) (by omega) ka (by decide) (fun _ => rfl) (fun _ => rfl) (fun _ => rfl) ?_
  have z := z.re eR4 (by omega)
  refine xr_iconst (v := nI 0) (xd dX4_init 21 rfl) (by decide) ?_
  refine xr_istore_n (i := 3) [(0, .ref a), (1, .int (nI N)), (2, .int (nI K)), (3, .int (nI 0))] (xd dX4_init 22 rfl) rfl (by decide) rfl ?_
  rw [hNK]
  have go : ∀ (k t : Nat) (I' : Nat → Nat → Int32), t + k = N → I' = xord I2 (a + 1 + 1 + N + 1) t → xJ (xGm b dC dI cA ts) l mX4_init (N + 3) (N + NK + N + N) (fun v M => v = none ∧ M = (a + 1 + 1 + N + 1 + 1, rX4 a N R, iX4 a N K I, L) ∧ Zr (a + 1 + 1 + N + 1 + 1) (rX4 a N R) (iX4 a N K I) L) (fun _ _ => False) (0 + 1 + N + 1 + 1) (0 + N + NK + N + N) 40 [(0, .ref a), (1, .int (nI N)), (2, .int (nI K)), (3, .int (nI t))] [] true (a + 1 + 1 + N + 1 + 1) R4 I' L := by
    intro k
    induction k with
    | zero =>
      intro t I' ht hI
      refine xr_iload_n (xd dX4_init 23 rfl) 3 rfl ?_
      refine xr_iload_n (xd dX4_init 24 rfl) 1 rfl ?_
      refine xr_icmpN_ge 58 (xd dX4_init 25 rfl) (by decide) (by omega) (by omega) (fun _ => ?_) (fun c => absurd c (by omega))
      refine xr_vret (xd dX4_init 33 rfl) rfl (by omega) (by omega) (fun _ => by omega) ?_
      have z := z.ord hI (by omega)
      obtain rfl : t = N := by omega
      subst hI; subst eI2; subst eI1; subst eR4; subst eR3; subst eR2; subst eR1
      exact ⟨rfl, rfl, z⟩
    | succ k ih =>
      intro t I' ht hI
      refine xr_iload_n (xd dX4_init 23 rfl) 3 rfl ?_
      refine xr_iload_n (xd dX4_init 24 rfl) 1 rfl ?_
      refine xr_icmpN_ge 58 (xd dX4_init 25 rfl) (by decide) (by omega) (by omega) (fun c => absurd c (by omega)) (fun _ => ?_)
      refine xr_aload_n (xd dX4_init 26 rfl) 0 rfl ?_
      refine xr_getR (b := a + 1 + 1 + N + 1) 4 4 (xd dX4_init 27 rfl) f4_25 (by decide) (by decide) (by omega) ka rfl (by rw [eR4, xu_s]) ?_
      refine xr_iload_n (xd dX4_init 28 rfl) 3 rfl ?_
      refine xr_iload_n (xd dX4_init 29 rfl) 3 rfl ?_
      refine xr_iastoreN (I' := xu I' (a + 1 + 1 + N + 1) t (nI t)) rfl (xd dX4_init 30 rfl) (by omega) k3 l3 (by omega) (by omega) ?_
      refine xr_iinc (v := nI (t + 1)) [(0, .ref a), (1, .int (nI N)), (2, .int (nI K)), (3, .int (nI (t + 1)))] (xd dX4_init 31 rfl) 3 rfl (nI_succ t).symm (by decide) rfl ?_
      refine xr_goto 40 (xd dX4_init 32 rfl) (by decide) ?_
      exact ih (t + 1) _ (by omega) (by rw [hI, xord_s])
  exact go N 0 I2 (by omega) (by funext k i; rw [xord, if_neg (by omega)])
def rX8 (a : Nat) (p : Nat) (w : Nat) (R : Nat → Nat → Option Nat) : Nat → Nat → Option Nat := xu (xu (xu (xu (xu (rX6 (a + 168) (w) (a + 144) (xu (rX5 (a + 144) (p) (xu (xu (xu (rX4 (a + 38) 100 (xu (xu (xu (rX0 (a + 33) (xu (rX3 (a + 17) (xu (rX2 (a + 8) (xu (rX9 (a + 1) R) (a) 1 (some (a + 1)))) (a) 4 (some (a + 8)))) (a) 5 (some (a + 17)))) (a) 6 (some (a + 33))) (a) 7 (some (a + 36))) (a) 8 (some (a + 37)))) (a) 9 (some (a + 38))) (a) 10 (some (a + 142))) (a) 11 (some (a + 143)))) (a) 2 (some (a + 144)))) (a) 3 (some (a + 168))) (a + 36) 0 (some (a + 172))) (a + 36) 1 (some (a + 173))) (a + 36) 2 (some (a + 174))) (a + 36) 3 (some (a + 175))
theorem rX8_lt {a p w q : Nat} {R : Nat → Nat → Option Nat} (h : q < a) : rX8 a p w R q = R q := by
  unfold rX8
  rw [xu_r _ _ (by omega), xu_r _ _ (by omega), xu_r _ _ (by omega), xu_r _ _ (by omega), xu_r _ _ (by omega), rX6_lt (by omega), xu_r _ _ (by omega), rX5_lt (by omega), xu_r _ _ (by omega), xu_r _ _ (by omega), xu_r _ _ (by omega), rX4_lt (by omega), xu_r _ _ (by omega), xu_r _ _ (by omega), xu_r _ _ (by omega), rX0_lt (by omega), xu_r _ _ (by omega), rX3_lt (by omega), xu_r _ _ (by omega), rX2_lt (by omega), xu_r _ _ (by omega), rX9_lt (by omega)]
def iX8 (a : Nat) (vi : Int32) (I : Nat → Nat → Int32) : Nat → Nat → Int32 := iX6 (a + 168) (vi) (xu (iX4 (a + 38) 100 60 I) (a) 0 (vi))
set_option maxHeartbeats 4000000 in
set_option maxRecDepth 100000 in
theorem t_X8 {b : Nat} {dC : Nat → ClassId} {dI : Nat → Nat → Nat} {cA : Nat → ClassId} {ts : Nat → Nat} {l : Launch} {a : Nat} (hk : ∀ j, j < 176 → kd0 (a + j) = ([8, 9, 13, 13, 13, 13, 13, 13, 2, 13, 13, 13, 13, 13, 13, 13, 13, 3, 13, 13, 13, 16, 13, 13, 13, 13, 13, 16, 13, 13, 13, 13, 13, 0, 13, 13, 19, 13, 4, 16, 13, 13, 13, 13, 13, 13, 13, 13, 13, 13, 13, 13, 13, 13, 13, 13, 13, 13, 13, 13, 13, 13, 13, 13, 13, 13, 13, 13, 13, 13, 13, 13, 13, 13, 13, 13, 13, 13, 13, 13, 13, 13, 13, 13, 13, 13, 13, 13, 13, 13, 13, 13, 13, 13, 13, 13, 13, 13, 13, 13, 13, 13, 13, 13, 13, 13, 13, 13, 13, 13, 13, 13, 13, 13, 13, 13, 13, 13, 13, 13, 13, 13, 13, 13, 13, 13, 13, 13, 13, 13, 13, 13, 13, 13, 13, 13, 13, 13, 13, 13, 13, 13, 13, 13, 5, 16, 13, 13, 13, 13, 13, 13, 16, 13, 13, 13, 13, 16, 13, 13, 13, 13, 13, 13, 13, 13, 13, 13, 6, 13, 13, 13, 10, 10, 10, 10] : List Nat).getD j 0 ∧ ln0 (a + j) = ([0, 0, 16, 8, 8, 150, 16, 16, 0, 204, 204, 3, 3, 4, 1836, 1836, 1836, 0, 5, 5, 5, 5, 152, 152, 152, 152, 152, 5, 152, 152, 152, 152, 152, 0, 8, 8, 4, 5, 0, 100, 60, 60, 60, 60, 60, 60, 60, 60, 60, 60, 60, 60, 60, 60, 60, 60, 60, 60, 60, 60, 60, 60, 60, 60, 60, 60, 60, 60, 60, 60, 60, 60, 60, 60, 60, 60, 60, 60, 60, 60, 60, 60, 60, 60, 60, 60, 60, 60, 60, 60, 60, 60, 60, 60, 60, 60, 60, 60, 60, 60, 60, 60, 60, 60, 60, 60, 60, 60, 60, 60, 60, 60, 60, 60, 60, 60, 60, 60, 60, 60, 60, 60, 60, 60, 60, 60, 60, 60, 60, 60, 60, 60, 60, 60, 60, 60, 60, 60, 60, 60, 100, 100, 152, 32, 0, 6, 32, 32, 32, 32, 32, 32, 4, 32, 32, 32, 32, 4, 32, 32, 32, 32, 293, 32, 32, 32, 32, 32, 0, 500, 500, 4, 0, 0, 0, 0] : List Nat).getD j 0) (ha : a + 176 ≤ 900000) {vi : Int32} {p : Nat} {w : Nat} {R : Nat → Nat → Option Nat} {I : Nat → Nat → Int32} {L : Nat → Nat → Int64} (z : Zr (a + 1) R I L) : xCn (xGm b dC dI cA ts) l mX8_init [.ref a, .int vi, .ref p, .ref w] true (a + 1, R, I, L) 175 16186 (fun v M => v = none ∧ M = (a + 176, (rX8 a p w R), (iX8 a vi I), L) ∧ Zr (a + 176) (rX8 a p w R) (iX8 a vi I) L) (fun _ _ => False) := by
  refine xCn.ofJ (by decide) (Nat.le_of_ble_eq_true rfl) ?_
  show xJ _ _ _ _ _ _ _ _ _ 0 [(0, .ref (a)), (1, .int (vi)), (2, .ref (p)), (3, .ref (w))] [] true (a + 1) R I L
  refine xr_aload_n (xd dX8_init 0 rfl) 0 rfl ?_
  refine xr_oinit (xd dX8_init 1 rfl) (xt_1 (j := 163) (by decide +kernel) (by decide +kernel)) wOi ⟨by decide, by decide⟩ ?_
  refine xr_aload_n (xd dX8_init 2 rfl) 0 rfl ?_
  refine xr_new 9 (xd dX8_init 3 rfl) (xt_1 (j := 164) (by decide +kernel) (by decide +kernel)) wN9 (by decide) (hk 1 (by decide)).1 (z _ (Nat.le_refl _)).1 (z _ (Nat.le_refl _)).2.1 (z _ (Nat.le_refl _)).2.2 (by omega) (by decide) (by decide) ?_
  have z := z.mono (Nat.le_succ _)
  show xJ _ _ _ _ _ _ _ _ _ 8 [(0, .ref (a)), (1, .int (vi)), (2, .ref (p)), (3, .ref (w))] [.ref (a + 1), .ref (a)] true (a + 2) R I L
  refine xr_dup (xd dX8_init 4 rfl) rfl ?_
  refine xr_callIN mX9_init 0 [] (st := [.ref (a + 1), .ref (a)]) (b := a + 1) (xd dX8_init 5 rfl) n8_11 kX9_init rfl (by omega) ⟨by decide, by decide⟩ (Nat.le_of_ble_eq_true rfl) (t_X9 (a := a + 1) (hk_sub hk (o := 1) (by decide +kernel)) (by omega) z) (by decide) (by decide) (fun v M h => ?_)
  obtain ⟨rfl, rfl, z⟩ := h
  obtain ⟨R1, eR1⟩ : ∃ z_ : Nat → Nat → Option Nat, z_ = rX9 (a + 1) R := ⟨_, rfl⟩
  rw [← eR1] at z ⊢
  show xJ _ _ _ _ _ _ _ _ _ 12 [(0, .ref (a)), (1, .int (vi)), (2, .ref (p)), (3, .ref (w))] [.ref (a + 1), .ref (a)] true (a + 8) R1 I L
  obtain ⟨R2, eR2⟩ : ∃ z_ : Nat → Nat → Option Nat, z_ = xu R1 (a) 1 (some (a + 1)) := ⟨_, rfl⟩
  refine xr_putR2 8 1 eR2 (xd dX8_init 6 rfl) f8_12 (by decide) (by decide) (by omega) (hk 0 (by decide)).1 (by decide) (fun _ => rfl) (fun _ => rfl) (fun _ => rfl) ?_
  have z := z.re eR2 (by omega)
  refine xr_aload_n (xd dX8_init 7 rfl) 0 rfl ?_
  refine xr_new 2 (xd dX8_init 8 rfl) (xt_1 (j := 235) (by decide +kernel) (by decide +kernel)) wN2 (by decide) (hk 8 (by decide)).1 (z _ (Nat.le_refl _)).1 (z _ (Nat.le_refl _)).2.1 (z _ (Nat.le_refl _)).2.2 (by omega) (by decide) (by decide) ?_
  have z := z.mono (Nat.le_succ _)
  show xJ _ _ _ _ _ _ _ _ _ 19 [(0, .ref (a)), (1, .int (vi)), (2, .ref (p)), (3, .ref (w))] [.ref (a + 8), .ref (a)] true (a + 9) R2 I L
  refine xr_dup (xd dX8_init 9 rfl) rfl ?_
  refine xr_callIN mX2_init 0 [] (st := [.ref (a + 8), .ref (a)]) (b := a + 8) (xd dX8_init 10 rfl) n8_20 kX2_init rfl (by omega) ⟨by decide, by decide⟩ (Nat.le_of_ble_eq_true rfl) (t_X2 (a := a + 8) (hk_sub hk (o := 8) (by decide +kernel)) (by omega) z) (by decide) (by decide) (fun v M h => ?_)
  obtain ⟨rfl, rfl, z⟩ := h
  obtain ⟨R3, eR3⟩ : ∃ z_ : Nat → Nat → Option Nat, z_ = rX2 (a + 8) R2 := ⟨_, rfl⟩
  rw [← eR3] at z ⊢
  show xJ _ _ _ _ _ _ _ _ _ 23 [(0, .ref (a)), (1, .int (vi)), (2, .ref (p)), (3, .ref (w))] [.ref (a + 8), .ref (a)] true (a + 17) R3 I L
  obtain ⟨R4, eR4⟩ : ∃ z_ : Nat → Nat → Option Nat, z_ = xu R3 (a) 4 (some (a + 8)) := ⟨_, rfl⟩
  refine xr_putR2 8 4 eR4 (xd dX8_init 11 rfl) f8_21 (by decide) (by decide) (by omega) (hk 0 (by decide)).1 (by decide) (fun _ => rfl) (fun _ => rfl) (fun _ => rfl) ?_
  have z := z.re eR4 (by omega)
  refine xr_aload_n (xd dX8_init 12 rfl) 0 rfl ?_
  refine xr_new 3 (xd dX8_init 13 rfl) (xt_2 (j := 53) (by decide +kernel) (by decide +kernel)) wN3 (by decide) (hk 17 (by decide)).1 (z _ (Nat.le_refl _)).1 (z _ (Nat.le_refl _)).2.1 (z _ (Nat.le_refl _)).2.2 (by omega) (by decide) (by decide) ?_
  have z := z.mono (Nat.le_succ _)
  show xJ _ _ _ _ _ _ _ _ _ 30 [(0, .ref (a)), (1, .int (vi)), (2, .ref (p)), (3, .ref (w))] [.ref (a + 17), .ref (a)] true (a + 18) R4 I L
  refine xr_dup (xd dX8_init 14 rfl) rfl ?_
  refine xr_callIN mX3_init 0 [] (st := [.ref (a + 17), .ref (a)]) (b := a + 17) (xd dX8_init 15 rfl) n8_27 kX3_init rfl (by omega) ⟨by decide, by decide⟩ (Nat.le_of_ble_eq_true rfl) (t_X3 (a := a + 17) (hk_sub hk (o := 17) (by decide +kernel)) (by omega) z) (by decide) (by decide) (fun v M h => ?_)
  obtain ⟨rfl, rfl, z⟩ := h
  obtain ⟨R5, eR5⟩ : ∃ z_ : Nat → Nat → Option Nat, z_ = rX3 (a + 17) R4 := ⟨_, rfl⟩
  rw [← eR5] at z ⊢
  show xJ _ _ _ _ _ _ _ _ _ 34 [(0, .ref (a)), (1, .int (vi)), (2, .ref (p)), (3, .ref (w))] [.ref (a + 17), .ref (a)] true (a + 33) R5 I L
  obtain ⟨R6, eR6⟩ : ∃ z_ : Nat → Nat → Option Nat, z_ = xu R5 (a) 5 (some (a + 17)) := ⟨_, rfl⟩
  refine xr_putR2 8 5 eR6 (xd dX8_init 16 rfl) f8_28 (by decide) (by decide) (by omega) (hk 0 (by decide)).1 (by decide) (fun _ => rfl) (fun _ => rfl) (fun _ => rfl) ?_
  have z := z.re eR6 (by omega)
  refine xr_aload_n (xd dX8_init 17 rfl) 0 rfl ?_
  refine xr_new 0 (xd dX8_init 18 rfl) (xt_2 (j := 79) (by decide +kernel) (by decide +kernel)) wN0 (by decide) (hk 33 (by decide)).1 (z _ (Nat.le_refl _)).1 (z _ (Nat.le_refl _)).2.1 (z _ (Nat.le_refl _)).2.2 (by omega) (by decide) (by decide) ?_
  have z := z.mono (Nat.le_succ _)
  show xJ _ _ _ _ _ _ _ _ _ 41 [(0, .ref (a)), (1, .int (vi)), (2, .ref (p)), (3, .ref (w))] [.ref (a + 33), .ref (a)] true (a + 34) R6 I L
  refine xr_dup (xd dX8_init 19 rfl) rfl ?_
  refine xr_callIN mX0_init 0 [] (st := [.ref (a + 33), .ref (a)]) (b := a + 33) (xd dX8_init 20 rfl) n8_34 kX0_init rfl (by omega) ⟨by decide, by decide⟩ (Nat.le_of_ble_eq_true rfl) (t_X0 (a := a + 33) (hk_sub hk (o := 33) (by decide +kernel)) (by omega) z) (by decide) (by decide) (fun v M h => ?_)
  obtain ⟨rfl, rfl, z⟩ := h
  obtain ⟨R7, eR7⟩ : ∃ z_ : Nat → Nat → Option Nat, z_ = rX0 (a + 33) R6 := ⟨_, rfl⟩
  rw [← eR7] at z ⊢
  show xJ _ _ _ _ _ _ _ _ _ 45 [(0, .ref (a)), (1, .int (vi)), (2, .ref (p)), (3, .ref (w))] [.ref (a + 33), .ref (a)] true (a + 36) R7 I L
  obtain ⟨R8, eR8⟩ : ∃ z_ : Nat → Nat → Option Nat, z_ = xu R7 (a) 6 (some (a + 33)) := ⟨_, rfl⟩
  refine xr_putR2 8 6 eR8 (xd dX8_init 21 rfl) f8_35 (by decide) (by decide) (by omega) (hk 0 (by decide)).1 (by decide) (fun _ => rfl) (fun _ => rfl) (fun _ => rfl) ?_
  have z := z.re eR8 (by omega)
  refine xr_aload_n (xd dX8_init 22 rfl) 0 rfl ?_
  refine xr_iconst (v := nI 4) (xd dX8_init 23 rfl) (by decide) ?_
  refine xr_anew 6 "LossyPair$Window" (N := 4) (by decide) (by decide) rfl (by simp [xao]) (xd dX8_init 24 rfl) (xt_2 (j := 100) (by decide +kernel) (by decide +kernel)) (nI_pos (by decide)) (nI_clamp (by decide)) (hk 36 (by decide)).1 (hk 36 (by decide)).2 (z _ (Nat.le_refl _)).1 (by decide) (by omega) (by decide) (by decide) ?_
  have z := z.mono (Nat.le_succ _)
  show xJ _ _ _ _ _ _ _ _ _ 53 [(0, .ref (a)), (1, .int (vi)), (2, .ref (p)), (3, .ref (w))] [.ref (a + 36), .ref (a)] true (a + 37) R8 I L
  obtain ⟨R9, eR9⟩ : ∃ z_ : Nat → Nat → Option Nat, z_ = xu R8 (a) 7 (some (a + 36)) := ⟨_, rfl⟩
  refine xr_putR2 8 7 eR9 (xd dX8_init 25 rfl) f8_41 (by decide) (by decide) (by omega) (hk 0 (by decide)).1 (by decide) (fun _ => rfl) (fun _ => rfl) (fun _ => rfl) ?_
  have z := z.re eR9 (by omega)
  refine xr_aload_n (xd dX8_init 26 rfl) 0 rfl ?_
  refine xr_iconst (v := nI 5) (xd dX8_init 27 rfl) (by decide) ?_
  refine xr_newI (N := 5) (xd dX8_init 28 rfl) wIa (nI_pos (by decide)) (nI_clamp (by decide)) (hk 37 (by decide)).1 (hk 37 (by decide)).2 (z _ (Nat.le_refl _)).2.1 (by decide) (by omega) (by decide) (by decide) ?_
  have z := z.mono (Nat.le_succ _)
  show xJ _ _ _ _ _ _ _ _ _ 60 [(0, .ref (a)), (1, .int (vi)), (2, .ref (p)), (3, .ref (w))] [.ref (a + 37), .ref (a)] true (a + 38) R9 I L
  obtain ⟨R10, eR10⟩ : ∃ z_ : Nat → Nat → Option Nat, z_ = xu R9 (a) 8 (some (a + 37)) := ⟨_, rfl⟩
  refine xr_putR2 8 8 eR10 (xd dX8_init 29 rfl) f8_45 (by decide) (by decide) (by omega) (hk 0 (by decide)).1 (by decide) (fun _ => rfl) (fun _ => rfl) (fun _ => rfl) ?_
  have z := z.re eR10 (by omega)
  refine xr_aload_n (xd dX8_init 30 rfl) 0 rfl ?_
  refine xr_new 4 (xd dX8_init 31 rfl) (xt_2 (j := 102) (by decide +kernel) (by decide +kernel)) wN4 (by decide) (hk 38 (by decide)).1 (z _ (Nat.le_refl _)).1 (z _ (Nat.le_refl _)).2.1 (z _ (Nat.le_refl _)).2.2 (by omega) (by decide) (by decide) ?_
  have z := z.mono (Nat.le_succ _)
  show xJ _ _ _ _ _ _ _ _ _ 67 [(0, .ref (a)), (1, .int (vi)), (2, .ref (p)), (3, .ref (w))] [.ref (a + 38), .ref (a)] true (a + 39) R10 I L
  refine xr_dup (xd dX8_init 32 rfl) rfl ?_
  refine xr_bipush (v := nI 100) (xd dX8_init 33 rfl) (by decide) ?_
  refine xr_bipush (v := nI 60) (xd dX8_init 34 rfl) (by decide) ?_
  refine xr_callI mX4_init 2 [.int (nI 100), .int (nI 60)] (st := [.ref (a + 38), .ref (a)]) (b := a + 38) (xd dX8_init 35 rfl) l8_51 kX4_init rfl (by omega) ⟨by decide, by decide⟩ (Nat.le_of_ble_eq_true rfl) (t_X4 (a := a + 38) (N := 100) (K := 60) (by decide) (by decide) (hk 38 (by decide)).1 (hk 39 (by decide)).1 (hk 39 (by decide)).2 (hrow_of hk (o := 39) (by decide +kernel)) (hk 140 (by decide)).1 (hk 140 (by decide)).2 (hk 141 (by decide)).1 (hk 141 (by decide)).2 (by omega) z) (by decide) (by decide) (fun v M h => ?_)
  obtain ⟨rfl, rfl, z⟩ := h
  obtain ⟨R11, eR11⟩ : ∃ z_ : Nat → Nat → Option Nat, z_ = rX4 (a + 38) 100 R10 := ⟨_, rfl⟩
  rw [← eR11] at z ⊢
  obtain ⟨I1, eI1⟩ : ∃ z_ : Nat → Nat → Int32, z_ = iX4 (a + 38) 100 60 I := ⟨_, rfl⟩
  rw [← eI1] at z ⊢
  show xJ _ _ _ _ _ _ _ _ _ 75 [(0, .ref (a)), (1, .int (vi)), (2, .ref (p)), (3, .ref (w))] [.ref (a + 38), .ref (a)] true (a + 142) R11 I1 L
  obtain ⟨R12, eR12⟩ : ∃ z_ : Nat → Nat → Option Nat, z_ = xu R11 (a) 9 (some (a + 38)) := ⟨_, rfl⟩
  refine xr_putR2 8 9 eR12 (xd dX8_init 36 rfl) f8_54 (by decide) (by decide) (by omega) (hk 0 (by decide)).1 (by decide) (fun _ => rfl) (fun _ => rfl) (fun _ => rfl) ?_
  have z := z.re eR12 (by omega)
  refine xr_aload_n (xd dX8_init 37 rfl) 0 rfl ?_
  refine xr_sipush (v := nI 152) (xd dX8_init 38 rfl) (by decide) ?_
  refine xr_newI (N := 152) (xd dX8_init 39 rfl) wIa (nI_pos (by decide)) (nI_clamp (by decide)) (hk 142 (by decide)).1 (hk 142 (by decide)).2 (z _ (Nat.le_refl _)).2.1 (by decide) (by omega) (by decide) (by decide) ?_
  have z := z.mono (Nat.le_succ _)
  show xJ _ _ _ _ _ _ _ _ _ 84 [(0, .ref (a)), (1, .int (vi)), (2, .ref (p)), (3, .ref (w))] [.ref (a + 142), .ref (a)] true (a + 143) R12 I1 L
  obtain ⟨R13, eR13⟩ : ∃ z_ : Nat → Nat → Option Nat, z_ = xu R12 (a) 10 (some (a + 142)) := ⟨_, rfl⟩
  refine xr_putR2 8 10 eR13 (xd dX8_init 40 rfl) f8_58 (by decide) (by decide) (by omega) (hk 0 (by decide)).1 (by decide) (fun _ => rfl) (fun _ => rfl) (fun _ => rfl) ?_
  have z := z.re eR13 (by omega)
  refine xr_aload_n (xd dX8_init 41 rfl) 0 rfl ?_
  refine xr_bipush (v := nI 32) (xd dX8_init 42 rfl) (by decide) ?_
  refine xr_newI (N := 32) (xd dX8_init 43 rfl) wIa (nI_pos (by decide)) (nI_clamp (by decide)) (hk 143 (by decide)).1 (hk 143 (by decide)).2 (z _ (Nat.le_refl _)).2.1 (by decide) (by omega) (by decide) (by decide) ?_
  have z := z.mono (Nat.le_succ _)
  show xJ _ _ _ _ _ _ _ _ _ 92 [(0, .ref (a)), (1, .int (vi)), (2, .ref (p)), (3, .ref (w))] [.ref (a + 143), .ref (a)] true (a + 144) R13 I1 L
  obtain ⟨R14, eR14⟩ : ∃ z_ : Nat → Nat → Option Nat, z_ = xu R13 (a) 11 (some (a + 143)) := ⟨_, rfl⟩
  refine xr_putR2 8 11 eR14 (xd dX8_init 44 rfl) f8_61 (by decide) (by decide) (by omega) (hk 0 (by decide)).1 (by decide) (fun _ => rfl) (fun _ => rfl) (fun _ => rfl) ?_
  have z := z.re eR14 (by omega)
  refine xr_aload_n (xd dX8_init 45 rfl) 0 rfl ?_
  refine xr_iload_n (xd dX8_init 46 rfl) 1 rfl ?_
  obtain ⟨I2, eI2⟩ : ∃ z_ : Nat → Nat → Int32, z_ = xu I1 (a) 0 (vi) := ⟨_, rfl⟩
  refine xr_putI2 8 0 (I' := I2) eI2 (xd dX8_init 47 rfl) f8_64 (by decide) (by decide) (by omega) (hk 0 (by decide)).1 (by decide) rfl rfl (fun _ => rfl) ?_
  have z := z.ie eI2 (by omega)
  refine xr_aload_n (xd dX8_init 48 rfl) 0 rfl ?_
  refine xr_new 5 (xd dX8_init 49 rfl) (xt_2 (j := 104) (by decide +kernel) (by decide +kernel)) wN5 (by decide) (hk 144 (by decide)).1 (z _ (Nat.le_refl _)).1 (z _ (Nat.le_refl _)).2.1 (z _ (Nat.le_refl _)).2.2 (by omega) (by decide) (by decide) ?_
  have z := z.mono (Nat.le_succ _)
  show xJ _ _ _ _ _ _ _ _ _ 104 [(0, .ref (a)), (1, .int (vi)), (2, .ref (p)), (3, .ref (w))] [.ref (a + 144), .ref (a)] true (a + 145) R14 I2 L
  refine xr_dup (xd dX8_init 50 rfl) rfl ?_
  refine xr_aload_n (xd dX8_init 51 rfl) 2 rfl ?_
  refine xr_callI mX5_init 1 [.ref (p)] (st := [.ref (a + 144), .ref (a)]) (b := a + 144) (xd dX8_init 52 rfl) l8_70 kX5_init rfl (by omega) ⟨by decide, by decide⟩ (Nat.le_of_ble_eq_true rfl) (t_X5 (a := a + 144) (hk_sub hk (o := 144) (by decide +kernel)) (by omega) z) (by decide) (by decide) (fun v M h => ?_)
  obtain ⟨rfl, rfl, z⟩ := h
  obtain ⟨R15, eR15⟩ : ∃ z_ : Nat → Nat → Option Nat, z_ = rX5 (a + 144) (p) R14 := ⟨_, rfl⟩
  rw [← eR15] at z ⊢
  show xJ _ _ _ _ _ _ _ _ _ 109 [(0, .ref (a)), (1, .int (vi)), (2, .ref (p)), (3, .ref (w))] [.ref (a + 144), .ref (a)] true (a + 168) R15 I2 L
  obtain ⟨R16, eR16⟩ : ∃ z_ : Nat → Nat → Option Nat, z_ = xu R15 (a) 2 (some (a + 144)) := ⟨_, rfl⟩
  refine xr_putR2 8 2 eR16 (xd dX8_init 53 rfl) f8_73 (by decide) (by decide) (by omega) (hk 0 (by decide)).1 (by decide) (fun _ => rfl) (fun _ => rfl) (fun _ => rfl) ?_
  have z := z.re eR16 (by omega)
  refine xr_aload_n (xd dX8_init 54 rfl) 0 rfl ?_
  refine xr_new 6 (xd dX8_init 55 rfl) (xt_2 (j := 152) (by decide +kernel) (by decide +kernel)) wN6 (by decide) (hk 168 (by decide)).1 (z _ (Nat.le_refl _)).1 (z _ (Nat.le_refl _)).2.1 (z _ (Nat.le_refl _)).2.2 (by omega) (by decide) (by decide) ?_
  have z := z.mono (Nat.le_succ _)
  show xJ _ _ _ _ _ _ _ _ _ 116 [(0, .ref (a)), (1, .int (vi)), (2, .ref (p)), (3, .ref (w))] [.ref (a + 168), .ref (a)] true (a + 169) R16 I2 L
  refine xr_dup (xd dX8_init 56 rfl) rfl ?_
  refine xr_iload_n (xd dX8_init 57 rfl) 1 rfl ?_
  refine xr_aload_n (xd dX8_init 58 rfl) 3 rfl ?_
  refine xr_aload_n (xd dX8_init 59 rfl) 0 rfl ?_
  refine xr_getR (b := a + 144) 8 2 (xd dX8_init 60 rfl) f8_73 (by decide) (by decide) (by omega) (hk 0 (by decide)).1 rfl (by rw [eR16, xu_s]) ?_
  refine xr_callI mX6_init 3 [.int (vi), .ref (w), .ref (a + 144)] (st := [.ref (a + 168), .ref (a)]) (b := a + 168) (xd dX8_init 61 rfl) l8_79 kX6_init rfl (by omega) ⟨by decide, by decide⟩ (Nat.le_of_ble_eq_true rfl) (t_X6 (a := a + 168) (hk_sub hk (o := 168) (by decide +kernel)) (by omega) z) (by decide) (by decide) (fun v M h => ?_)
  obtain ⟨rfl, rfl, z⟩ := h
  obtain ⟨R17, eR17⟩ : ∃ z_ : Nat → Nat → Option Nat, z_ = rX6 (a + 168) (w) (a + 144) R16 := ⟨_, rfl⟩
  rw [← eR17] at z ⊢
  obtain ⟨I3, eI3⟩ : ∃ z_ : Nat → Nat → Int32, z_ = iX6 (a + 168) (vi) I2 := ⟨_, rfl⟩
  rw [← eI3] at z ⊢
  show xJ _ _ _ _ _ _ _ _ _ 126 [(0, .ref (a)), (1, .int (vi)), (2, .ref (p)), (3, .ref (w))] [.ref (a + 168), .ref (a)] true (a + 172) R17 I3 L
  obtain ⟨R18, eR18⟩ : ∃ z_ : Nat → Nat → Option Nat, z_ = xu R17 (a) 3 (some (a + 168)) := ⟨_, rfl⟩
  refine xr_putR2 8 3 eR18 (xd dX8_init 62 rfl) f8_82 (by decide) (by decide) (by omega) (hk 0 (by decide)).1 (by decide) (fun _ => rfl) (fun _ => rfl) (fun _ => rfl) ?_
  have z := z.re eR18 (by omega)
  refine xr_iconst (v := nI 0) (xd dX8_init 63 rfl) (by decide) ?_
  refine xr_istore (i := 4) [(0, .ref (a)), (1, .int (vi)), (2, .ref (p)), (3, .ref (w)), (4, .int (nI 0))] (xd dX8_init 64 rfl) (by decide) rfl ?_
  refine xr_iload (xd dX8_init 65 rfl) 4 rfl ?_
  refine xr_aload_n (xd dX8_init 66 rfl) 0 rfl ?_
  refine xr_getR (b := a + 36) 8 7 (xd dX8_init 67 rfl) f8_41 (by decide) (by decide) (by omega) (hk 0 (by decide)).1 rfl (by rw [eR18, xu_n _ _ (Or.inr (by decide)), eR17, rX6_lt (by omega), eR16, xu_n _ _ (Or.inr (by decide)), eR15, rX5_lt (by omega), eR14, xu_n _ _ (Or.inr (by decide)), eR13, xu_n _ _ (Or.inr (by decide)), eR12, xu_n _ _ (Or.inr (by decide)), eR11, rX4_lt (by omega), eR10, xu_n _ _ (Or.inr (by decide)), eR9, xu_s]) ?_
  refine xr_alen (v := nI 4) 6 (xd dX8_init 68 rfl) (by omega) (by decide) (hk 36 (by decide)).1 (congrArg nI (hk 36 (by decide)).2) ?_
  refine xr_icmpN_ge 162 (xd dX8_init 69 rfl) (by decide) (by decide) (by decide) (fun c => absurd c (by decide)) (fun _ => ?_)
  show xJ _ _ _ _ _ _ _ _ _ 142 [(0, .ref (a)), (1, .int (vi)), (2, .ref (p)), (3, .ref (w)), (4, .int (nI 0))] [] true (a + 172) R18 I3 L
  refine xr_aload_n (xd dX8_init 70 rfl) 0 rfl ?_
  refine xr_getR (b := a + 36) 8 7 (xd dX8_init 71 rfl) f8_41 (by decide) (by decide) (by omega) (hk 0 (by decide)).1 rfl (by rw [eR18, xu_n _ _ (Or.inr (by decide)), eR17, rX6_lt (by omega), eR16, xu_n _ _ (Or.inr (by decide)), eR15, rX5_lt (by omega), eR14, xu_n _ _ (Or.inr (by decide)), eR13, xu_n _ _ (Or.inr (by decide)), eR12, xu_n _ _ (Or.inr (by decide)), eR11, rX4_lt (by omega), eR10, xu_n _ _ (Or.inr (by decide)), eR9, xu_s]) ?_
  refine xr_iload (xd dX8_init 72 rfl) 4 rfl ?_
  refine xr_new 10 (xd dX8_init 73 rfl) (xt_2 (j := 100) (by decide +kernel) (by decide +kernel)) wN10 (by decide) (hk 172 (by decide)).1 (z _ (Nat.le_refl _)).1 (z _ (Nat.le_refl _)).2.1 (z _ (Nat.le_refl _)).2.2 (by omega) (by decide) (by decide) ?_
  have z := z.mono (Nat.le_succ _)
  show xJ _ _ _ _ _ _ _ _ _ 151 [(0, .ref (a)), (1, .int (vi)), (2, .ref (p)), (3, .ref (w)), (4, .int (nI 0))] [.ref (a + 172), .int (nI 0), .ref (a + 36)] true (a + 173) R18 I3 L
  refine xr_dup (xd dX8_init 74 rfl) rfl ?_
  refine xr_callIN mX10_init 0 [] (st := [.ref (a + 172), .int (nI 0), .ref (a + 36)]) (b := a + 172) (xd dX8_init 75 rfl) n8_86 kX10_init rfl (by omega) ⟨by decide, by decide⟩ (Nat.le_of_ble_eq_true rfl) (t_X10 (a := a + 172) (hk_sub hk (o := 172) (by decide +kernel)) (by omega) z) (by decide) (by decide) (fun v M h => ?_)
  obtain ⟨rfl, rfl, z⟩ := h
  show xJ _ _ _ _ _ _ _ _ _ 155 [(0, .ref (a)), (1, .int (vi)), (2, .ref (p)), (3, .ref (w)), (4, .int (nI 0))] [.ref (a + 172), .int (nI 0), .ref (a + 36)] true (a + 173) R18 I3 L
  obtain ⟨R19, eR19⟩ : ∃ z_ : Nat → Nat → Option Nat, z_ = xu R18 (a + 36) 0 (some (a + 172)) := ⟨_, rfl⟩
  refine xr_aast2 6 10 eR19 (nI_clamp (by decide)) (xd dX8_init 76 rfl) (by decide) (by decide) (by decide) rfl (by omega) (hk 36 (by decide)).1 (by omega) (hk 172 (by decide)).1 (by rw [show xln (xGm b dC dI cA ts) (a + 36) = 4 from (hk 36 (by decide)).2]; exact nI_in (by decide) (by decide)) ?_
  have z := z.re eR19 (by omega)
  refine xr_iinc (v := nI 1) [(0, .ref (a)), (1, .int (vi)), (2, .ref (p)), (3, .ref (w)), (4, .int (nI 1))] (xd dX8_init 77 rfl) 4 rfl (by decide) (by decide) rfl ?_
  refine xr_goto 132 (xd dX8_init 78 rfl) (by decide) ?_
  refine xr_iload (xd dX8_init 65 rfl) 4 rfl ?_
  refine xr_aload_n (xd dX8_init 66 rfl) 0 rfl ?_
  refine xr_getR (b := a + 36) 8 7 (xd dX8_init 67 rfl) f8_41 (by decide) (by decide) (by omega) (hk 0 (by decide)).1 rfl (by rw [eR19, xu_n _ _ (Or.inl (by omega)), eR18, xu_n _ _ (Or.inr (by decide)), eR17, rX6_lt (by omega), eR16, xu_n _ _ (Or.inr (by decide)), eR15, rX5_lt (by omega), eR14, xu_n _ _ (Or.inr (by decide)), eR13, xu_n _ _ (Or.inr (by decide)), eR12, xu_n _ _ (Or.inr (by decide)), eR11, rX4_lt (by omega), eR10, xu_n _ _ (Or.inr (by decide)), eR9, xu_s]) ?_
  refine xr_alen (v := nI 4) 6 (xd dX8_init 68 rfl) (by omega) (by decide) (hk 36 (by decide)).1 (congrArg nI (hk 36 (by decide)).2) ?_
  refine xr_icmpN_ge 162 (xd dX8_init 69 rfl) (by decide) (by decide) (by decide) (fun c => absurd c (by decide)) (fun _ => ?_)
  show xJ _ _ _ _ _ _ _ _ _ 142 [(0, .ref (a)), (1, .int (vi)), (2, .ref (p)), (3, .ref (w)), (4, .int (nI 1))] [] true (a + 173) R19 I3 L
  refine xr_aload_n (xd dX8_init 70 rfl) 0 rfl ?_
  refine xr_getR (b := a + 36) 8 7 (xd dX8_init 71 rfl) f8_41 (by decide) (by decide) (by omega) (hk 0 (by decide)).1 rfl (by rw [eR19, xu_n _ _ (Or.inl (by omega)), eR18, xu_n _ _ (Or.inr (by decide)), eR17, rX6_lt (by omega), eR16, xu_n _ _ (Or.inr (by decide)), eR15, rX5_lt (by omega), eR14, xu_n _ _ (Or.inr (by decide)), eR13, xu_n _ _ (Or.inr (by decide)), eR12, xu_n _ _ (Or.inr (by decide)), eR11, rX4_lt (by omega), eR10, xu_n _ _ (Or.inr (by decide)), eR9, xu_s]) ?_
  refine xr_iload (xd dX8_init 72 rfl) 4 rfl ?_
  refine xr_new 10 (xd dX8_init 73 rfl) (xt_2 (j := 100) (by decide +kernel) (by decide +kernel)) wN10 (by decide) (hk 173 (by decide)).1 (z _ (Nat.le_refl _)).1 (z _ (Nat.le_refl _)).2.1 (z _ (Nat.le_refl _)).2.2 (by omega) (by decide) (by decide) ?_
  have z := z.mono (Nat.le_succ _)
  show xJ _ _ _ _ _ _ _ _ _ 151 [(0, .ref (a)), (1, .int (vi)), (2, .ref (p)), (3, .ref (w)), (4, .int (nI 1))] [.ref (a + 173), .int (nI 1), .ref (a + 36)] true (a + 174) R19 I3 L
  refine xr_dup (xd dX8_init 74 rfl) rfl ?_
  refine xr_callIN mX10_init 0 [] (st := [.ref (a + 173), .int (nI 1), .ref (a + 36)]) (b := a + 173) (xd dX8_init 75 rfl) n8_86 kX10_init rfl (by omega) ⟨by decide, by decide⟩ (Nat.le_of_ble_eq_true rfl) (t_X10 (a := a + 173) (hk_sub hk (o := 173) (by decide +kernel)) (by omega) z) (by decide) (by decide) (fun v M h => ?_)
  obtain ⟨rfl, rfl, z⟩ := h
  show xJ _ _ _ _ _ _ _ _ _ 155 [(0, .ref (a)), (1, .int (vi)), (2, .ref (p)), (3, .ref (w)), (4, .int (nI 1))] [.ref (a + 173), .int (nI 1), .ref (a + 36)] true (a + 174) R19 I3 L
  obtain ⟨R20, eR20⟩ : ∃ z_ : Nat → Nat → Option Nat, z_ = xu R19 (a + 36) 1 (some (a + 173)) := ⟨_, rfl⟩
  refine xr_aast2 6 10 eR20 (nI_clamp (by decide)) (xd dX8_init 76 rfl) (by decide) (by decide) (by decide) rfl (by omega) (hk 36 (by decide)).1 (by omega) (hk 173 (by decide)).1 (by rw [show xln (xGm b dC dI cA ts) (a + 36) = 4 from (hk 36 (by decide)).2]; exact nI_in (by decide) (by decide)) ?_
  have z := z.re eR20 (by omega)
  refine xr_iinc (v := nI 2) [(0, .ref (a)), (1, .int (vi)), (2, .ref (p)), (3, .ref (w)), (4, .int (nI 2))] (xd dX8_init 77 rfl) 4 rfl (by decide) (by decide) rfl ?_
  refine xr_goto 132 (xd dX8_init 78 rfl) (by decide) ?_
  refine xr_iload (xd dX8_init 65 rfl) 4 rfl ?_
  refine xr_aload_n (xd dX8_init 66 rfl) 0 rfl ?_
  refine xr_getR (b := a + 36) 8 7 (xd dX8_init 67 rfl) f8_41 (by decide) (by decide) (by omega) (hk 0 (by decide)).1 rfl (by rw [eR20, xu_n _ _ (Or.inl (by omega)), eR19, xu_n _ _ (Or.inl (by omega)), eR18, xu_n _ _ (Or.inr (by decide)), eR17, rX6_lt (by omega), eR16, xu_n _ _ (Or.inr (by decide)), eR15, rX5_lt (by omega), eR14, xu_n _ _ (Or.inr (by decide)), eR13, xu_n _ _ (Or.inr (by decide)), eR12, xu_n _ _ (Or.inr (by decide)), eR11, rX4_lt (by omega), eR10, xu_n _ _ (Or.inr (by decide)), eR9, xu_s]) ?_
  refine xr_alen (v := nI 4) 6 (xd dX8_init 68 rfl) (by omega) (by decide) (hk 36 (by decide)).1 (congrArg nI (hk 36 (by decide)).2) ?_
  refine xr_icmpN_ge 162 (xd dX8_init 69 rfl) (by decide) (by decide) (by decide) (fun c => absurd c (by decide)) (fun _ => ?_)
  show xJ _ _ _ _ _ _ _ _ _ 142 [(0, .ref (a)), (1, .int (vi)), (2, .ref (p)), (3, .ref (w)), (4, .int (nI 2))] [] true (a + 174) R20 I3 L
  refine xr_aload_n (xd dX8_init 70 rfl) 0 rfl ?_
  refine xr_getR (b := a + 36) 8 7 (xd dX8_init 71 rfl) f8_41 (by decide) (by decide) (by omega) (hk 0 (by decide)).1 rfl (by rw [eR20, xu_n _ _ (Or.inl (by omega)), eR19, xu_n _ _ (Or.inl (by omega)), eR18, xu_n _ _ (Or.inr (by decide)), eR17, rX6_lt (by omega), eR16, xu_n _ _ (Or.inr (by decide)), eR15, rX5_lt (by omega), eR14, xu_n _ _ (Or.inr (by decide)), eR13, xu_n _ _ (Or.inr (by decide)), eR12, xu_n _ _ (Or.inr (by decide)), eR11, rX4_lt (by omega), eR10, xu_n _ _ (Or.inr (by decide)), eR9, xu_s]) ?_
  refine xr_iload (xd dX8_init 72 rfl) 4 rfl ?_
  refine xr_new 10 (xd dX8_init 73 rfl) (xt_2 (j := 100) (by decide +kernel) (by decide +kernel)) wN10 (by decide) (hk 174 (by decide)).1 (z _ (Nat.le_refl _)).1 (z _ (Nat.le_refl _)).2.1 (z _ (Nat.le_refl _)).2.2 (by omega) (by decide) (by decide) ?_
  have z := z.mono (Nat.le_succ _)
  show xJ _ _ _ _ _ _ _ _ _ 151 [(0, .ref (a)), (1, .int (vi)), (2, .ref (p)), (3, .ref (w)), (4, .int (nI 2))] [.ref (a + 174), .int (nI 2), .ref (a + 36)] true (a + 175) R20 I3 L
  refine xr_dup (xd dX8_init 74 rfl) rfl ?_
  refine xr_callIN mX10_init 0 [] (st := [.ref (a + 174), .int (nI 2), .ref (a + 36)]) (b := a + 174) (xd dX8_init 75 rfl) n8_86 kX10_init rfl (by omega) ⟨by decide, by decide⟩ (Nat.le_of_ble_eq_true rfl) (t_X10 (a := a + 174) (hk_sub hk (o := 174) (by decide +kernel)) (by omega) z) (by decide) (by decide) (fun v M h => ?_)
  obtain ⟨rfl, rfl, z⟩ := h
  show xJ _ _ _ _ _ _ _ _ _ 155 [(0, .ref (a)), (1, .int (vi)), (2, .ref (p)), (3, .ref (w)), (4, .int (nI 2))] [.ref (a + 174), .int (nI 2), .ref (a + 36)] true (a + 175) R20 I3 L
  obtain ⟨R21, eR21⟩ : ∃ z_ : Nat → Nat → Option Nat, z_ = xu R20 (a + 36) 2 (some (a + 174)) := ⟨_, rfl⟩
  refine xr_aast2 6 10 eR21 (nI_clamp (by decide)) (xd dX8_init 76 rfl) (by decide) (by decide) (by decide) rfl (by omega) (hk 36 (by decide)).1 (by omega) (hk 174 (by decide)).1 (by rw [show xln (xGm b dC dI cA ts) (a + 36) = 4 from (hk 36 (by decide)).2]; exact nI_in (by decide) (by decide)) ?_
  have z := z.re eR21 (by omega)
  refine xr_iinc (v := nI 3) [(0, .ref (a)), (1, .int (vi)), (2, .ref (p)), (3, .ref (w)), (4, .int (nI 3))] (xd dX8_init 77 rfl) 4 rfl (by decide) (by decide) rfl ?_
  refine xr_goto 132 (xd dX8_init 78 rfl) (by decide) ?_
  refine xr_iload (xd dX8_init 65 rfl) 4 rfl ?_
  refine xr_aload_n (xd dX8_init 66 rfl) 0 rfl ?_
  refine xr_getR (b := a + 36) 8 7 (xd dX8_init 67 rfl) f8_41 (by decide) (by decide) (by omega) (hk 0 (by decide)).1 rfl (by rw [eR21, xu_n _ _ (Or.inl (by omega)), eR20, xu_n _ _ (Or.inl (by omega)), eR19, xu_n _ _ (Or.inl (by omega)), eR18, xu_n _ _ (Or.inr (by decide)), eR17, rX6_lt (by omega), eR16, xu_n _ _ (Or.inr (by decide)), eR15, rX5_lt (by omega), eR14, xu_n _ _ (Or.inr (by decide)), eR13, xu_n _ _ (Or.inr (by decide)), eR12, xu_n _ _ (Or.inr (by decide)), eR11, rX4_lt (by omega), eR10, xu_n _ _ (Or.inr (by decide)), eR9, xu_s]) ?_
  refine xr_alen (v := nI 4) 6 (xd dX8_init 68 rfl) (by omega) (by decide) (hk 36 (by decide)).1 (congrArg nI (hk 36 (by decide)).2) ?_
  refine xr_icmpN_ge 162 (xd dX8_init 69 rfl) (by decide) (by decide) (by decide) (fun c => absurd c (by decide)) (fun _ => ?_)
  show xJ _ _ _ _ _ _ _ _ _ 142 [(0, .ref (a)), (1, .int (vi)), (2, .ref (p)), (3, .ref (w)), (4, .int (nI 3))] [] true (a + 175) R21 I3 L
  refine xr_aload_n (xd dX8_init 70 rfl) 0 rfl ?_
  refine xr_getR (b := a + 36) 8 7 (xd dX8_init 71 rfl) f8_41 (by decide) (by decide) (by omega) (hk 0 (by decide)).1 rfl (by rw [eR21, xu_n _ _ (Or.inl (by omega)), eR20, xu_n _ _ (Or.inl (by omega)), eR19, xu_n _ _ (Or.inl (by omega)), eR18, xu_n _ _ (Or.inr (by decide)), eR17, rX6_lt (by omega), eR16, xu_n _ _ (Or.inr (by decide)), eR15, rX5_lt (by omega), eR14, xu_n _ _ (Or.inr (by decide)), eR13, xu_n _ _ (Or.inr (by decide)), eR12, xu_n _ _ (Or.inr (by decide)), eR11, rX4_lt (by omega), eR10, xu_n _ _ (Or.inr (by decide)), eR9, xu_s]) ?_
  refine xr_iload (xd dX8_init 72 rfl) 4 rfl ?_
  refine xr_new 10 (xd dX8_init 73 rfl) (xt_2 (j := 100) (by decide +kernel) (by decide +kernel)) wN10 (by decide) (hk 175 (by decide)).1 (z _ (Nat.le_refl _)).1 (z _ (Nat.le_refl _)).2.1 (z _ (Nat.le_refl _)).2.2 (by omega) (by decide) (by decide) ?_
  have z := z.mono (Nat.le_succ _)
  show xJ _ _ _ _ _ _ _ _ _ 151 [(0, .ref (a)), (1, .int (vi)), (2, .ref (p)), (3, .ref (w)), (4, .int (nI 3))] [.ref (a + 175), .int (nI 3), .ref (a + 36)] true (a + 176) R21 I3 L
  refine xr_dup (xd dX8_init 74 rfl) rfl ?_
  refine xr_callIN mX10_init 0 [] (st := [.ref (a + 175), .int (nI 3), .ref (a + 36)]) (b := a + 175) (xd dX8_init 75 rfl) n8_86 kX10_init rfl (by omega) ⟨by decide, by decide⟩ (Nat.le_of_ble_eq_true rfl) (t_X10 (a := a + 175) (hk_sub hk (o := 175) (by decide +kernel)) (by omega) z) (by decide) (by decide) (fun v M h => ?_)
  obtain ⟨rfl, rfl, z⟩ := h
  show xJ _ _ _ _ _ _ _ _ _ 155 [(0, .ref (a)), (1, .int (vi)), (2, .ref (p)), (3, .ref (w)), (4, .int (nI 3))] [.ref (a + 175), .int (nI 3), .ref (a + 36)] true (a + 176) R21 I3 L
  obtain ⟨R22, eR22⟩ : ∃ z_ : Nat → Nat → Option Nat, z_ = xu R21 (a + 36) 3 (some (a + 175)) := ⟨_, rfl⟩
  refine xr_aast2 6 10 eR22 (nI_clamp (by decide)) (xd dX8_init 76 rfl) (by decide) (by decide) (by decide) rfl (by omega) (hk 36 (by decide)).1 (by omega) (hk 175 (by decide)).1 (by rw [show xln (xGm b dC dI cA ts) (a + 36) = 4 from (hk 36 (by decide)).2]; exact nI_in (by decide) (by decide)) ?_
  have z := z.re eR22 (by omega)
  refine xr_iinc (v := nI 4) [(0, .ref (a)), (1, .int (vi)), (2, .ref (p)), (3, .ref (w)), (4, .int (nI 4))] (xd dX8_init 77 rfl) 4 rfl (by decide) (by decide) rfl ?_
  refine xr_goto 132 (xd dX8_init 78 rfl) (by decide) ?_
  refine xr_iload (xd dX8_init 65 rfl) 4 rfl ?_
  refine xr_aload_n (xd dX8_init 66 rfl) 0 rfl ?_
  refine xr_getR (b := a + 36) 8 7 (xd dX8_init 67 rfl) f8_41 (by decide) (by decide) (by omega) (hk 0 (by decide)).1 rfl (by rw [eR22, xu_n _ _ (Or.inl (by omega)), eR21, xu_n _ _ (Or.inl (by omega)), eR20, xu_n _ _ (Or.inl (by omega)), eR19, xu_n _ _ (Or.inl (by omega)), eR18, xu_n _ _ (Or.inr (by decide)), eR17, rX6_lt (by omega), eR16, xu_n _ _ (Or.inr (by decide)), eR15, rX5_lt (by omega), eR14, xu_n _ _ (Or.inr (by decide)), eR13, xu_n _ _ (Or.inr (by decide)), eR12, xu_n _ _ (Or.inr (by decide)), eR11, rX4_lt (by omega), eR10, xu_n _ _ (Or.inr (by decide)), eR9, xu_s]) ?_
  refine xr_alen (v := nI 4) 6 (xd dX8_init 68 rfl) (by omega) (by decide) (hk 36 (by decide)).1 (congrArg nI (hk 36 (by decide)).2) ?_
  refine xr_icmpN_ge 162 (xd dX8_init 69 rfl) (by decide) (by decide) (by decide) (fun _ => ?_) (fun c => absurd c (by decide))
  show xJ _ _ _ _ _ _ _ _ _ 162 [(0, .ref (a)), (1, .int (vi)), (2, .ref (p)), (3, .ref (w)), (4, .int (nI 4))] [] true (a + 176) R22 I3 L
  refine xr_vret (xd dX8_init 79 rfl) rfl (by decide) (by decide) (fun _ => rfl) ?_
  subst eR22; subst eR21; subst eR20; subst eR19; subst eR18; subst eI3; subst eR17; subst eR16; subst eR15; subst eI2; subst eR14; subst eR13; subst eR12; subst eI1; subst eR11; subst eR10; subst eR9; subst eR8; subst eR7; subst eR6; subst eR5; subst eR4; subst eR3; subst eR2; subst eR1
  exact ⟨rfl, rfl, z⟩
