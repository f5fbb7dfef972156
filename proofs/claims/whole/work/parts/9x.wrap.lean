theorem PB.mono {bd bd' : Int} {J : zM} {L : yM} (h : PB bd J L) (hb : bd ≤ bd') : PB bd' J L := by
  obtain ⟨G, D, N, hx, hm, hI⟩ := h
  exact ⟨G, D, N, hx, hm, hI.mono hb⟩
theorem PB.o {bd : Int} {J : zM} {L L0 : yM} (h : PB bd J L) (e : ∀ a, a ≠ 552 → L0 a = L a) : PB bd J L0 := by
  obtain ⟨G, D, N, hx, hm, hI⟩ := h
  exact ⟨G, D, N, hx.o e, hm.o hI e, hI⟩
/-- what a wrapper answers: 0 and what the class answered, or the number of what it threw; and what the model will do then -/
def WA (R : Nat → Nat → Option Nat) (bd : Int) (w : zM → yM → (Int → zM → yM → Prop) → Prop) : Option Value → xM → Prop := fun v M => ∃ (k : Nat) (J : zM) (L : yM), k < 4 ∧ v = some (.int (nI k)) ∧ M = (553, R, zi J, li L) ∧ ((k = 0 ∧ ∃ y : Int, L 552 0 = zi2l y ∧ w J L (fun b J2 L2 => AN bd 0 (b = y ∧ L2 552 = L 552) J2 L2)) ∨ (k ≠ 0 ∧ w J L (fun _ J2 L2 => AN bd (k : Int) True J2 L2)))
def WV (R : Nat → Nat → Option Nat) (bd : Int) (w : zM → yM → (zM → yM → Prop) → Prop) : Option Value → xM → Prop := fun v M => ∃ (k : Nat) (J : zM) (L : yM), k < 4 ∧ v = some (.int (nI k)) ∧ M = (553, R, zi J, li L) ∧ w J L (fun J2 L2 => AN bd (k : Int) True J2 L2)
theorem lsk {j sl : Nat} {v : Value} (h : j ≠ sl) (h2 : j + 1 ≠ sl ∨ v.category ≠ 2) : (j, v).1 ≠ sl ∧ ¬ ((j, v).1 + 1 = sl ∧ (j, v).2.category = 2) := ⟨h, fun z => h2.elim (fun q => q z.1) (fun q => q z.2)⟩
theorem xu_out (L : yM) (y : Int) : xu (li L) 552 (nI 0).toNatClampNeg (oI y).toInt64 = li (ys L 552 0 (zi2l y)) := (li_s L 552 (zi2l y) (by decide)).symm
abbrev mL_net : xMe := (yL_net, cL_net, 4, some .int, 8, 132)
abbrev hL_net : List (Nat × Nat × Nat × Nat) := [(0, 9, 12, 19)]
theorem kL_net : xKH mL_net hL_net 3 := ⟨xt_5 (j := 93) rfl (by decide +kernel), xt_5 (j := 92) (by decide +kernel) (by decide +kernel), xt_1 (j := 0) (by decide +kernel) (by decide +kernel), by decide +kernel, by decide +kernel, by decide +kernel⟩
set_option maxHeartbeats 4000000 in
set_option maxRecDepth 100000 in
theorem wr_net {b : Nat} {dC : Nat → ClassId} {dI : Nat → Nat → Nat} {cA : Nat → ClassId} {ts : Nat → Nat} {l : Launch} {R : Nat → Nat → Option Nat} (hst : l.stackTraces = false) (hR : xRk R) {bd : Int} (hb : 0 ≤ bd ∧ bd + 1300000 ≤ 2000000000) {J : zM} {L : yM} (h : PB bd J L) {x1 : Int32} : xCh (xGm b dC dI cA ts) l mL_net hL_net [.ref 0, .int x1, .ref 552] (553, R, zi J, li L) 1 6 (WA R (bd) (w_X12_net x1.toInt)) := by
  have cn := v_X11_net (b := b) (dC := dC) (dI := dI) (cA := cA) (ts := ts) (n := 553) hst (by decide) hR (call_net h (R32_of x1))
  simp only [oI_of] at cn
  refine xCh.ofJ (by decide) (Nat.le_of_ble_eq_true rfl) ?_
  show hJ _ _ _ _ _ _ _ _ _ 0 [(0, .ref 0), (1, .int x1), (2, .ref 552)] [] 553 R (zi J) (li L)
  refine hr_aload_n (k := 2) (by decide +kernel) 2 rfl ?_
  refine hr_iconst (z := 0) (v := nI 0) (by decide +kernel) (by decide) ?_
  refine hr_aload_n (k := 0) (by decide +kernel) 0 rfl ?_
  refine hr_iload_n (k := 1) (by decide +kernel) 1 rfl ?_
  refine hr_callV (st := [.int (nI 0), .ref 552]) mX11_net 1 [.int x1] (idx := 45) (b := 0) (cl := 11) (by decide +kernel) (xt_5 (j := 94) (by decide +kernel) (by decide +kernel)) kX11_net rfl (by decide) kd_0 (by decide) rfl ⟨by decide, by decide⟩ (Nat.le_of_ble_eq_true rfl) cn (by decide) (by decide) (fun v M q => ?_) (fun E M q => ?_)
  · obtain ⟨y, J1, L1, rfl, rfl, hq⟩ := q
    show hJ _ _ _ _ _ _ _ _ _ 7 [(0, .ref 0), (1, .int x1), (2, .ref 552)] [.int (oI y), .int (nI 0), .ref 552] 553 R (zi J1) (li L1)
    refine hr_i2l (by decide +kernel) ?_
    refine hr_lastore (by decide +kernel) (by decide) kd_552 (by rw [show xln (xGm b dC dI cA ts) 552 = 1 from ln_552]; exact nI_in (by decide) (by decide)) ?_
    rw [xu_out]
    refine hr_goto (off := 6) 15 (by decide +kernel) (by decide) ?_
    refine hr_iconst (z := 0) (v := nI 0) (by decide +kernel) (by decide) ?_
    exact hr_iret (by decide +kernel) rfl (by decide) (by decide) ⟨0, J1, (ys L1 552 0 (zi2l y)), by decide, rfl, rfl, Or.inl ⟨rfl, y, ys_s _ _ _ _, hq _ (fun a ha => ys_r _ ha)⟩⟩
  · obtain ⟨J1, L1, rfl, k, hk, hw⟩ := q
    simp only [List.mem_cons, List.not_mem_nil, or_false, Prod.mk.injEq] at hk
    rcases hk with ⟨rfl, rfl⟩
    · refine ⟨[], [], 0, 9, 12, 19, 3, 1, rfl, fun z hz => absurd hz List.not_mem_nil, by decide, by decide, xt_4 (j := 78) (by decide +kernel) (by decide +kernel), List.mem_of_getElem? (i := 18) (by decide +kernel), Or.inl ⟨3, (by decide +kernel), rfl, rfl⟩, by decide, fun q hq => by
        simp only [List.mem_cons, List.not_mem_nil, or_false] at hq
        rcases hq with rfl | rfl | rfl <;> exact lsk (by decide) (by first | exact Or.inl (by decide) | exact Or.inr (fun z => absurd (show (1 : Nat) = 2 from z) (by decide))), ?_⟩
      show hJ _ _ _ _ _ _ _ _ _ 13 [(0, .ref 0), (1, .int x1), (2, .ref 552)] [] 553 R (zi J1) (li L1)
      refine hr_iconst (z := 1) (v := nI 1) (by decide +kernel) (by decide) ?_
      exact hr_iret (by decide +kernel) rfl (by decide) (by decide) ⟨1, J1, L1, by decide, rfl, rfl, Or.inr ⟨by decide, hw⟩⟩
abbrev mL_size : xMe := (yL_size, cL_size, 5, some .int, 9, 155)
abbrev hL_size : List (Nat × Nat × Nat × Nat) := [(0, 10, 13, 19)]
theorem kL_size : xKH mL_size hL_size 4 := ⟨xt_5 (j := 100) rfl (by decide +kernel), xt_5 (j := 99) (by decide +kernel) (by decide +kernel), xt_1 (j := 0) (by decide +kernel) (by decide +kernel), by decide +kernel, by decide +kernel, by decide +kernel⟩
set_option maxHeartbeats 4000000 in
set_option maxRecDepth 100000 in
theorem wr_size {b : Nat} {dC : Nat → ClassId} {dI : Nat → Nat → Nat} {cA : Nat → ClassId} {ts : Nat → Nat} {l : Launch} {R : Nat → Nat → Option Nat} (hst : l.stackTraces = false) (hR : xRk R) {bd : Int} (hb : 0 ≤ bd ∧ bd + 1300000 ≤ 2000000000) {J : zM} {L : yM} (h : PB bd J L) {x1 : Int32} {x2 : Int32} : xCh (xGm b dC dI cA ts) l mL_size hL_size [.ref 0, .int x1, .int x2, .ref 552] (553, R, zi J, li L) 2 12 (WA R (bd) (w_X12_size x1.toInt x2.toInt)) := by
  have cn := v_X11_size (b := b) (dC := dC) (dI := dI) (cA := cA) (ts := ts) (n := 553) hst (by decide) hR (call_size h (R32_of x1) (R32_of x2))
  simp only [oI_of] at cn
  refine xCh.ofJ (by decide) (Nat.le_of_ble_eq_true rfl) ?_
  show hJ _ _ _ _ _ _ _ _ _ 0 [(0, .ref 0), (1, .int x1), (2, .int x2), (3, .ref 552)] [] 553 R (zi J) (li L)
  refine hr_aload_n (k := 3) (by decide +kernel) 3 rfl ?_
  refine hr_iconst (z := 0) (v := nI 0) (by decide +kernel) (by decide) ?_
  refine hr_aload_n (k := 0) (by decide +kernel) 0 rfl ?_
  refine hr_iload_n (k := 1) (by decide +kernel) 1 rfl ?_
  refine hr_iload_n (k := 2) (by decide +kernel) 2 rfl ?_
  refine hr_callV (st := [.int (nI 0), .ref 552]) mX11_size 2 [.int x1, .int x2] (idx := 48) (b := 0) (cl := 11) (by decide +kernel) (xt_5 (j := 101) (by decide +kernel) (by decide +kernel)) kX11_size rfl (by decide) kd_0 (by decide) rfl ⟨by decide, by decide⟩ (Nat.le_of_ble_eq_true rfl) cn (by decide) (by decide) (fun v M q => ?_) (fun E M q => ?_)
  · obtain ⟨y, J1, L1, rfl, rfl, hq⟩ := q
    show hJ _ _ _ _ _ _ _ _ _ 8 [(0, .ref 0), (1, .int x1), (2, .int x2), (3, .ref 552)] [.int (oI y), .int (nI 0), .ref 552] 553 R (zi J1) (li L1)
    refine hr_i2l (by decide +kernel) ?_
    refine hr_lastore (by decide +kernel) (by decide) kd_552 (by rw [show xln (xGm b dC dI cA ts) 552 = 1 from ln_552]; exact nI_in (by decide) (by decide)) ?_
    rw [xu_out]
    refine hr_goto (off := 7) 17 (by decide +kernel) (by decide) ?_
    refine hr_iconst (z := 0) (v := nI 0) (by decide +kernel) (by decide) ?_
    exact hr_iret (by decide +kernel) rfl (by decide) (by decide) ⟨0, J1, (ys L1 552 0 (zi2l y)), by decide, rfl, rfl, Or.inl ⟨rfl, y, ys_s _ _ _ _, hq _ (fun a ha => ys_r _ ha)⟩⟩
  · obtain ⟨J1, L1, rfl, k, hk, hw⟩ := q
    simp only [List.mem_cons, List.not_mem_nil, or_false, Prod.mk.injEq] at hk
    rcases hk with ⟨rfl, rfl⟩
    · refine ⟨[], [], 0, 10, 13, 19, 4, 2, rfl, fun z hz => absurd hz List.not_mem_nil, by decide, by decide, xt_4 (j := 78) (by decide +kernel) (by decide +kernel), List.mem_of_getElem? (i := 18) (by decide +kernel), Or.inr ⟨(by decide +kernel), rfl⟩, by decide, fun q hq => by
        simp only [List.mem_cons, List.not_mem_nil, or_false] at hq
        rcases hq with rfl | rfl | rfl | rfl <;> exact lsk (by decide) (by first | exact Or.inl (by decide) | exact Or.inr (fun z => absurd (show (1 : Nat) = 2 from z) (by decide))), ?_⟩
      show hJ _ _ _ _ _ _ _ _ _ 15 [(0, .ref 0), (1, .int x1), (2, .int x2), (3, .ref 552)] [] 553 R (zi J1) (li L1)
      refine hr_iconst (z := 1) (v := nI 1) (by decide +kernel) (by decide) ?_
      exact hr_iret (by decide +kernel) rfl (by decide) (by decide) ⟨1, J1, L1, by decide, rfl, rfl, Or.inr ⟨by decide, hw⟩⟩
abbrev mL_octet : xMe := (yL_octet, cL_octet, 6, some .int, 10, 179)
abbrev hL_octet : List (Nat × Nat × Nat × Nat) := [(0, 12, 15, 19)]
theorem kL_octet : xKH mL_octet hL_octet 5 := ⟨xt_5 (j := 116) rfl (by decide +kernel), xt_5 (j := 115) (by decide +kernel) (by decide +kernel), xt_1 (j := 0) (by decide +kernel) (by decide +kernel), by decide +kernel, by decide +kernel, by decide +kernel⟩
set_option maxHeartbeats 4000000 in
set_option maxRecDepth 100000 in
theorem wr_octet {b : Nat} {dC : Nat → ClassId} {dI : Nat → Nat → Nat} {cA : Nat → ClassId} {ts : Nat → Nat} {l : Launch} {R : Nat → Nat → Option Nat} (hst : l.stackTraces = false) (hR : xRk R) {bd : Int} (hb : 0 ≤ bd ∧ bd + 1300000 ≤ 2000000000) {J : zM} {L : yM} (h : PB bd J L) {x1 : Int32} {x2 : Int32} {x3 : Int32} : xCh (xGm b dC dI cA ts) l mL_octet hL_octet [.ref 0, .int x1, .int x2, .int x3, .ref 552] (553, R, zi J, li L) 3 18 (WA R (bd) (w_X12_octet x1.toInt x2.toInt x3.toInt)) := by
  have cn := v_X11_octet (b := b) (dC := dC) (dI := dI) (cA := cA) (ts := ts) (n := 553) hst (by decide) hR (call_octet h (R32_of x1) (R32_of x2) (R32_of x3))
  simp only [oI_of] at cn
  refine xCh.ofJ (by decide) (Nat.le_of_ble_eq_true rfl) ?_
  show hJ _ _ _ _ _ _ _ _ _ 0 [(0, .ref 0), (1, .int x1), (2, .int x2), (3, .int x3), (4, .ref 552)] [] 553 R (zi J) (li L)
  refine hr_aload (i := 4) (by decide +kernel) 4 rfl ?_
  refine hr_iconst (z := 0) (v := nI 0) (by decide +kernel) (by decide) ?_
  refine hr_aload_n (k := 0) (by decide +kernel) 0 rfl ?_
  refine hr_iload_n (k := 1) (by decide +kernel) 1 rfl ?_
  refine hr_iload_n (k := 2) (by decide +kernel) 2 rfl ?_
  refine hr_iload_n (k := 3) (by decide +kernel) 3 rfl ?_
  refine hr_callV (st := [.int (nI 0), .ref 552]) mX11_octet 3 [.int x1, .int x2, .int x3] (idx := 52) (b := 0) (cl := 11) (by decide +kernel) (xt_5 (j := 117) (by decide +kernel) (by decide +kernel)) kX11_octet rfl (by decide) kd_0 (by decide) rfl ⟨by decide, by decide⟩ (Nat.le_of_ble_eq_true rfl) cn (by decide) (by decide) (fun v M q => ?_) (fun E M q => ?_)
  · obtain ⟨y, J1, L1, rfl, rfl, hq⟩ := q
    show hJ _ _ _ _ _ _ _ _ _ 10 [(0, .ref 0), (1, .int x1), (2, .int x2), (3, .int x3), (4, .ref 552)] [.int (oI y), .int (nI 0), .ref 552] 553 R (zi J1) (li L1)
    refine hr_i2l (by decide +kernel) ?_
    refine hr_lastore (by decide +kernel) (by decide) kd_552 (by rw [show xln (xGm b dC dI cA ts) 552 = 1 from ln_552]; exact nI_in (by decide) (by decide)) ?_
    rw [xu_out]
    refine hr_goto (off := 7) 19 (by decide +kernel) (by decide) ?_
    refine hr_iconst (z := 0) (v := nI 0) (by decide +kernel) (by decide) ?_
    exact hr_iret (by decide +kernel) rfl (by decide) (by decide) ⟨0, J1, (ys L1 552 0 (zi2l y)), by decide, rfl, rfl, Or.inl ⟨rfl, y, ys_s _ _ _ _, hq _ (fun a ha => ys_r _ ha)⟩⟩
  · obtain ⟨J1, L1, rfl, k, hk, hw⟩ := q
    simp only [List.mem_cons, List.not_mem_nil, or_false, Prod.mk.injEq] at hk
    rcases hk with ⟨rfl, rfl⟩
    · refine ⟨[], [], 0, 12, 15, 19, 5, 2, rfl, fun z hz => absurd hz List.not_mem_nil, by decide, by decide, xt_4 (j := 78) (by decide +kernel) (by decide +kernel), List.mem_of_getElem? (i := 18) (by decide +kernel), Or.inr ⟨(by decide +kernel), rfl⟩, by decide, fun q hq => by
        simp only [List.mem_cons, List.not_mem_nil, or_false] at hq
        rcases hq with rfl | rfl | rfl | rfl | rfl <;> exact lsk (by decide) (by first | exact Or.inl (by decide) | exact Or.inr (fun z => absurd (show (1 : Nat) = 2 from z) (by decide))), ?_⟩
      show hJ _ _ _ _ _ _ _ _ _ 17 [(0, .ref 0), (1, .int x1), (2, .int x2), (3, .int x3), (4, .ref 552)] [] 553 R (zi J1) (li L1)
      refine hr_iconst (z := 1) (v := nI 1) (by decide +kernel) (by decide) ?_
      exact hr_iret (by decide +kernel) rfl (by decide) (by decide) ⟨1, J1, L1, by decide, rfl, rfl, Or.inr ⟨by decide, hw⟩⟩
abbrev mL_state : xMe := (yL_state, cL_state, 4, some .int, 8, 132)
abbrev hL_state : List (Nat × Nat × Nat × Nat) := [(0, 9, 12, 19)]
theorem kL_state : xKH mL_state hL_state 3 := ⟨xt_6 (j := 172) rfl (by decide +kernel), xt_6 (j := 171) (by decide +kernel) (by decide +kernel), xt_1 (j := 0) (by decide +kernel) (by decide +kernel), by decide +kernel, by decide +kernel, by decide +kernel⟩
set_option maxHeartbeats 4000000 in
set_option maxRecDepth 100000 in
theorem wr_state {b : Nat} {dC : Nat → ClassId} {dI : Nat → Nat → Nat} {cA : Nat → ClassId} {ts : Nat → Nat} {l : Launch} {R : Nat → Nat → Option Nat} (hst : l.stackTraces = false) (hR : xRk R) {bd : Int} (hb : 0 ≤ bd ∧ bd + 1300000 ≤ 2000000000) {J : zM} {L : yM} (h : PB bd J L) {x1 : Int32} : xCh (xGm b dC dI cA ts) l mL_state hL_state [.ref 0, .int x1, .ref 552] (553, R, zi J, li L) 1 6 (WA R (bd) (w_X12_state x1.toInt)) := by
  have cn := v_X11_state (b := b) (dC := dC) (dI := dI) (cA := cA) (ts := ts) (n := 553) hst (by decide) hR (call_state h (R32_of x1))
  simp only [oI_of] at cn
  refine xCh.ofJ (by decide) (Nat.le_of_ble_eq_true rfl) ?_
  show hJ _ _ _ _ _ _ _ _ _ 0 [(0, .ref 0), (1, .int x1), (2, .ref 552)] [] 553 R (zi J) (li L)
  refine hr_aload_n (k := 2) (by decide +kernel) 2 rfl ?_
  refine hr_iconst (z := 0) (v := nI 0) (by decide +kernel) (by decide) ?_
  refine hr_aload_n (k := 0) (by decide +kernel) 0 rfl ?_
  refine hr_iload_n (k := 1) (by decide +kernel) 1 rfl ?_
  refine hr_callV (st := [.int (nI 0), .ref 552]) mX11_state 1 [.int x1] (idx := 75) (b := 0) (cl := 11) (by decide +kernel) (xt_6 (j := 173) (by decide +kernel) (by decide +kernel)) kX11_state rfl (by decide) kd_0 (by decide) rfl ⟨by decide, by decide⟩ (Nat.le_of_ble_eq_true rfl) cn (by decide) (by decide) (fun v M q => ?_) (fun E M q => ?_)
  · obtain ⟨y, J1, L1, rfl, rfl, hq⟩ := q
    show hJ _ _ _ _ _ _ _ _ _ 7 [(0, .ref 0), (1, .int x1), (2, .ref 552)] [.int (oI y), .int (nI 0), .ref 552] 553 R (zi J1) (li L1)
    refine hr_i2l (by decide +kernel) ?_
    refine hr_lastore (by decide +kernel) (by decide) kd_552 (by rw [show xln (xGm b dC dI cA ts) 552 = 1 from ln_552]; exact nI_in (by decide) (by decide)) ?_
    rw [xu_out]
    refine hr_goto (off := 6) 15 (by decide +kernel) (by decide) ?_
    refine hr_iconst (z := 0) (v := nI 0) (by decide +kernel) (by decide) ?_
    exact hr_iret (by decide +kernel) rfl (by decide) (by decide) ⟨0, J1, (ys L1 552 0 (zi2l y)), by decide, rfl, rfl, Or.inl ⟨rfl, y, ys_s _ _ _ _, hq _ (fun a ha => ys_r _ ha)⟩⟩
  · obtain ⟨J1, L1, rfl, k, hk, hw⟩ := q
    simp only [List.mem_cons, List.not_mem_nil, or_false, Prod.mk.injEq] at hk
    rcases hk with ⟨rfl, rfl⟩
    · refine ⟨[], [], 0, 9, 12, 19, 3, 1, rfl, fun z hz => absurd hz List.not_mem_nil, by decide, by decide, xt_4 (j := 78) (by decide +kernel) (by decide +kernel), List.mem_of_getElem? (i := 18) (by decide +kernel), Or.inl ⟨3, (by decide +kernel), rfl, rfl⟩, by decide, fun q hq => by
        simp only [List.mem_cons, List.not_mem_nil, or_false] at hq
        rcases hq with rfl | rfl | rfl <;> exact lsk (by decide) (by first | exact Or.inl (by decide) | exact Or.inr (fun z => absurd (show (1 : Nat) = 2 from z) (by decide))), ?_⟩
      show hJ _ _ _ _ _ _ _ _ _ 13 [(0, .ref 0), (1, .int x1), (2, .ref 552)] [] 553 R (zi J1) (li L1)
      refine hr_iconst (z := 1) (v := nI 1) (by decide +kernel) (by decide) ?_
      exact hr_iret (by decide +kernel) rfl (by decide) (by decide) ⟨1, J1, L1, by decide, rfl, rfl, Or.inr ⟨by decide, hw⟩⟩
abbrev mL_got : xMe := (yL_got, cL_got, 4, some .int, 8, 132)
abbrev hL_got : List (Nat × Nat × Nat × Nat) := [(0, 9, 12, 19)]
theorem kL_got : xKH mL_got hL_got 3 := ⟨xt_6 (j := 179) rfl (by decide +kernel), xt_6 (j := 178) (by decide +kernel) (by decide +kernel), xt_1 (j := 0) (by decide +kernel) (by decide +kernel), by decide +kernel, by decide +kernel, by decide +kernel⟩
set_option maxHeartbeats 4000000 in
set_option maxRecDepth 100000 in
theorem wr_got {b : Nat} {dC : Nat → ClassId} {dI : Nat → Nat → Nat} {cA : Nat → ClassId} {ts : Nat → Nat} {l : Launch} {R : Nat → Nat → Option Nat} (hst : l.stackTraces = false) (hR : xRk R) {bd : Int} (hb : 0 ≤ bd ∧ bd + 1300000 ≤ 2000000000) {J : zM} {L : yM} (h : PB bd J L) {x1 : Int32} : xCh (xGm b dC dI cA ts) l mL_got hL_got [.ref 0, .int x1, .ref 552] (553, R, zi J, li L) 1 6 (WA R (bd) (w_X12_got x1.toInt)) := by
  have cn := v_X11_got (b := b) (dC := dC) (dI := dI) (cA := cA) (ts := ts) (n := 553) hst (by decide) hR (call_got h (R32_of x1))
  simp only [oI_of] at cn
  refine xCh.ofJ (by decide) (Nat.le_of_ble_eq_true rfl) ?_
  show hJ _ _ _ _ _ _ _ _ _ 0 [(0, .ref 0), (1, .int x1), (2, .ref 552)] [] 553 R (zi J) (li L)
  refine hr_aload_n (k := 2) (by decide +kernel) 2 rfl ?_
  refine hr_iconst (z := 0) (v := nI 0) (by decide +kernel) (by decide) ?_
  refine hr_aload_n (k := 0) (by decide +kernel) 0 rfl ?_
  refine hr_iload_n (k := 1) (by decide +kernel) 1 rfl ?_
  refine hr_callV (st := [.int (nI 0), .ref 552]) mX11_got 1 [.int x1] (idx := 78) (b := 0) (cl := 11) (by decide +kernel) (xt_6 (j := 180) (by decide +kernel) (by decide +kernel)) kX11_got rfl (by decide) kd_0 (by decide) rfl ⟨by decide, by decide⟩ (Nat.le_of_ble_eq_true rfl) cn (by decide) (by decide) (fun v M q => ?_) (fun E M q => ?_)
  · obtain ⟨y, J1, L1, rfl, rfl, hq⟩ := q
    show hJ _ _ _ _ _ _ _ _ _ 7 [(0, .ref 0), (1, .int x1), (2, .ref 552)] [.int (oI y), .int (nI 0), .ref 552] 553 R (zi J1) (li L1)
    refine hr_i2l (by decide +kernel) ?_
    refine hr_lastore (by decide +kernel) (by decide) kd_552 (by rw [show xln (xGm b dC dI cA ts) 552 = 1 from ln_552]; exact nI_in (by decide) (by decide)) ?_
    rw [xu_out]
    refine hr_goto (off := 6) 15 (by decide +kernel) (by decide) ?_
    refine hr_iconst (z := 0) (v := nI 0) (by decide +kernel) (by decide) ?_
    exact hr_iret (by decide +kernel) rfl (by decide) (by decide) ⟨0, J1, (ys L1 552 0 (zi2l y)), by decide, rfl, rfl, Or.inl ⟨rfl, y, ys_s _ _ _ _, hq _ (fun a ha => ys_r _ ha)⟩⟩
  · obtain ⟨J1, L1, rfl, k, hk, hw⟩ := q
    simp only [List.mem_cons, List.not_mem_nil, or_false, Prod.mk.injEq] at hk
    rcases hk with ⟨rfl, rfl⟩
    · refine ⟨[], [], 0, 9, 12, 19, 3, 1, rfl, fun z hz => absurd hz List.not_mem_nil, by decide, by decide, xt_4 (j := 78) (by decide +kernel) (by decide +kernel), List.mem_of_getElem? (i := 18) (by decide +kernel), Or.inl ⟨3, (by decide +kernel), rfl, rfl⟩, by decide, fun q hq => by
        simp only [List.mem_cons, List.not_mem_nil, or_false] at hq
        rcases hq with rfl | rfl | rfl <;> exact lsk (by decide) (by first | exact Or.inl (by decide) | exact Or.inr (fun z => absurd (show (1 : Nat) = 2 from z) (by decide))), ?_⟩
      show hJ _ _ _ _ _ _ _ _ _ 13 [(0, .ref 0), (1, .int x1), (2, .ref 552)] [] 553 R (zi J1) (li L1)
      refine hr_iconst (z := 1) (v := nI 1) (by decide +kernel) (by decide) ?_
      exact hr_iret (by decide +kernel) rfl (by decide) (by decide) ⟨1, J1, L1, by decide, rfl, rfl, Or.inr ⟨by decide, hw⟩⟩
abbrev mL_deliver : xMe := (yL_deliver, cL_deliver, 5, some .int, 11, 273)
abbrev hL_deliver : List (Nat × Nat × Nat × Nat) := [(0, 10, 13, 19)]
theorem kL_deliver : xKH mL_deliver hL_deliver 4 := ⟨xt_5 (j := 133) rfl (by decide +kernel), xt_5 (j := 132) (by decide +kernel) (by decide +kernel), xt_1 (j := 0) (by decide +kernel) (by decide +kernel), by decide +kernel, by decide +kernel, by decide +kernel⟩
set_option maxHeartbeats 4000000 in
set_option maxRecDepth 100000 in
theorem wr_deliver {b : Nat} {dC : Nat → ClassId} {dI : Nat → Nat → Nat} {cA : Nat → ClassId} {ts : Nat → Nat} {l : Launch} {R : Nat → Nat → Option Nat} (hst : l.stackTraces = false) (hR : xRk R) {bd : Int} (hb : 0 ≤ bd ∧ bd + 1300000 ≤ 2000000000) {J : zM} {L : yM} (h : PB bd J L) {x1 : Int32} {x2 : Int32} : xCh (xGm b dC dI cA ts) l mL_deliver hL_deliver [.ref 0, .int x1, .int x2, .ref 552] (553, R, zi J, li L) 2 12 (WA R (bd + 100) (w_X12_deliver x1.toInt x2.toInt)) := by
  have cn := v_X11_deliver (b := b) (dC := dC) (dI := dI) (cA := cA) (ts := ts) (n := 553) hst (by decide) hR (call_deliver h ⟨hb.1, by omega⟩ (R32_of x1) (R32_of x2))
  simp only [oI_of] at cn
  refine xCh.ofJ (by decide) (Nat.le_of_ble_eq_true rfl) ?_
  show hJ _ _ _ _ _ _ _ _ _ 0 [(0, .ref 0), (1, .int x1), (2, .int x2), (3, .ref 552)] [] 553 R (zi J) (li L)
  refine hr_aload_n (k := 3) (by decide +kernel) 3 rfl ?_
  refine hr_iconst (z := 0) (v := nI 0) (by decide +kernel) (by decide) ?_
  refine hr_aload_n (k := 0) (by decide +kernel) 0 rfl ?_
  refine hr_iload_n (k := 1) (by decide +kernel) 1 rfl ?_
  refine hr_iload_n (k := 2) (by decide +kernel) 2 rfl ?_
  refine hr_callV (st := [.int (nI 0), .ref 552]) mX11_deliver 2 [.int x1, .int x2] (idx := 56) (b := 0) (cl := 11) (by decide +kernel) (xt_5 (j := 134) (by decide +kernel) (by decide +kernel)) kX11_deliver rfl (by decide) kd_0 (by decide) rfl ⟨by decide, by decide⟩ (Nat.le_of_ble_eq_true rfl) cn (by decide) (by decide) (fun v M q => ?_) (fun E M q => ?_)
  · obtain ⟨y, J1, L1, rfl, rfl, hq⟩ := q
    show hJ _ _ _ _ _ _ _ _ _ 8 [(0, .ref 0), (1, .int x1), (2, .int x2), (3, .ref 552)] [.int (oI y), .int (nI 0), .ref 552] 553 R (zi J1) (li L1)
    refine hr_i2l (by decide +kernel) ?_
    refine hr_lastore (by decide +kernel) (by decide) kd_552 (by rw [show xln (xGm b dC dI cA ts) 552 = 1 from ln_552]; exact nI_in (by decide) (by decide)) ?_
    rw [xu_out]
    refine hr_goto (off := 7) 17 (by decide +kernel) (by decide) ?_
    refine hr_iconst (z := 0) (v := nI 0) (by decide +kernel) (by decide) ?_
    exact hr_iret (by decide +kernel) rfl (by decide) (by decide) ⟨0, J1, (ys L1 552 0 (zi2l y)), by decide, rfl, rfl, Or.inl ⟨rfl, y, ys_s _ _ _ _, hq _ (fun a ha => ys_r _ ha)⟩⟩
  · obtain ⟨J1, L1, rfl, k, hk, hw⟩ := q
    simp only [List.mem_cons, List.not_mem_nil, or_false, Prod.mk.injEq] at hk
    rcases hk with ⟨rfl, rfl⟩
    · refine ⟨[], [], 0, 10, 13, 19, 4, 2, rfl, fun z hz => absurd hz List.not_mem_nil, by decide, by decide, xt_4 (j := 78) (by decide +kernel) (by decide +kernel), List.mem_of_getElem? (i := 18) (by decide +kernel), Or.inr ⟨(by decide +kernel), rfl⟩, by decide, fun q hq => by
        simp only [List.mem_cons, List.not_mem_nil, or_false] at hq
        rcases hq with rfl | rfl | rfl | rfl <;> exact lsk (by decide) (by first | exact Or.inl (by decide) | exact Or.inr (fun z => absurd (show (1 : Nat) = 2 from z) (by decide))), ?_⟩
      show hJ _ _ _ _ _ _ _ _ _ 15 [(0, .ref 0), (1, .int x1), (2, .int x2), (3, .ref 552)] [] 553 R (zi J1) (li L1)
      refine hr_iconst (z := 1) (v := nI 1) (by decide +kernel) (by decide) ?_
      exact hr_iret (by decide +kernel) rfl (by decide) (by decide) ⟨1, J1, L1, by decide, rfl, rfl, Or.inr ⟨by decide, hw⟩⟩
abbrev mL_lose : xMe := (yL_lose, cL_lose, 5, some .int, 9, 155)
abbrev hL_lose : List (Nat × Nat × Nat × Nat) := [(0, 10, 13, 19)]
theorem kL_lose : xKH mL_lose hL_lose 4 := ⟨xt_6 (j := 126) rfl (by decide +kernel), xt_6 (j := 125) (by decide +kernel) (by decide +kernel), xt_1 (j := 0) (by decide +kernel) (by decide +kernel), by decide +kernel, by decide +kernel, by decide +kernel⟩
set_option maxHeartbeats 4000000 in
set_option maxRecDepth 100000 in
theorem wr_lose {b : Nat} {dC : Nat → ClassId} {dI : Nat → Nat → Nat} {cA : Nat → ClassId} {ts : Nat → Nat} {l : Launch} {R : Nat → Nat → Option Nat} (hst : l.stackTraces = false) (hR : xRk R) {bd : Int} (hb : 0 ≤ bd ∧ bd + 1300000 ≤ 2000000000) {J : zM} {L : yM} (h : PB bd J L) {x1 : Int32} {x2 : Int32} : xCh (xGm b dC dI cA ts) l mL_lose hL_lose [.ref 0, .int x1, .int x2, .ref 552] (553, R, zi J, li L) 2 12 (WA R (bd) (w_X12_lose x1.toInt x2.toInt)) := by
  have cn := v_X11_lose (b := b) (dC := dC) (dI := dI) (cA := cA) (ts := ts) (n := 553) hst (by decide) hR (call_lose h (R32_of x1) (R32_of x2))
  simp only [oI_of] at cn
  refine xCh.ofJ (by decide) (Nat.le_of_ble_eq_true rfl) ?_
  show hJ _ _ _ _ _ _ _ _ _ 0 [(0, .ref 0), (1, .int x1), (2, .int x2), (3, .ref 552)] [] 553 R (zi J) (li L)
  refine hr_aload_n (k := 3) (by decide +kernel) 3 rfl ?_
  refine hr_iconst (z := 0) (v := nI 0) (by decide +kernel) (by decide) ?_
  refine hr_aload_n (k := 0) (by decide +kernel) 0 rfl ?_
  refine hr_iload_n (k := 1) (by decide +kernel) 1 rfl ?_
  refine hr_iload_n (k := 2) (by decide +kernel) 2 rfl ?_
  refine hr_callV (st := [.int (nI 0), .ref 552]) mX11_lose 2 [.int x1, .int x2] (idx := 59) (b := 0) (cl := 11) (by decide +kernel) (xt_6 (j := 127) (by decide +kernel) (by decide +kernel)) kX11_lose rfl (by decide) kd_0 (by decide) rfl ⟨by decide, by decide⟩ (Nat.le_of_ble_eq_true rfl) cn (by decide) (by decide) (fun v M q => ?_) (fun E M q => ?_)
  · obtain ⟨y, J1, L1, rfl, rfl, hq⟩ := q
    show hJ _ _ _ _ _ _ _ _ _ 8 [(0, .ref 0), (1, .int x1), (2, .int x2), (3, .ref 552)] [.int (oI y), .int (nI 0), .ref 552] 553 R (zi J1) (li L1)
    refine hr_i2l (by decide +kernel) ?_
    refine hr_lastore (by decide +kernel) (by decide) kd_552 (by rw [show xln (xGm b dC dI cA ts) 552 = 1 from ln_552]; exact nI_in (by decide) (by decide)) ?_
    rw [xu_out]
    refine hr_goto (off := 7) 17 (by decide +kernel) (by decide) ?_
    refine hr_iconst (z := 0) (v := nI 0) (by decide +kernel) (by decide) ?_
    exact hr_iret (by decide +kernel) rfl (by decide) (by decide) ⟨0, J1, (ys L1 552 0 (zi2l y)), by decide, rfl, rfl, Or.inl ⟨rfl, y, ys_s _ _ _ _, hq _ (fun a ha => ys_r _ ha)⟩⟩
  · obtain ⟨J1, L1, rfl, k, hk, hw⟩ := q
    simp only [List.mem_cons, List.not_mem_nil, or_false, Prod.mk.injEq] at hk
    rcases hk with ⟨rfl, rfl⟩
    · refine ⟨[], [], 0, 10, 13, 19, 4, 2, rfl, fun z hz => absurd hz List.not_mem_nil, by decide, by decide, xt_4 (j := 78) (by decide +kernel) (by decide +kernel), List.mem_of_getElem? (i := 18) (by decide +kernel), Or.inr ⟨(by decide +kernel), rfl⟩, by decide, fun q hq => by
        simp only [List.mem_cons, List.not_mem_nil, or_false] at hq
        rcases hq with rfl | rfl | rfl | rfl <;> exact lsk (by decide) (by first | exact Or.inl (by decide) | exact Or.inr (fun z => absurd (show (1 : Nat) = 2 from z) (by decide))), ?_⟩
      show hJ _ _ _ _ _ _ _ _ _ 15 [(0, .ref 0), (1, .int x1), (2, .int x2), (3, .ref 552)] [] 553 R (zi J1) (li L1)
      refine hr_iconst (z := 1) (v := nI 1) (by decide +kernel) (by decide) ?_
      exact hr_iret (by decide +kernel) rfl (by decide) (by decide) ⟨1, J1, L1, by decide, rfl, rfl, Or.inr ⟨by decide, hw⟩⟩
abbrev mL_twice : xMe := (yL_twice, cL_twice, 5, some .int, 9, 155)
abbrev hL_twice : List (Nat × Nat × Nat × Nat) := [(0, 10, 13, 19)]
theorem kL_twice : xKH mL_twice hL_twice 4 := ⟨xt_6 (j := 133) rfl (by decide +kernel), xt_6 (j := 132) (by decide +kernel) (by decide +kernel), xt_1 (j := 0) (by decide +kernel) (by decide +kernel), by decide +kernel, by decide +kernel, by decide +kernel⟩
set_option maxHeartbeats 4000000 in
set_option maxRecDepth 100000 in
theorem wr_twice {b : Nat} {dC : Nat → ClassId} {dI : Nat → Nat → Nat} {cA : Nat → ClassId} {ts : Nat → Nat} {l : Launch} {R : Nat → Nat → Option Nat} (hst : l.stackTraces = false) (hR : xRk R) {bd : Int} (hb : 0 ≤ bd ∧ bd + 1300000 ≤ 2000000000) {J : zM} {L : yM} (h : PB bd J L) {x1 : Int32} {x2 : Int32} : xCh (xGm b dC dI cA ts) l mL_twice hL_twice [.ref 0, .int x1, .int x2, .ref 552] (553, R, zi J, li L) 2 12 (WA R (bd) (w_X12_twice x1.toInt x2.toInt)) := by
  have cn := v_X11_twice (b := b) (dC := dC) (dI := dI) (cA := cA) (ts := ts) (n := 553) hst (by decide) hR (call_twice h (R32_of x1) (R32_of x2))
  simp only [oI_of] at cn
  refine xCh.ofJ (by decide) (Nat.le_of_ble_eq_true rfl) ?_
  show hJ _ _ _ _ _ _ _ _ _ 0 [(0, .ref 0), (1, .int x1), (2, .int x2), (3, .ref 552)] [] 553 R (zi J) (li L)
  refine hr_aload_n (k := 3) (by decide +kernel) 3 rfl ?_
  refine hr_iconst (z := 0) (v := nI 0) (by decide +kernel) (by decide) ?_
  refine hr_aload_n (k := 0) (by decide +kernel) 0 rfl ?_
  refine hr_iload_n (k := 1) (by decide +kernel) 1 rfl ?_
  refine hr_iload_n (k := 2) (by decide +kernel) 2 rfl ?_
  refine hr_callV (st := [.int (nI 0), .ref 552]) mX11_twice 2 [.int x1, .int x2] (idx := 62) (b := 0) (cl := 11) (by decide +kernel) (xt_6 (j := 134) (by decide +kernel) (by decide +kernel)) kX11_twice rfl (by decide) kd_0 (by decide) rfl ⟨by decide, by decide⟩ (Nat.le_of_ble_eq_true rfl) cn (by decide) (by decide) (fun v M q => ?_) (fun E M q => ?_)
  · obtain ⟨y, J1, L1, rfl, rfl, hq⟩ := q
    show hJ _ _ _ _ _ _ _ _ _ 8 [(0, .ref 0), (1, .int x1), (2, .int x2), (3, .ref 552)] [.int (oI y), .int (nI 0), .ref 552] 553 R (zi J1) (li L1)
    refine hr_i2l (by decide +kernel) ?_
    refine hr_lastore (by decide +kernel) (by decide) kd_552 (by rw [show xln (xGm b dC dI cA ts) 552 = 1 from ln_552]; exact nI_in (by decide) (by decide)) ?_
    rw [xu_out]
    refine hr_goto (off := 7) 17 (by decide +kernel) (by decide) ?_
    refine hr_iconst (z := 0) (v := nI 0) (by decide +kernel) (by decide) ?_
    exact hr_iret (by decide +kernel) rfl (by decide) (by decide) ⟨0, J1, (ys L1 552 0 (zi2l y)), by decide, rfl, rfl, Or.inl ⟨rfl, y, ys_s _ _ _ _, hq _ (fun a ha => ys_r _ ha)⟩⟩
  · obtain ⟨J1, L1, rfl, k, hk, hw⟩ := q
    simp only [List.mem_cons, List.not_mem_nil, or_false, Prod.mk.injEq] at hk
    rcases hk with ⟨rfl, rfl⟩
    · refine ⟨[], [], 0, 10, 13, 19, 4, 2, rfl, fun z hz => absurd hz List.not_mem_nil, by decide, by decide, xt_4 (j := 78) (by decide +kernel) (by decide +kernel), List.mem_of_getElem? (i := 18) (by decide +kernel), Or.inr ⟨(by decide +kernel), rfl⟩, by decide, fun q hq => by
        simp only [List.mem_cons, List.not_mem_nil, or_false] at hq
        rcases hq with rfl | rfl | rfl | rfl <;> exact lsk (by decide) (by first | exact Or.inl (by decide) | exact Or.inr (fun z => absurd (show (1 : Nat) = 2 from z) (by decide))), ?_⟩
      show hJ _ _ _ _ _ _ _ _ _ 15 [(0, .ref 0), (1, .int x1), (2, .int x2), (3, .ref 552)] [] 553 R (zi J1) (li L1)
      refine hr_iconst (z := 1) (v := nI 1) (by decide +kernel) (by decide) ?_
      exact hr_iret (by decide +kernel) rfl (by decide) (by decide) ⟨1, J1, L1, by decide, rfl, rfl, Or.inr ⟨by decide, hw⟩⟩
abbrev mL_forge : xMe := (yL_forge, cL_forge, 7, some .int, 10, 180)
abbrev hL_forge : List (Nat × Nat × Nat × Nat) := [(0, 14, 17, 19)]
theorem kL_forge : xKH mL_forge hL_forge 6 := ⟨xt_6 (j := 145) rfl (by decide +kernel), xt_6 (j := 144) (by decide +kernel) (by decide +kernel), xt_1 (j := 0) (by decide +kernel) (by decide +kernel), by decide +kernel, by decide +kernel, by decide +kernel⟩
set_option maxHeartbeats 4000000 in
set_option maxRecDepth 100000 in
theorem wr_forge {b : Nat} {dC : Nat → ClassId} {dI : Nat → Nat → Nat} {cA : Nat → ClassId} {ts : Nat → Nat} {l : Launch} {R : Nat → Nat → Option Nat} (hst : l.stackTraces = false) (hR : xRk R) {bd : Int} (hb : 0 ≤ bd ∧ bd + 1300000 ≤ 2000000000) {J : zM} {L : yM} (h : PB bd J L) {x1 : Int32} {x2 : Int32} {x3 : Int32} {x4 : Int32} : xCh (xGm b dC dI cA ts) l mL_forge hL_forge [.ref 0, .int x1, .int x2, .int x3, .int x4, .ref 552] (553, R, zi J, li L) 3 18 (WA R (bd) (w_X12_forge x1.toInt x2.toInt x3.toInt x4.toInt)) := by
  have cn := v_X11_forge (b := b) (dC := dC) (dI := dI) (cA := cA) (ts := ts) (n := 553) hst (by decide) hR (call_forge (m := x4.toInt) h (R32_of x1) (R32_of x2) (R32_of x3))
  simp only [oI_of] at cn
  refine xCh.ofJ (by decide) (Nat.le_of_ble_eq_true rfl) ?_
  show hJ _ _ _ _ _ _ _ _ _ 0 [(0, .ref 0), (1, .int x1), (2, .int x2), (3, .int x3), (4, .int x4), (5, .ref 552)] [] 553 R (zi J) (li L)
  refine hr_aload (i := 5) (by decide +kernel) 5 rfl ?_
  refine hr_iconst (z := 0) (v := nI 0) (by decide +kernel) (by decide) ?_
  refine hr_aload_n (k := 0) (by decide +kernel) 0 rfl ?_
  refine hr_iload_n (k := 1) (by decide +kernel) 1 rfl ?_
  refine hr_iload_n (k := 2) (by decide +kernel) 2 rfl ?_
  refine hr_iload_n (k := 3) (by decide +kernel) 3 rfl ?_
  refine hr_iload (i := 4) (by decide +kernel) 4 rfl ?_
  refine hr_callV (st := [.int (nI 0), .ref 552]) mX11_forge 4 [.int x1, .int x2, .int x3, .int x4] (idx := 65) (b := 0) (cl := 11) (by decide +kernel) (xt_6 (j := 146) (by decide +kernel) (by decide +kernel)) kX11_forge rfl (by decide) kd_0 (by decide) rfl ⟨by decide, by decide⟩ (Nat.le_of_ble_eq_true rfl) cn (by decide) (by decide) (fun v M q => ?_) (fun E M q => ?_)
  · obtain ⟨y, J1, L1, rfl, rfl, hq⟩ := q
    show hJ _ _ _ _ _ _ _ _ _ 12 [(0, .ref 0), (1, .int x1), (2, .int x2), (3, .int x3), (4, .int x4), (5, .ref 552)] [.int (oI y), .int (nI 0), .ref 552] 553 R (zi J1) (li L1)
    refine hr_i2l (by decide +kernel) ?_
    refine hr_lastore (by decide +kernel) (by decide) kd_552 (by rw [show xln (xGm b dC dI cA ts) 552 = 1 from ln_552]; exact nI_in (by decide) (by decide)) ?_
    rw [xu_out]
    refine hr_goto (off := 7) 21 (by decide +kernel) (by decide) ?_
    refine hr_iconst (z := 0) (v := nI 0) (by decide +kernel) (by decide) ?_
    exact hr_iret (by decide +kernel) rfl (by decide) (by decide) ⟨0, J1, (ys L1 552 0 (zi2l y)), by decide, rfl, rfl, Or.inl ⟨rfl, y, ys_s _ _ _ _, hq _ (fun a ha => ys_r _ ha)⟩⟩
  · obtain ⟨J1, L1, rfl, k, hk, hw⟩ := q
    simp only [List.mem_cons, List.not_mem_nil, or_false, Prod.mk.injEq] at hk
    rcases hk with ⟨rfl, rfl⟩
    · refine ⟨[], [], 0, 14, 17, 19, 6, 2, rfl, fun z hz => absurd hz List.not_mem_nil, by decide, by decide, xt_4 (j := 78) (by decide +kernel) (by decide +kernel), List.mem_of_getElem? (i := 18) (by decide +kernel), Or.inr ⟨(by decide +kernel), rfl⟩, by decide, fun q hq => by
        simp only [List.mem_cons, List.not_mem_nil, or_false] at hq
        rcases hq with rfl | rfl | rfl | rfl | rfl | rfl <;> exact lsk (by decide) (by first | exact Or.inl (by decide) | exact Or.inr (fun z => absurd (show (1 : Nat) = 2 from z) (by decide))), ?_⟩
      show hJ _ _ _ _ _ _ _ _ _ 19 [(0, .ref 0), (1, .int x1), (2, .int x2), (3, .int x3), (4, .int x4), (5, .ref 552)] [] 553 R (zi J1) (li L1)
      refine hr_iconst (z := 1) (v := nI 1) (by decide +kernel) (by decide) ?_
      exact hr_iret (by decide +kernel) rfl (by decide) (by decide) ⟨1, J1, L1, by decide, rfl, rfl, Or.inr ⟨by decide, hw⟩⟩
abbrev mL_draft : xMe := (yL_draft, cL_draft, 6, some .int, 7, 114)
abbrev hL_draft : List (Nat × Nat × Nat × Nat) := [(0, 11, 14, 13)]
theorem kL_draft : xKH mL_draft hL_draft 4 := ⟨xt_4 (j := 134) rfl (by decide +kernel), xt_4 (j := 133) (by decide +kernel) (by decide +kernel), xt_1 (j := 0) (by decide +kernel) (by decide +kernel), by decide +kernel, by decide +kernel, by decide +kernel⟩
set_option maxHeartbeats 4000000 in
set_option maxRecDepth 100000 in
theorem wr_draft {b : Nat} {dC : Nat → ClassId} {dI : Nat → Nat → Nat} {cA : Nat → ClassId} {ts : Nat → Nat} {l : Launch} {R : Nat → Nat → Option Nat} (hst : l.stackTraces = false) (hR : xRk R) {bd : Int} (hb : 0 ≤ bd ∧ bd + 1300000 ≤ 2000000000) {J : zM} {L : yM} (h : PB bd J L) {x1 : Int32} {x2 : Int64} : xCh (xGm b dC dI cA ts) l mL_draft hL_draft [.ref 0, .int x1, .long x2, .ref 552] (553, R, zi J, li L) 1 6 (WA R (bd) (w_X12_draft x1.toInt x2)) := by
  have cn := v_X11_draft (b := b) (dC := dC) (dI := dI) (cA := cA) (ts := ts) (n := 553) hst (by decide) hR (call_draft (v := x2) h (R32_of x1))
  simp only [oI_of] at cn
  refine xCh.ofJ (by decide) (Nat.le_of_ble_eq_true rfl) ?_
  show hJ _ _ _ _ _ _ _ _ _ 0 [(0, .ref 0), (1, .int x1), (2, .long x2), (4, .ref 552)] [] 553 R (zi J) (li L)
  refine hr_aload (i := 4) (by decide +kernel) 3 rfl ?_
  refine hr_iconst (z := 0) (v := nI 0) (by decide +kernel) (by decide) ?_
  refine hr_aload_n (k := 0) (by decide +kernel) 0 rfl ?_
  refine hr_iload_n (k := 1) (by decide +kernel) 1 rfl ?_
  refine hr_lload_n (k := 2) (by decide +kernel) 2 rfl ?_
  refine hr_callV (st := [.int (nI 0), .ref 552]) mX11_draft 2 [.int x1, .long x2] (idx := 26) (b := 0) (cl := 11) (by decide +kernel) (xt_4 (j := 135) (by decide +kernel) (by decide +kernel)) kX11_draft rfl (by decide) kd_0 (by decide) rfl ⟨by decide, by decide⟩ (Nat.le_of_ble_eq_true rfl) cn (by decide) (by decide) (fun v M q => ?_) (fun E M q => ?_)
  · obtain ⟨y, J1, L1, rfl, rfl, hq⟩ := q
    show hJ _ _ _ _ _ _ _ _ _ 9 [(0, .ref 0), (1, .int x1), (2, .long x2), (4, .ref 552)] [.int (oI y), .int (nI 0), .ref 552] 553 R (zi J1) (li L1)
    refine hr_i2l (by decide +kernel) ?_
    refine hr_lastore (by decide +kernel) (by decide) kd_552 (by rw [show xln (xGm b dC dI cA ts) 552 = 1 from ln_552]; exact nI_in (by decide) (by decide)) ?_
    rw [xu_out]
    refine hr_goto (off := 7) 18 (by decide +kernel) (by decide) ?_
    refine hr_iconst (z := 0) (v := nI 0) (by decide +kernel) (by decide) ?_
    exact hr_iret (by decide +kernel) rfl (by decide) (by decide) ⟨0, J1, (ys L1 552 0 (zi2l y)), by decide, rfl, rfl, Or.inl ⟨rfl, y, ys_s _ _ _ _, hq _ (fun a ha => ys_r _ ha)⟩⟩
  · obtain ⟨J1, L1, rfl, k, hk, hw⟩ := q
    simp only [List.mem_cons, List.not_mem_nil, or_false, Prod.mk.injEq] at hk
    rcases hk with ⟨rfl, rfl⟩
    · refine ⟨[], [], 0, 11, 14, 13, 5, 2, rfl, fun z hz => absurd hz List.not_mem_nil, by decide, by decide, xt_4 (j := 1) (by decide +kernel) (by decide +kernel), List.mem_of_getElem? (i := 11) (by decide +kernel), Or.inr ⟨(by decide +kernel), rfl⟩, by decide, fun q hq => by
        simp only [List.mem_cons, List.not_mem_nil, or_false] at hq
        rcases hq with rfl | rfl | rfl | rfl <;> exact lsk (by decide) (by first | exact Or.inl (by decide) | exact Or.inr (fun z => absurd (show (1 : Nat) = 2 from z) (by decide))), ?_⟩
      show hJ _ _ _ _ _ _ _ _ _ 16 [(0, .ref 0), (1, .int x1), (2, .long x2), (4, .ref 552)] [] 553 R (zi J1) (li L1)
      refine hr_iconst (z := 1) (v := nI 1) (by decide +kernel) (by decide) ?_
      exact hr_iret (by decide +kernel) rfl (by decide) (by decide) ⟨1, J1, L1, by decide, rfl, rfl, Or.inr ⟨by decide, hw⟩⟩
abbrev mL_run : xMe := (yL_run, cL_run, 4, some .int, 11, 277)
abbrev hL_run : List (Nat × Nat × Nat × Nat) := [(0, 9, 12, 13)]
theorem kL_run : xKH mL_run hL_run 3 := ⟨xt_6 (j := 164) rfl (by decide +kernel), xt_6 (j := 163) (by decide +kernel) (by decide +kernel), xt_1 (j := 0) (by decide +kernel) (by decide +kernel), by decide +kernel, by decide +kernel, by decide +kernel⟩
set_option maxHeartbeats 4000000 in
set_option maxRecDepth 100000 in
theorem wr_run {b : Nat} {dC : Nat → ClassId} {dI : Nat → Nat → Nat} {cA : Nat → ClassId} {ts : Nat → Nat} {l : Launch} {R : Nat → Nat → Option Nat} (hst : l.stackTraces = false) (hR : xRk R) {bd : Int} (hb : 0 ≤ bd ∧ bd + 1300000 ≤ 2000000000) {J : zM} {L : yM} (h : PB bd J L) {x1 : Int32} : xCh (xGm b dC dI cA ts) l mL_run hL_run [.ref 0, .int x1, .ref 552] (553, R, zi J, li L) 1 6 (WA R (bd + 1300000) (w_X12_run x1.toInt)) := by
  have cn := v_X11_run (b := b) (dC := dC) (dI := dI) (cA := cA) (ts := ts) (n := 553) hst (by decide) hR (call_run h hb (R32_of x1))
  simp only [oI_of] at cn
  refine xCh.ofJ (by decide) (Nat.le_of_ble_eq_true rfl) ?_
  show hJ _ _ _ _ _ _ _ _ _ 0 [(0, .ref 0), (1, .int x1), (2, .ref 552)] [] 553 R (zi J) (li L)
  refine hr_aload_n (k := 2) (by decide +kernel) 2 rfl ?_
  refine hr_iconst (z := 0) (v := nI 0) (by decide +kernel) (by decide) ?_
  refine hr_aload_n (k := 0) (by decide +kernel) 0 rfl ?_
  refine hr_iload_n (k := 1) (by decide +kernel) 1 rfl ?_
  refine hr_callV (st := [.int (nI 0), .ref 552]) mX11_run 1 [.int x1] (idx := 72) (b := 0) (cl := 11) (by decide +kernel) (xt_6 (j := 165) (by decide +kernel) (by decide +kernel)) kX11_run rfl (by decide) kd_0 (by decide) rfl ⟨by decide, by decide⟩ (Nat.le_of_ble_eq_true rfl) cn (by decide) (by decide) (fun v M q => ?_) (fun E M q => ?_)
  · obtain ⟨y, J1, L1, rfl, rfl, hq⟩ := q
    show hJ _ _ _ _ _ _ _ _ _ 7 [(0, .ref 0), (1, .int x1), (2, .ref 552)] [.int (oI y), .int (nI 0), .ref 552] 553 R (zi J1) (li L1)
    refine hr_i2l (by decide +kernel) ?_
    refine hr_lastore (by decide +kernel) (by decide) kd_552 (by rw [show xln (xGm b dC dI cA ts) 552 = 1 from ln_552]; exact nI_in (by decide) (by decide)) ?_
    rw [xu_out]
    refine hr_goto (off := 6) 15 (by decide +kernel) (by decide) ?_
    refine hr_iconst (z := 0) (v := nI 0) (by decide +kernel) (by decide) ?_
    exact hr_iret (by decide +kernel) rfl (by decide) (by decide) ⟨0, J1, (ys L1 552 0 (zi2l y)), by decide, rfl, rfl, Or.inl ⟨rfl, y, ys_s _ _ _ _, hq _ (fun a ha => ys_r _ ha)⟩⟩
  · obtain ⟨J1, L1, rfl, k, hk, hw⟩ := q
    simp only [List.mem_cons, List.not_mem_nil, or_false, Prod.mk.injEq] at hk
    rcases hk with ⟨rfl, rfl⟩
    · refine ⟨[], [], 0, 9, 12, 13, 3, 1, rfl, fun z hz => absurd hz List.not_mem_nil, by decide, by decide, xt_4 (j := 1) (by decide +kernel) (by decide +kernel), List.mem_of_getElem? (i := 11) (by decide +kernel), Or.inl ⟨3, (by decide +kernel), rfl, rfl⟩, by decide, fun q hq => by
        simp only [List.mem_cons, List.not_mem_nil, or_false] at hq
        rcases hq with rfl | rfl | rfl <;> exact lsk (by decide) (by first | exact Or.inl (by decide) | exact Or.inr (fun z => absurd (show (1 : Nat) = 2 from z) (by decide))), ?_⟩
      show hJ _ _ _ _ _ _ _ _ _ 13 [(0, .ref 0), (1, .int x1), (2, .ref 552)] [] 553 R (zi J1) (li L1)
      refine hr_iconst (z := 1) (v := nI 1) (by decide +kernel) (by decide) ?_
      exact hr_iret (by decide +kernel) rfl (by decide) (by decide) ⟨1, J1, L1, by decide, rfl, rfl, Or.inr ⟨by decide, hw⟩⟩
abbrev mL_inject : xMe := (yL_inject, cL_inject, 4, some .int, 8, 132)
abbrev hL_inject : List (Nat × Nat × Nat × Nat) := [(0, 9, 12, 19)]
theorem kL_inject : xKH mL_inject hL_inject 3 := ⟨xt_6 (j := 156) rfl (by decide +kernel), xt_6 (j := 155) (by decide +kernel) (by decide +kernel), xt_1 (j := 0) (by decide +kernel) (by decide +kernel), by decide +kernel, by decide +kernel, by decide +kernel⟩
set_option maxHeartbeats 4000000 in
set_option maxRecDepth 100000 in
theorem wr_inject {b : Nat} {dC : Nat → ClassId} {dI : Nat → Nat → Nat} {cA : Nat → ClassId} {ts : Nat → Nat} {l : Launch} {R : Nat → Nat → Option Nat} (hst : l.stackTraces = false) (hR : xRk R) {bd : Int} (hb : 0 ≤ bd ∧ bd + 1300000 ≤ 2000000000) {J : zM} {L : yM} (h : PB bd J L) {x1 : Int32} : xCh (xGm b dC dI cA ts) l mL_inject hL_inject [.ref 0, .int x1, .ref 552] (553, R, zi J, li L) 1 6 (WA R (bd) (w_X12_inject x1.toInt)) := by
  have cn := v_X11_inject (b := b) (dC := dC) (dI := dI) (cA := cA) (ts := ts) (n := 553) hst (by decide) hR (call_inject h (R32_of x1))
  simp only [oI_of] at cn
  refine xCh.ofJ (by decide) (Nat.le_of_ble_eq_true rfl) ?_
  show hJ _ _ _ _ _ _ _ _ _ 0 [(0, .ref 0), (1, .int x1), (2, .ref 552)] [] 553 R (zi J) (li L)
  refine hr_aload_n (k := 2) (by decide +kernel) 2 rfl ?_
  refine hr_iconst (z := 0) (v := nI 0) (by decide +kernel) (by decide) ?_
  refine hr_aload_n (k := 0) (by decide +kernel) 0 rfl ?_
  refine hr_iload_n (k := 1) (by decide +kernel) 1 rfl ?_
  refine hr_callV (st := [.int (nI 0), .ref 552]) mX11_inject 1 [.int x1] (idx := 69) (b := 0) (cl := 11) (by decide +kernel) (xt_6 (j := 157) (by decide +kernel) (by decide +kernel)) kX11_inject rfl (by decide) kd_0 (by decide) rfl ⟨by decide, by decide⟩ (Nat.le_of_ble_eq_true rfl) cn (by decide) (by decide) (fun v M q => ?_) (fun E M q => ?_)
  · obtain ⟨y, J1, L1, rfl, rfl, hq⟩ := q
    show hJ _ _ _ _ _ _ _ _ _ 7 [(0, .ref 0), (1, .int x1), (2, .ref 552)] [.int (oI y), .int (nI 0), .ref 552] 553 R (zi J1) (li L1)
    refine hr_i2l (by decide +kernel) ?_
    refine hr_lastore (by decide +kernel) (by decide) kd_552 (by rw [show xln (xGm b dC dI cA ts) 552 = 1 from ln_552]; exact nI_in (by decide) (by decide)) ?_
    rw [xu_out]
    refine hr_goto (off := 6) 15 (by decide +kernel) (by decide) ?_
    refine hr_iconst (z := 0) (v := nI 0) (by decide +kernel) (by decide) ?_
    exact hr_iret (by decide +kernel) rfl (by decide) (by decide) ⟨0, J1, (ys L1 552 0 (zi2l y)), by decide, rfl, rfl, Or.inl ⟨rfl, y, ys_s _ _ _ _, hq _ (fun a ha => ys_r _ ha)⟩⟩
  · obtain ⟨J1, L1, rfl, k, hk, hw⟩ := q
    simp only [List.mem_cons, List.not_mem_nil, or_false, Prod.mk.injEq] at hk
    rcases hk with ⟨rfl, rfl⟩
    · refine ⟨[], [], 0, 9, 12, 19, 3, 1, rfl, fun z hz => absurd hz List.not_mem_nil, by decide, by decide, xt_4 (j := 78) (by decide +kernel) (by decide +kernel), List.mem_of_getElem? (i := 18) (by decide +kernel), Or.inl ⟨3, (by decide +kernel), rfl, rfl⟩, by decide, fun q hq => by
        simp only [List.mem_cons, List.not_mem_nil, or_false] at hq
        rcases hq with rfl | rfl | rfl <;> exact lsk (by decide) (by first | exact Or.inl (by decide) | exact Or.inr (fun z => absurd (show (1 : Nat) = 2 from z) (by decide))), ?_⟩
      show hJ _ _ _ _ _ _ _ _ _ 13 [(0, .ref 0), (1, .int x1), (2, .ref 552)] [] 553 R (zi J1) (li L1)
      refine hr_iconst (z := 1) (v := nI 1) (by decide +kernel) (by decide) ?_
      exact hr_iret (by decide +kernel) rfl (by decide) (by decide) ⟨1, J1, L1, by decide, rfl, rfl, Or.inr ⟨by decide, hw⟩⟩
abbrev mL_gotOctet : xMe := (yL_gotOctet, cL_gotOctet, 6, some .int, 8, 136)
abbrev hL_gotOctet : List (Nat × Nat × Nat × Nat) := [(0, 12, 15, 19)]
theorem kL_gotOctet : xKH mL_gotOctet hL_gotOctet 5 := ⟨xt_6 (j := 186) rfl (by decide +kernel), xt_6 (j := 185) (by decide +kernel) (by decide +kernel), xt_1 (j := 0) (by decide +kernel) (by decide +kernel), by decide +kernel, by decide +kernel, by decide +kernel⟩
set_option maxHeartbeats 4000000 in
set_option maxRecDepth 100000 in
theorem wr_gotOctet {b : Nat} {dC : Nat → ClassId} {dI : Nat → Nat → Nat} {cA : Nat → ClassId} {ts : Nat → Nat} {l : Launch} {R : Nat → Nat → Option Nat} (hst : l.stackTraces = false) (hR : xRk R) {bd : Int} (hb : 0 ≤ bd ∧ bd + 1300000 ≤ 2000000000) {J : zM} {L : yM} (h : PB bd J L) {x1 : Int32} {x2 : Int32} {x3 : Int32} : xCh (xGm b dC dI cA ts) l mL_gotOctet hL_gotOctet [.ref 0, .int x1, .int x2, .int x3, .ref 552] (553, R, zi J, li L) 2 12 (WA R (bd) (w_X12_gotOctet x1.toInt x2.toInt x3.toInt)) := by
  have cn := v_X11_gotOctet (b := b) (dC := dC) (dI := dI) (cA := cA) (ts := ts) (n := 553) hst (by decide) hR (call_gotOctet h (by omega) (R32_of x1) (R32_of x2) (R32_of x3))
  simp only [oI_of] at cn
  refine xCh.ofJ (by decide) (Nat.le_of_ble_eq_true rfl) ?_
  show hJ _ _ _ _ _ _ _ _ _ 0 [(0, .ref 0), (1, .int x1), (2, .int x2), (3, .int x3), (4, .ref 552)] [] 553 R (zi J) (li L)
  refine hr_aload (i := 4) (by decide +kernel) 4 rfl ?_
  refine hr_iconst (z := 0) (v := nI 0) (by decide +kernel) (by decide) ?_
  refine hr_aload_n (k := 0) (by decide +kernel) 0 rfl ?_
  refine hr_iload_n (k := 1) (by decide +kernel) 1 rfl ?_
  refine hr_iload_n (k := 2) (by decide +kernel) 2 rfl ?_
  refine hr_iload_n (k := 3) (by decide +kernel) 3 rfl ?_
  refine hr_callV (st := [.int (nI 0), .ref 552]) mX11_gotOctet 3 [.int x1, .int x2, .int x3] (idx := 81) (b := 0) (cl := 11) (by decide +kernel) (xt_6 (j := 187) (by decide +kernel) (by decide +kernel)) kX11_gotOctet rfl (by decide) kd_0 (by decide) rfl ⟨by decide, by decide⟩ (Nat.le_of_ble_eq_true rfl) cn (by decide) (by decide) (fun v M q => ?_) (fun E M q => ?_)
  · obtain ⟨y, J1, L1, rfl, rfl, hq⟩ := q
    show hJ _ _ _ _ _ _ _ _ _ 10 [(0, .ref 0), (1, .int x1), (2, .int x2), (3, .int x3), (4, .ref 552)] [.int (oI y), .int (nI 0), .ref 552] 553 R (zi J1) (li L1)
    refine hr_i2l (by decide +kernel) ?_
    refine hr_lastore (by decide +kernel) (by decide) kd_552 (by rw [show xln (xGm b dC dI cA ts) 552 = 1 from ln_552]; exact nI_in (by decide) (by decide)) ?_
    rw [xu_out]
    refine hr_goto (off := 7) 19 (by decide +kernel) (by decide) ?_
    refine hr_iconst (z := 0) (v := nI 0) (by decide +kernel) (by decide) ?_
    exact hr_iret (by decide +kernel) rfl (by decide) (by decide) ⟨0, J1, (ys L1 552 0 (zi2l y)), by decide, rfl, rfl, Or.inl ⟨rfl, y, ys_s _ _ _ _, hq _ (fun a ha => ys_r _ ha)⟩⟩
  · obtain ⟨J1, L1, rfl, k, hk, hw⟩ := q
    simp only [List.mem_cons, List.not_mem_nil, or_false, Prod.mk.injEq] at hk
    rcases hk with ⟨rfl, rfl⟩
    · refine ⟨[], [], 0, 12, 15, 19, 5, 2, rfl, fun z hz => absurd hz List.not_mem_nil, by decide, by decide, xt_4 (j := 78) (by decide +kernel) (by decide +kernel), List.mem_of_getElem? (i := 18) (by decide +kernel), Or.inr ⟨(by decide +kernel), rfl⟩, by decide, fun q hq => by
        simp only [List.mem_cons, List.not_mem_nil, or_false] at hq
        rcases hq with rfl | rfl | rfl | rfl | rfl <;> exact lsk (by decide) (by first | exact Or.inl (by decide) | exact Or.inr (fun z => absurd (show (1 : Nat) = 2 from z) (by decide))), ?_⟩
      show hJ _ _ _ _ _ _ _ _ _ 17 [(0, .ref 0), (1, .int x1), (2, .int x2), (3, .int x3), (4, .ref 552)] [] 553 R (zi J1) (li L1)
      refine hr_iconst (z := 1) (v := nI 1) (by decide +kernel) (by decide) ?_
      exact hr_iret (by decide +kernel) rfl (by decide) (by decide) ⟨1, J1, L1, by decide, rfl, rfl, Or.inr ⟨by decide, hw⟩⟩
abbrev mL_secret : xMe := (yL_secret, cL_secret, 6, some .int, 8, 136)
abbrev hL_secret : List (Nat × Nat × Nat × Nat) := [(0, 12, 15, 19)]
theorem kL_secret : xKH mL_secret hL_secret 5 := ⟨xt_6 (j := 194) rfl (by decide +kernel), xt_6 (j := 193) (by decide +kernel) (by decide +kernel), xt_1 (j := 0) (by decide +kernel) (by decide +kernel), by decide +kernel, by decide +kernel, by decide +kernel⟩
set_option maxHeartbeats 4000000 in
set_option maxRecDepth 100000 in
theorem wr_secret {b : Nat} {dC : Nat → ClassId} {dI : Nat → Nat → Nat} {cA : Nat → ClassId} {ts : Nat → Nat} {l : Launch} {R : Nat → Nat → Option Nat} (hst : l.stackTraces = false) (hR : xRk R) {bd : Int} (hb : 0 ≤ bd ∧ bd + 1300000 ≤ 2000000000) {J : zM} {L : yM} (h : PB bd J L) {x1 : Int32} {x2 : Int32} {x3 : Int32} : xCh (xGm b dC dI cA ts) l mL_secret hL_secret [.ref 0, .int x1, .int x2, .int x3, .ref 552] (553, R, zi J, li L) 2 12 (WA R (bd) (w_X12_secret x1.toInt x2.toInt x3.toInt)) := by
  have cn := v_X11_secret (b := b) (dC := dC) (dI := dI) (cA := cA) (ts := ts) (n := 553) hst (by decide) hR (call_secret h (R32_of x1) (R32_of x2) (R32_of x3))
  simp only [oI_of] at cn
  refine xCh.ofJ (by decide) (Nat.le_of_ble_eq_true rfl) ?_
  show hJ _ _ _ _ _ _ _ _ _ 0 [(0, .ref 0), (1, .int x1), (2, .int x2), (3, .int x3), (4, .ref 552)] [] 553 R (zi J) (li L)
  refine hr_aload (i := 4) (by decide +kernel) 4 rfl ?_
  refine hr_iconst (z := 0) (v := nI 0) (by decide +kernel) (by decide) ?_
  refine hr_aload_n (k := 0) (by decide +kernel) 0 rfl ?_
  refine hr_iload_n (k := 1) (by decide +kernel) 1 rfl ?_
  refine hr_iload_n (k := 2) (by decide +kernel) 2 rfl ?_
  refine hr_iload_n (k := 3) (by decide +kernel) 3 rfl ?_
  refine hr_callV (st := [.int (nI 0), .ref 552]) mX11_secret 3 [.int x1, .int x2, .int x3] (idx := 84) (b := 0) (cl := 11) (by decide +kernel) (xt_6 (j := 195) (by decide +kernel) (by decide +kernel)) kX11_secret rfl (by decide) kd_0 (by decide) rfl ⟨by decide, by decide⟩ (Nat.le_of_ble_eq_true rfl) cn (by decide) (by decide) (fun v M q => ?_) (fun E M q => ?_)
  · obtain ⟨y, J1, L1, rfl, rfl, hq⟩ := q
    show hJ _ _ _ _ _ _ _ _ _ 10 [(0, .ref 0), (1, .int x1), (2, .int x2), (3, .int x3), (4, .ref 552)] [.int (oI y), .int (nI 0), .ref 552] 553 R (zi J1) (li L1)
    refine hr_i2l (by decide +kernel) ?_
    refine hr_lastore (by decide +kernel) (by decide) kd_552 (by rw [show xln (xGm b dC dI cA ts) 552 = 1 from ln_552]; exact nI_in (by decide) (by decide)) ?_
    rw [xu_out]
    refine hr_goto (off := 7) 19 (by decide +kernel) (by decide) ?_
    refine hr_iconst (z := 0) (v := nI 0) (by decide +kernel) (by decide) ?_
    exact hr_iret (by decide +kernel) rfl (by decide) (by decide) ⟨0, J1, (ys L1 552 0 (zi2l y)), by decide, rfl, rfl, Or.inl ⟨rfl, y, ys_s _ _ _ _, hq _ (fun a ha => ys_r _ ha)⟩⟩
  · obtain ⟨J1, L1, rfl, k, hk, hw⟩ := q
    simp only [List.mem_cons, List.not_mem_nil, or_false, Prod.mk.injEq] at hk
    rcases hk with ⟨rfl, rfl⟩
    · refine ⟨[], [], 0, 12, 15, 19, 5, 2, rfl, fun z hz => absurd hz List.not_mem_nil, by decide, by decide, xt_4 (j := 78) (by decide +kernel) (by decide +kernel), List.mem_of_getElem? (i := 18) (by decide +kernel), Or.inr ⟨(by decide +kernel), rfl⟩, by decide, fun q hq => by
        simp only [List.mem_cons, List.not_mem_nil, or_false] at hq
        rcases hq with rfl | rfl | rfl | rfl | rfl <;> exact lsk (by decide) (by first | exact Or.inl (by decide) | exact Or.inr (fun z => absurd (show (1 : Nat) = 2 from z) (by decide))), ?_⟩
      show hJ _ _ _ _ _ _ _ _ _ 17 [(0, .ref 0), (1, .int x1), (2, .int x2), (3, .int x3), (4, .ref 552)] [] 553 R (zi J1) (li L1)
      refine hr_iconst (z := 1) (v := nI 1) (by decide +kernel) (by decide) ?_
      exact hr_iret (by decide +kernel) rfl (by decide) (by decide) ⟨1, J1, L1, by decide, rfl, rfl, Or.inr ⟨by decide, hw⟩⟩
abbrev mL_told : xMe := (yL_told, cL_told, 5, some .int, 8, 133)
abbrev hL_told : List (Nat × Nat × Nat × Nat) := [(0, 10, 13, 19)]
theorem kL_told : xKH mL_told hL_told 4 := ⟨xt_6 (j := 202) rfl (by decide +kernel), xt_6 (j := 201) (by decide +kernel) (by decide +kernel), xt_1 (j := 0) (by decide +kernel) (by decide +kernel), by decide +kernel, by decide +kernel, by decide +kernel⟩
set_option maxHeartbeats 4000000 in
set_option maxRecDepth 100000 in
theorem wr_told {b : Nat} {dC : Nat → ClassId} {dI : Nat → Nat → Nat} {cA : Nat → ClassId} {ts : Nat → Nat} {l : Launch} {R : Nat → Nat → Option Nat} (hst : l.stackTraces = false) (hR : xRk R) {bd : Int} (hb : 0 ≤ bd ∧ bd + 1300000 ≤ 2000000000) {J : zM} {L : yM} (h : PB bd J L) {x1 : Int32} {x2 : Int32} : xCh (xGm b dC dI cA ts) l mL_told hL_told [.ref 0, .int x1, .int x2, .ref 552] (553, R, zi J, li L) 2 12 (WA R (bd) (w_X12_told x1.toInt x2.toInt)) := by
  have cn := v_X11_told (b := b) (dC := dC) (dI := dI) (cA := cA) (ts := ts) (n := 553) hst (by decide) hR (call_told h (R32_of x1) (R32_of x2))
  simp only [oI_of] at cn
  refine xCh.ofJ (by decide) (Nat.le_of_ble_eq_true rfl) ?_
  show hJ _ _ _ _ _ _ _ _ _ 0 [(0, .ref 0), (1, .int x1), (2, .int x2), (3, .ref 552)] [] 553 R (zi J) (li L)
  refine hr_aload_n (k := 3) (by decide +kernel) 3 rfl ?_
  refine hr_iconst (z := 0) (v := nI 0) (by decide +kernel) (by decide) ?_
  refine hr_aload_n (k := 0) (by decide +kernel) 0 rfl ?_
  refine hr_iload_n (k := 1) (by decide +kernel) 1 rfl ?_
  refine hr_iload_n (k := 2) (by decide +kernel) 2 rfl ?_
  refine hr_callV (st := [.int (nI 0), .ref 552]) mX11_told 2 [.int x1, .int x2] (idx := 87) (b := 0) (cl := 11) (by decide +kernel) (xt_6 (j := 203) (by decide +kernel) (by decide +kernel)) kX11_told rfl (by decide) kd_0 (by decide) rfl ⟨by decide, by decide⟩ (Nat.le_of_ble_eq_true rfl) cn (by decide) (by decide) (fun v M q => ?_) (fun E M q => ?_)
  · obtain ⟨y, J1, L1, rfl, rfl, hq⟩ := q
    show hJ _ _ _ _ _ _ _ _ _ 8 [(0, .ref 0), (1, .int x1), (2, .int x2), (3, .ref 552)] [.int (oI y), .int (nI 0), .ref 552] 553 R (zi J1) (li L1)
    refine hr_i2l (by decide +kernel) ?_
    refine hr_lastore (by decide +kernel) (by decide) kd_552 (by rw [show xln (xGm b dC dI cA ts) 552 = 1 from ln_552]; exact nI_in (by decide) (by decide)) ?_
    rw [xu_out]
    refine hr_goto (off := 7) 17 (by decide +kernel) (by decide) ?_
    refine hr_iconst (z := 0) (v := nI 0) (by decide +kernel) (by decide) ?_
    exact hr_iret (by decide +kernel) rfl (by decide) (by decide) ⟨0, J1, (ys L1 552 0 (zi2l y)), by decide, rfl, rfl, Or.inl ⟨rfl, y, ys_s _ _ _ _, hq _ (fun a ha => ys_r _ ha)⟩⟩
  · obtain ⟨J1, L1, rfl, k, hk, hw⟩ := q
    simp only [List.mem_cons, List.not_mem_nil, or_false, Prod.mk.injEq] at hk
    rcases hk with ⟨rfl, rfl⟩
    · refine ⟨[], [], 0, 10, 13, 19, 4, 2, rfl, fun z hz => absurd hz List.not_mem_nil, by decide, by decide, xt_4 (j := 78) (by decide +kernel) (by decide +kernel), List.mem_of_getElem? (i := 18) (by decide +kernel), Or.inr ⟨(by decide +kernel), rfl⟩, by decide, fun q hq => by
        simp only [List.mem_cons, List.not_mem_nil, or_false] at hq
        rcases hq with rfl | rfl | rfl | rfl <;> exact lsk (by decide) (by first | exact Or.inl (by decide) | exact Or.inr (fun z => absurd (show (1 : Nat) = 2 from z) (by decide))), ?_⟩
      show hJ _ _ _ _ _ _ _ _ _ 15 [(0, .ref 0), (1, .int x1), (2, .int x2), (3, .ref 552)] [] 553 R (zi J1) (li L1)
      refine hr_iconst (z := 1) (v := nI 1) (by decide +kernel) (by decide) ?_
      exact hr_iret (by decide +kernel) rfl (by decide) (by decide) ⟨1, J1, L1, by decide, rfl, rfl, Or.inr ⟨by decide, hw⟩⟩
abbrev mL_close : xMe := (yL_close, cL_close, 3, some .int, 8, 180)
abbrev hL_close : List (Nat × Nat × Nat × Nat) := [(0, 5, 8, 19), (0, 5, 11, 21)]
theorem kL_close : xKH mL_close hL_close 2 := ⟨xt_5 (j := 78) rfl (by decide +kernel), xt_5 (j := 77) (by decide +kernel) (by decide +kernel), xt_1 (j := 0) (by decide +kernel) (by decide +kernel), by decide +kernel, by decide +kernel, by decide +kernel⟩
set_option maxHeartbeats 4000000 in
set_option maxRecDepth 100000 in
theorem wr_close {b : Nat} {dC : Nat → ClassId} {dI : Nat → Nat → Nat} {cA : Nat → ClassId} {ts : Nat → Nat} {l : Launch} {R : Nat → Nat → Option Nat} (hst : l.stackTraces = false) (hR : xRk R) {bd : Int} (hb : 0 ≤ bd ∧ bd + 1300000 ≤ 2000000000) {J : zM} {L : yM} (h : PB bd J L) {x1 : Int32} : xCh (xGm b dC dI cA ts) l mL_close hL_close [.ref 0, .int x1] (553, R, zi J, li L) 2 12 (WV R (bd) (w_X12_close x1.toInt)) := by
  have cn := v_X11_close (b := b) (dC := dC) (dI := dI) (cA := cA) (ts := ts) (n := 553) hst (by decide) hR (call_close h (R32_of x1))
  simp only [oI_of] at cn
  refine xCh.ofJ (by decide) (Nat.le_of_ble_eq_true rfl) ?_
  show hJ _ _ _ _ _ _ _ _ _ 0 [(0, .ref 0), (1, .int x1)] [] 553 R (zi J) (li L)
  refine hr_aload_n (k := 0) (by decide +kernel) 0 rfl ?_
  refine hr_iload_n (k := 1) (by decide +kernel) 1 rfl ?_
  refine hr_callV (st := []) mX11_close 1 [.int x1] (idx := 41) (b := 0) (cl := 11) (by decide +kernel) (xt_5 (j := 79) (by decide +kernel) (by decide +kernel)) kX11_close rfl (by decide) kd_0 (by decide) rfl ⟨by decide, by decide⟩ (Nat.le_of_ble_eq_true rfl) cn (by decide) (by decide) (fun v M q => ?_) (fun E M q => ?_)
  · obtain ⟨J1, L1, rfl, rfl, hq⟩ := q
    show hJ _ _ _ _ _ _ _ _ _ 5 [(0, .ref 0), (1, .int x1)] [] 553 R (zi J1) (li L1)
    refine hr_goto (off := 9) 14 (by decide +kernel) (by decide) ?_
    refine hr_iconst (z := 0) (v := nI 0) (by decide +kernel) (by decide) ?_
    exact hr_iret (by decide +kernel) rfl (by decide) (by decide) ⟨0, J1, L1, by decide, rfl, rfl, hq⟩
  · obtain ⟨J1, L1, rfl, k, hk, hw⟩ := q
    simp only [List.mem_cons, List.not_mem_nil, or_false, Prod.mk.injEq] at hk
    rcases hk with ⟨rfl, rfl⟩ | ⟨rfl, rfl⟩
    · refine ⟨[], [(0, 5, 11, 21)], 0, 5, 8, 19, 2, 1, rfl, fun z hz => absurd hz List.not_mem_nil, by decide, by decide, xt_4 (j := 78) (by decide +kernel) (by decide +kernel), List.mem_of_getElem? (i := 18) (by decide +kernel), Or.inl ⟨2, (by decide +kernel), rfl, rfl⟩, by decide, fun q hq => by
        simp only [List.mem_cons, List.not_mem_nil, or_false] at hq
        rcases hq with rfl | rfl <;> exact lsk (by decide) (by first | exact Or.inl (by decide) | exact Or.inr (fun z => absurd (show (1 : Nat) = 2 from z) (by decide))), ?_⟩
      show hJ _ _ _ _ _ _ _ _ _ 9 [(0, .ref 0), (1, .int x1)] [] 553 R (zi J1) (li L1)
      refine hr_iconst (z := 1) (v := nI 1) (by decide +kernel) (by decide) ?_
      exact hr_iret (by decide +kernel) rfl (by decide) (by decide) ⟨1, J1, L1, by decide, rfl, rfl, hw⟩
    · refine ⟨[(0, 5, 8, 19)], [], 0, 5, 11, 21, 2, 1, rfl, fun z hz => by
        simp only [List.mem_cons, List.not_mem_nil, or_false] at hz
        rcases hz with rfl
        · exact ⟨by decide, "java/lang/IndexOutOfBoundsException", xt_4 (j := 78) (by decide +kernel) (by decide +kernel), by decide +kernel⟩, by decide, by decide, xt_4 (j := 79) (by decide +kernel) (by decide +kernel), List.mem_of_getElem? (i := 19) (by decide +kernel), Or.inl ⟨2, (by decide +kernel), rfl, rfl⟩, by decide, fun q hq => by
        simp only [List.mem_cons, List.not_mem_nil, or_false] at hq
        rcases hq with rfl | rfl <;> exact lsk (by decide) (by first | exact Or.inl (by decide) | exact Or.inr (fun z => absurd (show (1 : Nat) = 2 from z) (by decide))), ?_⟩
      show hJ _ _ _ _ _ _ _ _ _ 12 [(0, .ref 0), (1, .int x1)] [] 553 R (zi J1) (li L1)
      refine hr_iconst (z := 2) (v := nI 2) (by decide +kernel) (by decide) ?_
      exact hr_iret (by decide +kernel) rfl (by decide) (by decide) ⟨2, J1, L1, by decide, rfl, rfl, hw⟩
abbrev mL_key : xMe := (yL_key, cL_key, 7, some .int, 8, 136)
abbrev hL_key : List (Nat × Nat × Nat × Nat) := [(0, 8, 11, 19), (0, 8, 15, 21)]
theorem kL_key : xKH mL_key hL_key 4 := ⟨xt_4 (j := 77) rfl (by decide +kernel), xt_4 (j := 76) (by decide +kernel) (by decide +kernel), xt_1 (j := 0) (by decide +kernel) (by decide +kernel), by decide +kernel, by decide +kernel, by decide +kernel⟩
set_option maxHeartbeats 4000000 in
set_option maxRecDepth 100000 in
theorem wr_key {b : Nat} {dC : Nat → ClassId} {dI : Nat → Nat → Nat} {cA : Nat → ClassId} {ts : Nat → Nat} {l : Launch} {R : Nat → Nat → Option Nat} (hst : l.stackTraces = false) (hR : xRk R) {bd : Int} (hb : 0 ≤ bd ∧ bd + 1300000 ≤ 2000000000) {J : zM} {L : yM} (h : PB bd J L) {x1 : Int32} {x2 : Int64} {x3 : Int64} : xCh (xGm b dC dI cA ts) l mL_key hL_key [.ref 0, .int x1, .long x2, .long x3] (553, R, zi J, li L) 2 12 (WV R (bd) (w_X12_key x1.toInt x2 x3)) := by
  have cn := v_X11_key (b := b) (dC := dC) (dI := dI) (cA := cA) (ts := ts) (n := 553) hst (by decide) hR (call_key (a := x2) (b := x3) h (R32_of x1))
  simp only [oI_of] at cn
  refine xCh.ofJ (by decide) (Nat.le_of_ble_eq_true rfl) ?_
  show hJ _ _ _ _ _ _ _ _ _ 0 [(0, .ref 0), (1, .int x1), (2, .long x2), (4, .long x3)] [] 553 R (zi J) (li L)
  refine hr_aload_n (k := 0) (by decide +kernel) 0 rfl ?_
  refine hr_iload_n (k := 1) (by decide +kernel) 1 rfl ?_
  refine hr_lload_n (k := 2) (by decide +kernel) 2 rfl ?_
  refine hr_lload (i := 4) (by decide +kernel) 3 rfl ?_
  refine hr_callV (st := []) mX11_key 3 [.int x1, .long x2, .long x3] (idx := 15) (b := 0) (cl := 11) (by decide +kernel) (xt_4 (j := 80) (by decide +kernel) (by decide +kernel)) kX11_key rfl (by decide) kd_0 (by decide) rfl ⟨by decide, by decide⟩ (Nat.le_of_ble_eq_true rfl) cn (by decide) (by decide) (fun v M q => ?_) (fun E M q => ?_)
  · obtain ⟨J1, L1, rfl, rfl, hq⟩ := q
    show hJ _ _ _ _ _ _ _ _ _ 8 [(0, .ref 0), (1, .int x1), (2, .long x2), (4, .long x3)] [] 553 R (zi J1) (li L1)
    refine hr_goto (off := 11) 19 (by decide +kernel) (by decide) ?_
    refine hr_iconst (z := 0) (v := nI 0) (by decide +kernel) (by decide) ?_
    exact hr_iret (by decide +kernel) rfl (by decide) (by decide) ⟨0, J1, L1, by decide, rfl, rfl, hq⟩
  · obtain ⟨J1, L1, rfl, k, hk, hw⟩ := q
    simp only [List.mem_cons, List.not_mem_nil, or_false, Prod.mk.injEq] at hk
    rcases hk with ⟨rfl, rfl⟩ | ⟨rfl, rfl⟩
    · refine ⟨[], [(0, 8, 15, 21)], 0, 8, 11, 19, 6, 2, rfl, fun z hz => absurd hz List.not_mem_nil, by decide, by decide, xt_4 (j := 78) (by decide +kernel) (by decide +kernel), List.mem_of_getElem? (i := 18) (by decide +kernel), Or.inr ⟨(by decide +kernel), rfl⟩, by decide, fun q hq => by
        simp only [List.mem_cons, List.not_mem_nil, or_false] at hq
        rcases hq with rfl | rfl | rfl | rfl <;> exact lsk (by decide) (by first | exact Or.inl (by decide) | exact Or.inr (fun z => absurd (show (1 : Nat) = 2 from z) (by decide))), ?_⟩
      show hJ _ _ _ _ _ _ _ _ _ 13 [(0, .ref 0), (1, .int x1), (2, .long x2), (4, .long x3)] [] 553 R (zi J1) (li L1)
      refine hr_iconst (z := 1) (v := nI 1) (by decide +kernel) (by decide) ?_
      exact hr_iret (by decide +kernel) rfl (by decide) (by decide) ⟨1, J1, L1, by decide, rfl, rfl, hw⟩
    · refine ⟨[(0, 8, 11, 19)], [], 0, 8, 15, 21, 6, 2, rfl, fun z hz => by
        simp only [List.mem_cons, List.not_mem_nil, or_false] at hz
        rcases hz with rfl
        · exact ⟨by decide, "java/lang/IndexOutOfBoundsException", xt_4 (j := 78) (by decide +kernel) (by decide +kernel), by decide +kernel⟩, by decide, by decide, xt_4 (j := 79) (by decide +kernel) (by decide +kernel), List.mem_of_getElem? (i := 19) (by decide +kernel), Or.inr ⟨(by decide +kernel), rfl⟩, by decide, fun q hq => by
        simp only [List.mem_cons, List.not_mem_nil, or_false] at hq
        rcases hq with rfl | rfl | rfl | rfl <;> exact lsk (by decide) (by first | exact Or.inl (by decide) | exact Or.inr (fun z => absurd (show (1 : Nat) = 2 from z) (by decide))), ?_⟩
      show hJ _ _ _ _ _ _ _ _ _ 17 [(0, .ref 0), (1, .int x1), (2, .long x2), (4, .long x3)] [] 553 R (zi J1) (li L1)
      refine hr_iconst (z := 2) (v := nI 2) (by decide +kernel) (by decide) ?_
      exact hr_iret (by decide +kernel) rfl (by decide) (by decide) ⟨2, J1, L1, by decide, rfl, rfl, hw⟩
abbrev mL_name : xMe := (yL_name, cL_name, 7, some .int, 8, 136)
abbrev hL_name : List (Nat × Nat × Nat × Nat) := [(0, 8, 11, 19), (0, 8, 15, 21)]
theorem kL_name : xKH mL_name hL_name 4 := ⟨xt_4 (j := 127) rfl (by decide +kernel), xt_4 (j := 126) (by decide +kernel) (by decide +kernel), xt_1 (j := 0) (by decide +kernel) (by decide +kernel), by decide +kernel, by decide +kernel, by decide +kernel⟩
set_option maxHeartbeats 4000000 in
set_option maxRecDepth 100000 in
theorem wr_name {b : Nat} {dC : Nat → ClassId} {dI : Nat → Nat → Nat} {cA : Nat → ClassId} {ts : Nat → Nat} {l : Launch} {R : Nat → Nat → Option Nat} (hst : l.stackTraces = false) (hR : xRk R) {bd : Int} (hb : 0 ≤ bd ∧ bd + 1300000 ≤ 2000000000) {J : zM} {L : yM} (h : PB bd J L) {x1 : Int32} {x2 : Int64} {x3 : Int64} : xCh (xGm b dC dI cA ts) l mL_name hL_name [.ref 0, .int x1, .long x2, .long x3] (553, R, zi J, li L) 2 12 (WV R (bd) (w_X12_name x1.toInt x2 x3)) := by
  have cn := v_X11_name (b := b) (dC := dC) (dI := dI) (cA := cA) (ts := ts) (n := 553) hst (by decide) hR (call_name (a := x2) (b := x3) h (R32_of x1))
  simp only [oI_of] at cn
  refine xCh.ofJ (by decide) (Nat.le_of_ble_eq_true rfl) ?_
  show hJ _ _ _ _ _ _ _ _ _ 0 [(0, .ref 0), (1, .int x1), (2, .long x2), (4, .long x3)] [] 553 R (zi J) (li L)
  refine hr_aload_n (k := 0) (by decide +kernel) 0 rfl ?_
  refine hr_iload_n (k := 1) (by decide +kernel) 1 rfl ?_
  refine hr_lload_n (k := 2) (by decide +kernel) 2 rfl ?_
  refine hr_lload (i := 4) (by decide +kernel) 3 rfl ?_
  refine hr_callV (st := []) mX11_name 3 [.int x1, .long x2, .long x3] (idx := 23) (b := 0) (cl := 11) (by decide +kernel) (xt_4 (j := 128) (by decide +kernel) (by decide +kernel)) kX11_name rfl (by decide) kd_0 (by decide) rfl ⟨by decide, by decide⟩ (Nat.le_of_ble_eq_true rfl) cn (by decide) (by decide) (fun v M q => ?_) (fun E M q => ?_)
  · obtain ⟨J1, L1, rfl, rfl, hq⟩ := q
    show hJ _ _ _ _ _ _ _ _ _ 8 [(0, .ref 0), (1, .int x1), (2, .long x2), (4, .long x3)] [] 553 R (zi J1) (li L1)
    refine hr_goto (off := 11) 19 (by decide +kernel) (by decide) ?_
    refine hr_iconst (z := 0) (v := nI 0) (by decide +kernel) (by decide) ?_
    exact hr_iret (by decide +kernel) rfl (by decide) (by decide) ⟨0, J1, L1, by decide, rfl, rfl, hq⟩
  · obtain ⟨J1, L1, rfl, k, hk, hw⟩ := q
    simp only [List.mem_cons, List.not_mem_nil, or_false, Prod.mk.injEq] at hk
    rcases hk with ⟨rfl, rfl⟩ | ⟨rfl, rfl⟩
    · refine ⟨[], [(0, 8, 15, 21)], 0, 8, 11, 19, 6, 2, rfl, fun z hz => absurd hz List.not_mem_nil, by decide, by decide, xt_4 (j := 78) (by decide +kernel) (by decide +kernel), List.mem_of_getElem? (i := 18) (by decide +kernel), Or.inr ⟨(by decide +kernel), rfl⟩, by decide, fun q hq => by
        simp only [List.mem_cons, List.not_mem_nil, or_false] at hq
        rcases hq with rfl | rfl | rfl | rfl <;> exact lsk (by decide) (by first | exact Or.inl (by decide) | exact Or.inr (fun z => absurd (show (1 : Nat) = 2 from z) (by decide))), ?_⟩
      show hJ _ _ _ _ _ _ _ _ _ 13 [(0, .ref 0), (1, .int x1), (2, .long x2), (4, .long x3)] [] 553 R (zi J1) (li L1)
      refine hr_iconst (z := 1) (v := nI 1) (by decide +kernel) (by decide) ?_
      exact hr_iret (by decide +kernel) rfl (by decide) (by decide) ⟨1, J1, L1, by decide, rfl, rfl, hw⟩
    · refine ⟨[(0, 8, 11, 19)], [], 0, 8, 15, 21, 6, 2, rfl, fun z hz => by
        simp only [List.mem_cons, List.not_mem_nil, or_false] at hz
        rcases hz with rfl
        · exact ⟨by decide, "java/lang/IndexOutOfBoundsException", xt_4 (j := 78) (by decide +kernel) (by decide +kernel), by decide +kernel⟩, by decide, by decide, xt_4 (j := 79) (by decide +kernel) (by decide +kernel), List.mem_of_getElem? (i := 19) (by decide +kernel), Or.inr ⟨(by decide +kernel), rfl⟩, by decide, fun q hq => by
        simp only [List.mem_cons, List.not_mem_nil, or_false] at hq
        rcases hq with rfl | rfl | rfl | rfl <;> exact lsk (by decide) (by first | exact Or.inl (by decide) | exact Or.inr (fun z => absurd (show (1 : Nat) = 2 from z) (by decide))), ?_⟩
      show hJ _ _ _ _ _ _ _ _ _ 17 [(0, .ref 0), (1, .int x1), (2, .long x2), (4, .long x3)] [] 553 R (zi J1) (li L1)
      refine hr_iconst (z := 2) (v := nI 2) (by decide +kernel) (by decide) ?_
      exact hr_iret (by decide +kernel) rfl (by decide) (by decide) ⟨2, J1, L1, by decide, rfl, rfl, hw⟩
abbrev mL_greet : xMe := (yL_greet, cL_greet, 3, some .int, 8, 131)
abbrev hL_greet : List (Nat × Nat × Nat × Nat) := [(0, 8, 11, 21), (0, 8, 14, 13)]
theorem kL_greet : xKH mL_greet hL_greet 2 := ⟨xt_4 (j := 143) rfl (by decide +kernel), xt_4 (j := 142) (by decide +kernel) (by decide +kernel), xt_1 (j := 0) (by decide +kernel) (by decide +kernel), by decide +kernel, by decide +kernel, by decide +kernel⟩
set_option maxHeartbeats 4000000 in
set_option maxRecDepth 100000 in
theorem wr_greet {b : Nat} {dC : Nat → ClassId} {dI : Nat → Nat → Nat} {cA : Nat → ClassId} {ts : Nat → Nat} {l : Launch} {R : Nat → Nat → Option Nat} (hst : l.stackTraces = false) (hR : xRk R) {bd : Int} (hb : 0 ≤ bd ∧ bd + 1300000 ≤ 2000000000) {J : zM} {L : yM} (h : PB bd J L) : xCh (xGm b dC dI cA ts) l mL_greet hL_greet [.ref 0, .ref 552] (553, R, zi J, li L) 2 12 (WA R (bd) w_X12_greet) := by
  have cn := v_X11_greet (b := b) (dC := dC) (dI := dI) (cA := cA) (ts := ts) (n := 553) hst (by decide) hR (call_greet h)
  refine xCh.ofJ (by decide) (Nat.le_of_ble_eq_true rfl) ?_
  show hJ _ _ _ _ _ _ _ _ _ 0 [(0, .ref 0), (1, .ref 552)] [] 553 R (zi J) (li L)
  refine hr_aload_n (k := 1) (by decide +kernel) 1 rfl ?_
  refine hr_iconst (z := 0) (v := nI 0) (by decide +kernel) (by decide) ?_
  refine hr_aload_n (k := 0) (by decide +kernel) 0 rfl ?_
  refine hr_callV (st := [.int (nI 0), .ref 552]) mX11_greet 0 [] (idx := 30) (b := 0) (cl := 11) (by decide +kernel) (xt_4 (j := 144) (by decide +kernel) (by decide +kernel)) kX11_greet rfl (by decide) kd_0 (by decide) rfl ⟨by decide, by decide⟩ (Nat.le_of_ble_eq_true rfl) cn (by decide) (by decide) (fun v M q => ?_) (fun E M q => ?_)
  · obtain ⟨y, J1, L1, rfl, rfl, hq⟩ := q
    show hJ _ _ _ _ _ _ _ _ _ 6 [(0, .ref 0), (1, .ref 552)] [.int (oI y), .int (nI 0), .ref 552] 553 R (zi J1) (li L1)
    refine hr_i2l (by decide +kernel) ?_
    refine hr_lastore (by decide +kernel) (by decide) kd_552 (by rw [show xln (xGm b dC dI cA ts) 552 = 1 from ln_552]; exact nI_in (by decide) (by decide)) ?_
    rw [xu_out]
    refine hr_goto (off := 9) 17 (by decide +kernel) (by decide) ?_
    refine hr_iconst (z := 0) (v := nI 0) (by decide +kernel) (by decide) ?_
    exact hr_iret (by decide +kernel) rfl (by decide) (by decide) ⟨0, J1, (ys L1 552 0 (zi2l y)), by decide, rfl, rfl, Or.inl ⟨rfl, y, ys_s _ _ _ _, hq _ (fun a ha => ys_r _ ha)⟩⟩
  · obtain ⟨J1, L1, rfl, k, hk, hw⟩ := q
    simp only [List.mem_cons, List.not_mem_nil, or_false, Prod.mk.injEq] at hk
    rcases hk with ⟨rfl, rfl⟩ | ⟨rfl, rfl⟩
    · refine ⟨[], [(0, 8, 14, 13)], 0, 8, 11, 21, 2, 1, rfl, fun z hz => absurd hz List.not_mem_nil, by decide, by decide, xt_4 (j := 79) (by decide +kernel) (by decide +kernel), List.mem_of_getElem? (i := 19) (by decide +kernel), Or.inl ⟨2, (by decide +kernel), rfl, rfl⟩, by decide, fun q hq => by
        simp only [List.mem_cons, List.not_mem_nil, or_false] at hq
        rcases hq with rfl | rfl <;> exact lsk (by decide) (by first | exact Or.inl (by decide) | exact Or.inr (fun z => absurd (show (1 : Nat) = 2 from z) (by decide))), ?_⟩
      show hJ _ _ _ _ _ _ _ _ _ 12 [(0, .ref 0), (1, .ref 552)] [] 553 R (zi J1) (li L1)
      refine hr_iconst (z := 1) (v := nI 1) (by decide +kernel) (by decide) ?_
      exact hr_iret (by decide +kernel) rfl (by decide) (by decide) ⟨1, J1, L1, by decide, rfl, rfl, Or.inr ⟨by decide, hw⟩⟩
    · refine ⟨[(0, 8, 11, 21)], [], 0, 8, 14, 13, 2, 1, rfl, fun z hz => by
        simp only [List.mem_cons, List.not_mem_nil, or_false] at hz
        rcases hz with rfl
        · exact ⟨by decide, "java/lang/IllegalStateException", xt_4 (j := 79) (by decide +kernel) (by decide +kernel), by decide +kernel⟩, by decide, by decide, xt_4 (j := 1) (by decide +kernel) (by decide +kernel), List.mem_of_getElem? (i := 11) (by decide +kernel), Or.inl ⟨2, (by decide +kernel), rfl, rfl⟩, by decide, fun q hq => by
        simp only [List.mem_cons, List.not_mem_nil, or_false] at hq
        rcases hq with rfl | rfl <;> exact lsk (by decide) (by first | exact Or.inl (by decide) | exact Or.inr (fun z => absurd (show (1 : Nat) = 2 from z) (by decide))), ?_⟩
      show hJ _ _ _ _ _ _ _ _ _ 15 [(0, .ref 0), (1, .ref 552)] [] 553 R (zi J1) (li L1)
      refine hr_iconst (z := 2) (v := nI 2) (by decide +kernel) (by decide) ?_
      exact hr_iret (by decide +kernel) rfl (by decide) (by decide) ⟨2, J1, L1, by decide, rfl, rfl, Or.inr ⟨by decide, hw⟩⟩
abbrev mL_write : xMe := (yL_write, cL_write, 4, some .int, 8, 183)
abbrev hL_write : List (Nat × Nat × Nat × Nat) := [(0, 9, 12, 19), (0, 9, 15, 21), (0, 9, 18, 13)]
theorem kL_write : xKH mL_write hL_write 3 := ⟨xt_5 (j := 61) rfl (by decide +kernel), xt_5 (j := 60) (by decide +kernel) (by decide +kernel), xt_1 (j := 0) (by decide +kernel) (by decide +kernel), by decide +kernel, by decide +kernel, by decide +kernel⟩
set_option maxHeartbeats 4000000 in
set_option maxRecDepth 100000 in
theorem wr_write {b : Nat} {dC : Nat → ClassId} {dI : Nat → Nat → Nat} {cA : Nat → ClassId} {ts : Nat → Nat} {l : Launch} {R : Nat → Nat → Option Nat} (hst : l.stackTraces = false) (hR : xRk R) {bd : Int} (hb : 0 ≤ bd ∧ bd + 1300000 ≤ 2000000000) {J : zM} {L : yM} (h : PB bd J L) {x1 : Int32} : xCh (xGm b dC dI cA ts) l mL_write hL_write [.ref 0, .int x1, .ref 552] (553, R, zi J, li L) 3 18 (WA R (bd) (w_X12_write x1.toInt)) := by
  have cn := v_X11_write (b := b) (dC := dC) (dI := dI) (cA := cA) (ts := ts) (n := 553) hst (by decide) hR (call_write h (R32_of x1))
  simp only [oI_of] at cn
  refine xCh.ofJ (by decide) (Nat.le_of_ble_eq_true rfl) ?_
  show hJ _ _ _ _ _ _ _ _ _ 0 [(0, .ref 0), (1, .int x1), (2, .ref 552)] [] 553 R (zi J) (li L)
  refine hr_aload_n (k := 2) (by decide +kernel) 2 rfl ?_
  refine hr_iconst (z := 0) (v := nI 0) (by decide +kernel) (by decide) ?_
  refine hr_aload_n (k := 0) (by decide +kernel) 0 rfl ?_
  refine hr_iload_n (k := 1) (by decide +kernel) 1 rfl ?_
  refine hr_callV (st := [.int (nI 0), .ref 552]) mX11_write 1 [.int x1] (idx := 37) (b := 0) (cl := 11) (by decide +kernel) (xt_5 (j := 62) (by decide +kernel) (by decide +kernel)) kX11_write rfl (by decide) kd_0 (by decide) rfl ⟨by decide, by decide⟩ (Nat.le_of_ble_eq_true rfl) cn (by decide) (by decide) (fun v M q => ?_) (fun E M q => ?_)
  · obtain ⟨y, J1, L1, rfl, rfl, hq⟩ := q
    show hJ _ _ _ _ _ _ _ _ _ 7 [(0, .ref 0), (1, .int x1), (2, .ref 552)] [.int (oI y), .int (nI 0), .ref 552] 553 R (zi J1) (li L1)
    refine hr_i2l (by decide +kernel) ?_
    refine hr_lastore (by decide +kernel) (by decide) kd_552 (by rw [show xln (xGm b dC dI cA ts) 552 = 1 from ln_552]; exact nI_in (by decide) (by decide)) ?_
    rw [xu_out]
    refine hr_goto (off := 12) 21 (by decide +kernel) (by decide) ?_
    refine hr_iconst (z := 0) (v := nI 0) (by decide +kernel) (by decide) ?_
    exact hr_iret (by decide +kernel) rfl (by decide) (by decide) ⟨0, J1, (ys L1 552 0 (zi2l y)), by decide, rfl, rfl, Or.inl ⟨rfl, y, ys_s _ _ _ _, hq _ (fun a ha => ys_r _ ha)⟩⟩
  · obtain ⟨J1, L1, rfl, k, hk, hw⟩ := q
    simp only [List.mem_cons, List.not_mem_nil, or_false, Prod.mk.injEq] at hk
    rcases hk with ⟨rfl, rfl⟩ | ⟨rfl, rfl⟩ | ⟨rfl, rfl⟩
    · refine ⟨[], [(0, 9, 15, 21), (0, 9, 18, 13)], 0, 9, 12, 19, 3, 1, rfl, fun z hz => absurd hz List.not_mem_nil, by decide, by decide, xt_4 (j := 78) (by decide +kernel) (by decide +kernel), List.mem_of_getElem? (i := 18) (by decide +kernel), Or.inl ⟨3, (by decide +kernel), rfl, rfl⟩, by decide, fun q hq => by
        simp only [List.mem_cons, List.not_mem_nil, or_false] at hq
        rcases hq with rfl | rfl | rfl <;> exact lsk (by decide) (by first | exact Or.inl (by decide) | exact Or.inr (fun z => absurd (show (1 : Nat) = 2 from z) (by decide))), ?_⟩
      show hJ _ _ _ _ _ _ _ _ _ 13 [(0, .ref 0), (1, .int x1), (2, .ref 552)] [] 553 R (zi J1) (li L1)
      refine hr_iconst (z := 1) (v := nI 1) (by decide +kernel) (by decide) ?_
      exact hr_iret (by decide +kernel) rfl (by decide) (by decide) ⟨1, J1, L1, by decide, rfl, rfl, Or.inr ⟨by decide, hw⟩⟩
    · refine ⟨[(0, 9, 12, 19)], [(0, 9, 18, 13)], 0, 9, 15, 21, 3, 1, rfl, fun z hz => by
        simp only [List.mem_cons, List.not_mem_nil, or_false] at hz
        rcases hz with rfl
        · exact ⟨by decide, "java/lang/IndexOutOfBoundsException", xt_4 (j := 78) (by decide +kernel) (by decide +kernel), by decide +kernel⟩, by decide, by decide, xt_4 (j := 79) (by decide +kernel) (by decide +kernel), List.mem_of_getElem? (i := 19) (by decide +kernel), Or.inl ⟨3, (by decide +kernel), rfl, rfl⟩, by decide, fun q hq => by
        simp only [List.mem_cons, List.not_mem_nil, or_false] at hq
        rcases hq with rfl | rfl | rfl <;> exact lsk (by decide) (by first | exact Or.inl (by decide) | exact Or.inr (fun z => absurd (show (1 : Nat) = 2 from z) (by decide))), ?_⟩
      show hJ _ _ _ _ _ _ _ _ _ 16 [(0, .ref 0), (1, .int x1), (2, .ref 552)] [] 553 R (zi J1) (li L1)
      refine hr_iconst (z := 2) (v := nI 2) (by decide +kernel) (by decide) ?_
      exact hr_iret (by decide +kernel) rfl (by decide) (by decide) ⟨2, J1, L1, by decide, rfl, rfl, Or.inr ⟨by decide, hw⟩⟩
    · refine ⟨[(0, 9, 12, 19), (0, 9, 15, 21)], [], 0, 9, 18, 13, 3, 1, rfl, fun z hz => by
        simp only [List.mem_cons, List.not_mem_nil, or_false] at hz
        rcases hz with rfl | rfl
        · exact ⟨by decide, "java/lang/IndexOutOfBoundsException", xt_4 (j := 78) (by decide +kernel) (by decide +kernel), by decide +kernel⟩
        · exact ⟨by decide, "java/lang/IllegalStateException", xt_4 (j := 79) (by decide +kernel) (by decide +kernel), by decide +kernel⟩, by decide, by decide, xt_4 (j := 1) (by decide +kernel) (by decide +kernel), List.mem_of_getElem? (i := 11) (by decide +kernel), Or.inl ⟨3, (by decide +kernel), rfl, rfl⟩, by decide, fun q hq => by
        simp only [List.mem_cons, List.not_mem_nil, or_false] at hq
        rcases hq with rfl | rfl | rfl <;> exact lsk (by decide) (by first | exact Or.inl (by decide) | exact Or.inr (fun z => absurd (show (1 : Nat) = 2 from z) (by decide))), ?_⟩
      show hJ _ _ _ _ _ _ _ _ _ 19 [(0, .ref 0), (1, .int x1), (2, .ref 552)] [] 553 R (zi J1) (li L1)
      refine hr_iconst (z := 3) (v := nI 3) (by decide +kernel) (by decide) ?_
      exact hr_iret (by decide +kernel) rfl (by decide) (by decide) ⟨3, J1, L1, by decide, rfl, rfl, Or.inr ⟨by decide, hw⟩⟩
abbrev mL_begin : xMe := (yL_begin, cL_begin, 3, some .int, 9, 220)
abbrev hL_begin : List (Nat × Nat × Nat × Nat) := [(0, 8, 11, 21)]
theorem kL_begin : xKH mL_begin hL_begin 2 := ⟨xt_4 (j := 152) rfl (by decide +kernel), xt_4 (j := 151) (by decide +kernel) (by decide +kernel), xt_1 (j := 0) (by decide +kernel) (by decide +kernel), by decide +kernel, by decide +kernel, by decide +kernel⟩
set_option maxHeartbeats 4000000 in
set_option maxRecDepth 100000 in
theorem wr_begin {b : Nat} {dC : Nat → ClassId} {dI : Nat → Nat → Nat} {cA : Nat → ClassId} {ts : Nat → Nat} {l : Launch} {R : Nat → Nat → Option Nat} (hst : l.stackTraces = false) (hR : xRk R) {bd : Int} (hb : 0 ≤ bd ∧ bd + 1300000 ≤ 2000000000) {J : zM} {L : yM} (h : PB bd J L) : xCh (xGm b dC dI cA ts) l mL_begin hL_begin [.ref 0, .ref 552] (553, R, zi J, li L) 1 6 (WA R (bd) w_X12_begin) := by
  have cn := v_X11_begin (b := b) (dC := dC) (dI := dI) (cA := cA) (ts := ts) (n := 553) hst (by decide) hR (call_begin h)
  refine xCh.ofJ (by decide) (Nat.le_of_ble_eq_true rfl) ?_
  show hJ _ _ _ _ _ _ _ _ _ 0 [(0, .ref 0), (1, .ref 552)] [] 553 R (zi J) (li L)
  refine hr_aload_n (k := 1) (by decide +kernel) 1 rfl ?_
  refine hr_iconst (z := 0) (v := nI 0) (by decide +kernel) (by decide) ?_
  refine hr_aload_n (k := 0) (by decide +kernel) 0 rfl ?_
  refine hr_callV (st := [.int (nI 0), .ref 552]) mX11_begin 0 [] (idx := 34) (b := 0) (cl := 11) (by decide +kernel) (xt_4 (j := 153) (by decide +kernel) (by decide +kernel)) kX11_begin rfl (by decide) kd_0 (by decide) rfl ⟨by decide, by decide⟩ (Nat.le_of_ble_eq_true rfl) cn (by decide) (by decide) (fun v M q => ?_) (fun E M q => ?_)
  · obtain ⟨y, J1, L1, rfl, rfl, hq⟩ := q
    show hJ _ _ _ _ _ _ _ _ _ 6 [(0, .ref 0), (1, .ref 552)] [.int (oI y), .int (nI 0), .ref 552] 553 R (zi J1) (li L1)
    refine hr_i2l (by decide +kernel) ?_
    refine hr_lastore (by decide +kernel) (by decide) kd_552 (by rw [show xln (xGm b dC dI cA ts) 552 = 1 from ln_552]; exact nI_in (by decide) (by decide)) ?_
    rw [xu_out]
    refine hr_goto (off := 6) 14 (by decide +kernel) (by decide) ?_
    refine hr_iconst (z := 0) (v := nI 0) (by decide +kernel) (by decide) ?_
    exact hr_iret (by decide +kernel) rfl (by decide) (by decide) ⟨0, J1, (ys L1 552 0 (zi2l y)), by decide, rfl, rfl, Or.inl ⟨rfl, y, ys_s _ _ _ _, hq _ (fun a ha => ys_r _ ha)⟩⟩
  · obtain ⟨J1, L1, rfl, k, hk, hw⟩ := q
    simp only [List.mem_cons, List.not_mem_nil, or_false, Prod.mk.injEq] at hk
    rcases hk with ⟨rfl, rfl⟩
    · refine ⟨[], [], 0, 8, 11, 21, 2, 1, rfl, fun z hz => absurd hz List.not_mem_nil, by decide, by decide, xt_4 (j := 79) (by decide +kernel) (by decide +kernel), List.mem_of_getElem? (i := 19) (by decide +kernel), Or.inl ⟨2, (by decide +kernel), rfl, rfl⟩, by decide, fun q hq => by
        simp only [List.mem_cons, List.not_mem_nil, or_false] at hq
        rcases hq with rfl | rfl <;> exact lsk (by decide) (by first | exact Or.inl (by decide) | exact Or.inr (fun z => absurd (show (1 : Nat) = 2 from z) (by decide))), ?_⟩
      show hJ _ _ _ _ _ _ _ _ _ 12 [(0, .ref 0), (1, .ref 552)] [] 553 R (zi J1) (li L1)
      refine hr_iconst (z := 1) (v := nI 1) (by decide +kernel) (by decide) ?_
      exact hr_iret (by decide +kernel) rfl (by decide) (by decide) ⟨1, J1, L1, by decide, rfl, rfl, Or.inr ⟨by decide, hw⟩⟩
abbrev mL_make : xMe := (yL_make, cL_make, 4, some .int, 7, 115)
abbrev hL_make : List (Nat × Nat × Nat × Nat) := [(0, 6, 9, 13)]
theorem kL_make : xKH mL_make hL_make 3 := ⟨xt_4 (j := 0) rfl (by decide +kernel), xt_3 (j := 239) (by decide +kernel) (by decide +kernel), xt_1 (j := 0) (by decide +kernel) (by decide +kernel), by decide +kernel, by decide +kernel, by decide +kernel⟩
set_option maxHeartbeats 4000000 in
set_option maxRecDepth 100000 in
theorem wr_make {b : Nat} {dC : Nat → ClassId} {dI : Nat → Nat → Nat} {cA : Nat → ClassId} {ts : Nat → Nat} {l : Launch} {R : Nat → Nat → Option Nat} (hst : l.stackTraces = false) (hR : xRk R) {bd : Int} (hb : 0 ≤ bd ∧ bd + 1300000 ≤ 2000000000) {J : zM} {L : yM} (h : PB bd J L) {x1 : Int32} {x2 : Int32} : xCh (xGm b dC dI cA ts) l mL_make hL_make [.ref 0, .int x1, .int x2] (553, R, zi J, li L) 1 6 (WV R (bd) (w_X12_make x1.toInt x2.toInt)) := by
  have cn := v_X11_make (b := b) (dC := dC) (dI := dI) (cA := cA) (ts := ts) (n := 553) hst (by decide) hR (call_make h hb.1 (R32_of x1) (R32_of x2))
  simp only [oI_of] at cn
  refine xCh.ofJ (by decide) (Nat.le_of_ble_eq_true rfl) ?_
  show hJ _ _ _ _ _ _ _ _ _ 0 [(0, .ref 0), (1, .int x1), (2, .int x2)] [] 553 R (zi J) (li L)
  refine hr_aload_n (k := 0) (by decide +kernel) 0 rfl ?_
  refine hr_iload_n (k := 1) (by decide +kernel) 1 rfl ?_
  refine hr_iload_n (k := 2) (by decide +kernel) 2 rfl ?_
  refine hr_callV (st := []) mX11_make 2 [.int x1, .int x2] (idx := 7) (b := 0) (cl := 11) (by decide +kernel) (xt_4 (j := 2) (by decide +kernel) (by decide +kernel)) kX11_make rfl (by decide) kd_0 (by decide) rfl ⟨by decide, by decide⟩ (Nat.le_of_ble_eq_true rfl) cn (by decide) (by decide) (fun v M q => ?_) (fun E M q => ?_)
  · obtain ⟨J1, L1, rfl, rfl, hq⟩ := q
    show hJ _ _ _ _ _ _ _ _ _ 6 [(0, .ref 0), (1, .int x1), (2, .int x2)] [] 553 R (zi J1) (li L1)
    refine hr_goto (off := 6) 12 (by decide +kernel) (by decide) ?_
    refine hr_iconst (z := 0) (v := nI 0) (by decide +kernel) (by decide) ?_
    exact hr_iret (by decide +kernel) rfl (by decide) (by decide) ⟨0, J1, L1, by decide, rfl, rfl, hq⟩
  · obtain ⟨J1, L1, rfl, k, hk, hw⟩ := q
    simp only [List.mem_cons, List.not_mem_nil, or_false, Prod.mk.injEq] at hk
    rcases hk with ⟨rfl, rfl⟩
    · refine ⟨[], [], 0, 6, 9, 13, 3, 1, rfl, fun z hz => absurd hz List.not_mem_nil, by decide, by decide, xt_4 (j := 1) (by decide +kernel) (by decide +kernel), List.mem_of_getElem? (i := 11) (by decide +kernel), Or.inl ⟨3, (by decide +kernel), rfl, rfl⟩, by decide, fun q hq => by
        simp only [List.mem_cons, List.not_mem_nil, or_false] at hq
        rcases hq with rfl | rfl | rfl <;> exact lsk (by decide) (by first | exact Or.inl (by decide) | exact Or.inr (fun z => absurd (show (1 : Nat) = 2 from z) (by decide))), ?_⟩
      show hJ _ _ _ _ _ _ _ _ _ 10 [(0, .ref 0), (1, .int x1), (2, .int x2)] [] 553 R (zi J1) (li L1)
      refine hr_iconst (z := 1) (v := nI 1) (by decide +kernel) (by decide) ?_
      exact hr_iret (by decide +kernel) rfl (by decide) (by decide) ⟨1, J1, L1, by decide, rfl, rfl, hw⟩
