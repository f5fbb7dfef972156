/-! what the Statement gives of the start, as the judgement wants it -/
theorem xws_tbl {w : Cond} (h : w ∈ xws) : w ∈ lw_tbl := (List.mem_filter.mp h).1
theorem wNs : ∀ c, c < 13 → Cond.instantiable (xC c) (xN c) ∈ xws
  | 0, _ => wN0.1
  | 1, _ => wN1.1
  | 2, _ => wN2.1
  | 3, _ => wN3.1
  | 4, _ => wN4.1
  | 5, _ => wN5.1
  | 6, _ => wN6.1
  | 7, _ => wN7.1
  | 8, _ => wN8.1
  | 9, _ => wN9.1
  | 10, _ => wN10.1
  | 11, _ => wN11.1
  | 12, _ => wN12.1
  | c + 13, h => absurd h (by omega)
theorem vwCl_len : vwCl.length = 13 := by decide +kernel
theorem w_cls {s : State} {args : Array Value} (hts : ∀ w ∈ lw_tbl, w.before args s = true) : ∃ F : Nat → ClassId × (Nat → Nat), ∀ (c : Nat) (q : vw_C), vwCl[c]? = some q → u_Kn s q.1 q.2.1 q.2.2 (F c).1 (F c).2 := by
  have hx : ∀ w ∈ xws, w.before args s = true := fun w hw => hts w (xws_tbl hw)
  have h : ∀ c : Nat, ∃ q : ClassId × (Nat → Nat), c < 13 → u_Kn s (xC c) (xT c) (xN c) q.1 q.2 := by
    intro c
    by_cases hc : c < 13
    · obtain ⟨cC, iS, h⟩ := u_known (C := xC c) (T := xT c) (N := xN c) (n := xN c) hx (xcl_in c hc) (hx _ (wNs c hc))
      exact ⟨(cC, iS), fun _ => h⟩
    · exact ⟨(0, fun _ => 0), fun h => absurd h hc⟩
  obtain ⟨F, hF⟩ := Classical.axiomOfChoice h
  refine ⟨F, fun c q hq => ?_⟩
  have hc : c < 13 := by rw [← vwCl_len]; exact (List.getElem?_eq_some_iff.mp hq).1
  have e := xcl_at c hc
  have e2 : q = (xC c, xT c, xN c) := Option.some.inj (hq.symm.trans e)
  subst e2
  exact hF c hc
theorem w_arrP {s : State} {args : Array Value} {ty : FieldType} (h : (Cond.arrayClass ty).before args s = true) (hr : ∀ cA, s.vm.findClass ("[" ++ ty.toString) = some cA → va_RA s cA ty) : ∃ cA, ArrOfT s cA ty ∧ va_RA s cA ty := by
  obtain ⟨cA, kA, comp, h1, h2, h3⟩ := Cond.arrayClass_spec h
  exact ⟨cA, fun n z => ⟨fun k h => (by cases h), kA, h2, comp, h3⟩, hr cA h1⟩
theorem w_arrO {s : State} {args : Array Value} {n : String} (h : (Cond.arrayOver (.object n)).before args s = true) : ∃ cA, ArrOfT s cA (.object n) ∧ va_RA s cA (.object n) := by
  obtain ⟨comp, cA, kA, h1, -, h2, h3, h4⟩ := Cond.arrayOver_spec h
  exact ⟨cA, fun n z => ⟨fun k h => (by cases h), kA, h2, comp, h3⟩, kA, comp, h2, h3, h1, h4⟩
theorem w_arrA {s : State} {args : Array Value} (h : (Cond.arrayOver (.array .int)).before args s = true) : ∃ cA, ArrOfT s cA (.array .int) ∧ va_RA s cA (.array .int) := by
  obtain ⟨comp, cA, kA, h1, h2, h3, h4⟩ := Cond.arrayOver_specA h
  exact ⟨cA, fun n z => ⟨fun k h => (by cases h), kA, h2, comp, h3⟩, h4⟩
theorem tt_1 {w : Cond} {j : Nat} (h : tables_1_1[j]? = some w) : w ∈ lw_tbl := List.mem_append_right _ (by unfold tables_1; exact List.mem_append_left _ (List.mem_of_getElem? h))
theorem tt_2 {w : Cond} {j : Nat} (h : tables_1_2[j]? = some w) : w ∈ lw_tbl := List.mem_append_right _ (by unfold tables_1; exact List.mem_append_right _ (List.mem_append_left _ (List.mem_of_getElem? h)))
theorem tt_3 {w : Cond} {j : Nat} (h : tables_1_3[j]? = some w) : w ∈ lw_tbl := List.mem_append_right _ (by unfold tables_1; exact List.mem_append_right _ (List.mem_append_right _ (List.mem_append_left _ (List.mem_of_getElem? h))))
theorem tt_4 {w : Cond} {j : Nat} (h : tables_1_4[j]? = some w) : w ∈ lw_tbl := List.mem_append_right _ (by unfold tables_1; exact List.mem_append_right _ (List.mem_append_right _ (List.mem_append_right _ (List.mem_append_left _ (List.mem_of_getElem? h)))))
theorem tt_5 {w : Cond} {j : Nat} (h : tables_1_5[j]? = some w) : w ∈ lw_tbl := List.mem_append_right _ (by unfold tables_1; exact List.mem_append_right _ (List.mem_append_right _ (List.mem_append_right _ (List.mem_append_right _ (List.mem_append_left _ (List.mem_of_getElem? h))))))
theorem tt_6 {w : Cond} {j : Nat} (h : tables_1_6[j]? = some w) : w ∈ lw_tbl := List.mem_append_right _ (by unfold tables_1; exact List.mem_append_right _ (List.mem_append_right _ (List.mem_append_right _ (List.mem_append_right _ (List.mem_append_right _ (List.mem_append_left _ (List.mem_of_getElem? h)))))))
theorem tt_7 {w : Cond} {j : Nat} (h : tables_1_7[j]? = some w) : w ∈ lw_tbl := List.mem_append_right _ (by unfold tables_1; exact List.mem_append_right _ (List.mem_append_right _ (List.mem_append_right _ (List.mem_append_right _ (List.mem_append_right _ (List.mem_append_right _ (List.mem_append_left _ (List.mem_of_getElem? h))))))))
theorem tt_8 {w : Cond} {j : Nat} (h : tables_1_8[j]? = some w) : w ∈ lw_tbl := List.mem_append_right _ (by unfold tables_1; exact List.mem_append_right _ (List.mem_append_right _ (List.mem_append_right _ (List.mem_append_right _ (List.mem_append_right _ (List.mem_append_right _ (List.mem_append_right _ (List.mem_append_left _ (List.mem_of_getElem? h)))))))))
theorem tt_9 {w : Cond} {j : Nat} (h : tables_1_9[j]? = some w) : w ∈ lw_tbl := List.mem_append_right _ (by unfold tables_1; exact List.mem_append_right _ (List.mem_append_right _ (List.mem_append_right _ (List.mem_append_right _ (List.mem_append_right _ (List.mem_append_right _ (List.mem_append_right _ (List.mem_append_right _ (List.mem_of_getElem? h)))))))))
theorem xao_tbl : ∀ ty ∈ xao, Cond.arrayOver ty ∈ lw_tbl := by
  unfold xao
  refine List.forall_mem_cons.mpr ⟨tt_1 (j := 35) (by decide +kernel), ?_⟩
  refine List.forall_mem_cons.mpr ⟨tt_1 (j := 37) (by decide +kernel), ?_⟩
  refine List.forall_mem_cons.mpr ⟨tt_2 (j := 101) (by decide +kernel), ?_⟩
  refine List.forall_mem_cons.mpr ⟨tt_1 (j := 137) (by decide +kernel), ?_⟩
  exact fun _ h => absurd h List.not_mem_nil
theorem w_arrs {s : State} {args : Array Value} (hts : ∀ w ∈ lw_tbl, w.before args s = true) : ∃ F : Nat → ClassId, ∀ j, j < 7 → ArrOfT s (F j) (xet (13 + j)) ∧ va_RA s (F j) (xet (13 + j)) := by
  have h : ∀ j : Nat, ∃ cA : ClassId, j < 7 → ArrOfT s cA (xet (13 + j)) ∧ va_RA s cA (xet (13 + j)) := by
    intro j
    match j with
    | 0 => obtain ⟨c, h⟩ := w_arrP (hts _ (xws_tbl wIa)) (fun _ h => h); exact ⟨c, fun _ => h⟩
    | 1 => obtain ⟨c, h⟩ := w_arrP (hts _ (xws_tbl wZa)) (fun _ h => h); exact ⟨c, fun _ => h⟩
    | 2 => obtain ⟨c, h⟩ := w_arrP (hts _ (xws_tbl wLa)) (fun _ h => h); exact ⟨c, fun _ => h⟩
    | 3 => obtain ⟨c, h⟩ := w_arrA (hts _ (xao_tbl _ (by simp [xao]))); exact ⟨c, fun _ => h⟩
    | 4 => obtain ⟨c, h⟩ := w_arrO (hts _ (xao_tbl (.object "LossyPair$Rows") (by simp [xao]))); exact ⟨c, fun _ => h⟩
    | 5 => obtain ⟨c, h⟩ := w_arrO (hts _ (xao_tbl (.object "LossyPair$Side") (by simp [xao]))); exact ⟨c, fun _ => h⟩
    | 6 => obtain ⟨c, h⟩ := w_arrO (hts _ (xao_tbl (.object "LossyPair$Window") (by simp [xao]))); exact ⟨c, fun _ => h⟩
    | j + 7 => exact ⟨0, fun h => absurd h (by omega)⟩
  obtain ⟨F, hF⟩ := Classical.axiomOfChoice h
  exact ⟨F, hF⟩
abbrev gF : List Cond := flatC (Jvm.Cond.and given_1 narrow_1)
abbrev tmS (i : Nat) : Term := .string (xSs.getD i ("", 0, "")).1 (xSs.getD i ("", 0, "")).2.1
abbrev tmV (i : Nat) : Term := .field (tmS i) "java/lang/String" "value" "[B"
abbrev tmF : Term := .static "LossyPair" "FIRST_WORDS" "[I"
abbrev tmK : Term := .static "LossyPair" "ROUND_WORDS" "[I"
def psT : List Nat := [134, 153, 175, 197, 236, 255, 296, 339, 356, 388, 429, 459, 487, 510, 530, 551, 573, 595, 624, 649, 675, 716, 756, 807]
set_option maxRecDepth 100000 in
theorem g_str0 : ∀ i, i < 24 → gF[psT.getD i 0]? = some (Cond.exactly (tmS i) "java/lang/String") ∧ gF[psT.getD i 0 + 1]? = some (Cond.eq (.field (tmS i) "java/lang/String" "coder" "B") (.int 0)) ∧ gF[psT.getD i 0 + 2]? = some (Cond.arrayOf (tmV i) .byte) ∧ gF[psT.getD i 0 + 3]? = some (Cond.eq (.length (tmV i)) (.int (Int32.ofNat (xSl.getD i 0)))) := by decide +kernel
set_option maxRecDepth 100000 in
theorem g_chr0 : ∀ i, i < 24 → ∀ j, j < xSl.getD i 0 → gF[psT.getD i 0 + 4 + j]? = some (Cond.eq (.elem (tmV i) (.int (Int32.ofNat j))) (.int ((xSb.getD i []).getD j 0))) := by decide +kernel
set_option maxRecDepth 100000 in
theorem g_ne0 : ∀ i, i < 24 → ∀ k, k < i → gF[psT.getD i 0 + 4 + xSl.getD i 0 + k]? = some (Cond.not (Cond.eq (tmS k) (tmS i))) := by decide +kernel
theorem g_str : ∀ i, i < 24 → (Cond.exactly (tmS i) "java/lang/String") ∈ gF ∧ (Cond.eq (.field (tmS i) "java/lang/String" "coder" "B") (.int 0)) ∈ gF ∧ (Cond.arrayOf (tmV i) .byte) ∈ gF ∧ (Cond.eq (.length (tmV i)) (.int (Int32.ofNat (xSl.getD i 0)))) ∈ gF := fun i hi => ⟨List.mem_of_getElem? (g_str0 i hi).1, List.mem_of_getElem? (g_str0 i hi).2.1, List.mem_of_getElem? (g_str0 i hi).2.2.1, List.mem_of_getElem? (g_str0 i hi).2.2.2⟩
theorem g_chr : ∀ i, i < 24 → ∀ j, j < xSl.getD i 0 → (Cond.eq (.elem (tmV i) (.int (Int32.ofNat j))) (.int ((xSb.getD i []).getD j 0))) ∈ gF := fun i hi j hj => List.mem_of_getElem? (g_chr0 i hi j hj)
theorem g_ne : ∀ i, i < 24 → ∀ j, j < 24 → i ≠ j → (Cond.not (Cond.eq (tmS i) (tmS j))) ∈ gF ∨ (Cond.not (Cond.eq (tmS j) (tmS i))) ∈ gF := fun i hi j hj hne => by
  rcases Nat.lt_or_gt_of_ne hne with h | h
  · exact Or.inl (List.mem_of_getElem? (g_ne0 j hj i h))
  · exact Or.inr (List.mem_of_getElem? (g_ne0 i hi j h))
set_option maxRecDepth 100000 in
theorem g_tab0 : (∀ j, j < 8 → gF[7 + j]? = some (Cond.eq (.elem tmF (.int (Int32.ofNat j))) (.int (xF8.getD j 0)))) ∧ (∀ j, j < 64 → gF[18 + j]? = some (Cond.eq (.elem tmK (.int (Int32.ofNat j))) (.int (xK64.getD j 0)))) := by decide +kernel
set_option maxRecDepth 100000 in
theorem g_tab : ((Cond.arrayOf tmF .int) ∈ gF ∧ (Cond.eq (.length tmF) (.int (Int32.ofNat 8))) ∈ gF ∧ ∀ j, j < 8 → (Cond.eq (.elem tmF (.int (Int32.ofNat j))) (.int (xF8.getD j 0))) ∈ gF) ∧ ((Cond.arrayOf tmK .int) ∈ gF ∧ (Cond.eq (.length tmK) (.int (Int32.ofNat 64))) ∈ gF ∧ ∀ j, j < 64 → (Cond.eq (.elem tmK (.int (Int32.ofNat j))) (.int (xK64.getD j 0))) ∈ gF) := ⟨⟨List.mem_of_getElem? (i := 5) (by decide +kernel), List.mem_of_getElem? (i := 6) (by decide +kernel), fun j hj => List.mem_of_getElem? (g_tab0.1 j hj)⟩, List.mem_of_getElem? (i := 16) (by decide +kernel), List.mem_of_getElem? (i := 17) (by decide +kernel), fun j hj => List.mem_of_getElem? (g_tab0.2 j hj)⟩
def ncT : List Nat := [132, 117, 103, 118, 102, 133]
set_option maxRecDepth 100000 in
theorem g_nc : ∀ k, k < 6 → gF[ncT.getD k 0]? = some (Cond.not (.castable (xnc.getD k ("", "")).1 (xnc.getD k ("", "")).2)) := by decide +kernel
set_option maxRecDepth 100000 in
theorem g_oth : (Cond.isRef (.static Bundle.tN "UNASSIGNED_STACK" Bundle.steD)) ∈ gF ∧ (Cond.isRef (.static Bundle.tN "SUPPRESSED_SENTINEL" Bundle.listD)) ∈ gF ∧ (Cond.eq (.static "java/lang/String" "COMPACT_STRINGS" "Z") (.int 1)) ∈ gF ∧ (Cond.isRef (.static "jdk/internal/util/Preconditions" "SIOOBE_FORMATTER" "Ljava/util/function/BiFunction;")) ∈ gF ∧ ∀ q ∈ xnc, (Cond.not (.castable q.1 q.2)) ∈ gF := ⟨List.mem_of_getElem? (i := 82) (by decide +kernel), List.mem_of_getElem? (i := 83) (by decide +kernel), List.mem_of_getElem? (i := 84) (by decide +kernel), List.mem_of_getElem? (i := 85) (by decide +kernel), fun q hq => by
  obtain ⟨k, hk, rfl⟩ := List.mem_iff_getElem.mp hq
  have h6 : k < 6 := hk
  have h := g_nc k h6
  rw [show xnc.getD k ("", "") = xnc[k] by rw [List.getD_eq_getElem?_getD, List.getElem?_eq_getElem hk]; rfl] at h
  exact List.mem_of_getElem? h⟩
theorem g_nw : ∀ w ∈ xnw, w ∈ lw_tbl := by
  unfold xnw
  refine List.forall_mem_cons.mpr ⟨tt_1 (j := 40) (by decide +kernel), ?_⟩
  refine List.forall_mem_cons.mpr ⟨tt_1 (j := 111) (by decide +kernel), ?_⟩
  refine List.forall_mem_cons.mpr ⟨tt_1 (j := 166) (by decide +kernel), ?_⟩
  refine List.forall_mem_cons.mpr ⟨tt_1 (j := 237) (by decide +kernel), ?_⟩
  refine List.forall_mem_cons.mpr ⟨tt_2 (j := 55) (by decide +kernel), ?_⟩
  refine List.forall_mem_cons.mpr ⟨tt_2 (j := 81) (by decide +kernel), ?_⟩
  refine List.forall_mem_cons.mpr ⟨tt_2 (j := 190) (by decide +kernel), ?_⟩
  refine List.forall_mem_cons.mpr ⟨tt_3 (j := 45) (by decide +kernel), ?_⟩
  refine List.forall_mem_cons.mpr ⟨tt_3 (j := 165) (by decide +kernel), ?_⟩
  refine List.forall_mem_cons.mpr ⟨tt_3 (j := 171) (by decide +kernel), ?_⟩
  refine List.forall_mem_cons.mpr ⟨tt_3 (j := 217) (by decide +kernel), ?_⟩
  refine List.forall_mem_cons.mpr ⟨tt_4 (j := 8) (by decide +kernel), ?_⟩
  refine List.forall_mem_cons.mpr ⟨tt_4 (j := 9) (by decide +kernel), ?_⟩
  refine List.forall_mem_cons.mpr ⟨tt_4 (j := 10) (by decide +kernel), ?_⟩
  refine List.forall_mem_cons.mpr ⟨tt_4 (j := 11) (by decide +kernel), ?_⟩
  refine List.forall_mem_cons.mpr ⟨tt_4 (j := 12) (by decide +kernel), ?_⟩
  refine List.forall_mem_cons.mpr ⟨tt_4 (j := 13) (by decide +kernel), ?_⟩
  refine List.forall_mem_cons.mpr ⟨tt_4 (j := 14) (by decide +kernel), ?_⟩
  refine List.forall_mem_cons.mpr ⟨tt_4 (j := 90) (by decide +kernel), ?_⟩
  refine List.forall_mem_cons.mpr ⟨tt_4 (j := 110) (by decide +kernel), ?_⟩
  refine List.forall_mem_cons.mpr ⟨tt_4 (j := 182) (by decide +kernel), ?_⟩
  refine List.forall_mem_cons.mpr ⟨tt_4 (j := 187) (by decide +kernel), ?_⟩
  refine List.forall_mem_cons.mpr ⟨tt_4 (j := 195) (by decide +kernel), ?_⟩
  refine List.forall_mem_cons.mpr ⟨tt_5 (j := 194) (by decide +kernel), ?_⟩
  refine List.forall_mem_cons.mpr ⟨tt_6 (j := 62) (by decide +kernel), ?_⟩
  refine List.forall_mem_cons.mpr ⟨tt_6 (j := 63) (by decide +kernel), ?_⟩
  exact fun _ h => absurd h List.not_mem_nil
set_option maxRecDepth 100000 in
theorem g_sr : ∀ i, i < 24 → Cond.stringRef (xSs.getD i ("", 0, "")).1 (xSs.getD i ("", 0, "")).2.1 (xSs.getD i ("", 0, "")).2.2 ∈ lw_tbl
  | 0, _ => tt_4 (j := 47) (by decide +kernel)
  | 1, _ => tt_4 (j := 74) (by decide +kernel)
  | 2, _ => tt_4 (j := 97) (by decide +kernel)
  | 3, _ => tt_4 (j := 117) (by decide +kernel)
  | 4, _ => tt_4 (j := 139) (by decide +kernel)
  | 5, _ => tt_4 (j := 140) (by decide +kernel)
  | 6, _ => tt_4 (j := 148) (by decide +kernel)
  | 7, _ => tt_4 (j := 215) (by decide +kernel)
  | 8, _ => tt_5 (j := 70) (by decide +kernel)
  | 9, _ => tt_5 (j := 71) (by decide +kernel)
  | 10, _ => tt_5 (j := 109) (by decide +kernel)
  | 11, _ => tt_5 (j := 125) (by decide +kernel)
  | 12, _ => tt_6 (j := 73) (by decide +kernel)
  | 13, _ => tt_6 (j := 75) (by decide +kernel)
  | 14, _ => tt_6 (j := 80) (by decide +kernel)
  | 15, _ => tt_6 (j := 81) (by decide +kernel)
  | 16, _ => tt_6 (j := 82) (by decide +kernel)
  | 17, _ => tt_6 (j := 87) (by decide +kernel)
  | 18, _ => tt_6 (j := 92) (by decide +kernel)
  | 19, _ => tt_6 (j := 93) (by decide +kernel)
  | 20, _ => tt_6 (j := 169) (by decide +kernel)
  | 21, _ => tt_6 (j := 191) (by decide +kernel)
  | 22, _ => tt_6 (j := 199) (by decide +kernel)
  | 23, _ => tt_6 (j := 207) (by decide +kernel)
  | i + 24, h => absurd h (by omega)
theorem g_wrd : (∀ i, i < 24 → Cond.stringRef (xSs.getD i ("", 0, "")).1 (xSs.getD i ("", 0, "")).2.1 (xSs.getD i ("", 0, "")).2.2 ∈ lw_tbl) ∧ (∀ w ∈ xnw, w ∈ lw_tbl) ∧ (Cond.laysStatic "LossyPair" "FIRST_WORDS" "[I" ∈ lw_tbl ∧ Cond.laysStatic "LossyPair" "ROUND_WORDS" "[I" ∈ lw_tbl ∧ Cond.initialized "LossyPair" ∈ lw_tbl) ∧ (Cond.laysStatic Bundle.tN "UNASSIGNED_STACK" Bundle.steD ∈ lw_tbl ∧ Cond.laysStatic Bundle.tN "SUPPRESSED_SENTINEL" Bundle.listD ∈ lw_tbl ∧ Cond.initialized Bundle.tN ∈ lw_tbl) ∧ (Cond.laysStatic "java/lang/String" "COMPACT_STRINGS" "Z" ∈ lw_tbl ∧ Cond.initialized "java/lang/String" ∈ lw_tbl) ∧ Cond.laysStatic "jdk/internal/util/Preconditions" "SIOOBE_FORMATTER" "Ljava/util/function/BiFunction;" ∈ lw_tbl ∧ Cond.initialized "jdk/internal/util/Preconditions" ∈ lw_tbl := ⟨g_sr, g_nw, ⟨tt_3 (j := 166) (by decide +kernel), tt_3 (j := 172) (by decide +kernel), tt_1 (j := 1) (by decide +kernel)⟩, ⟨tt_4 (j := 33) (by decide +kernel), tt_4 (j := 35) (by decide +kernel), tt_1 (j := 14) (by decide +kernel)⟩, ⟨tt_4 (j := 229) (by decide +kernel), tt_1 (j := 21) (by decide +kernel)⟩, tt_5 (j := 10) (by decide +kernel), tt_1 (j := 23) (by decide +kernel)⟩
/-- where the things of before lie; the script's words behind them -/
def tsF (t0 t1 fm b L : Nat) (aK aV : Nat → Nat) (xs : Nat → Int32) (k : Nat) : Nat := if k = 0 then t0 else if k = 1 then t1 else if k = 70 then fm else if k = 90 then b else if k = 91 then L else if 1000 ≤ k then (xs (k - 1000)).toUInt32.toNat else if 100 ≤ k then aV (k - 100) else aK (k - 2)
theorem ofNat_w (x : Int32) : Int32.ofNat x.toUInt32.toNat = x := by
  show (UInt32.ofNat x.toUInt32.toNat).toInt32 = x
  rw [UInt32.ofNat_toNat]
  rfl
theorem law_world {s : State} {b L : Nat} {xs : Nat → Int32} (hts : ∀ w ∈ lw_tbl, w.before #[Value.ref b] s = true) (hgv : (Jvm.Cond.and given_1 narrow_1).before #[Value.ref b] s = true) (hX : va_X b L xs s s.heap) (hbl : b < s.heap.size) :
    ∃ (dC : Nat → ClassId) (dI : Nat → Nat → Nat) (cA : Nat → ClassId) (ts : Nat → Nat), va_K (xD (xGm s.heap.size dC dI cA ts)) vwCl (xtys (xGm s.heap.size dC dI cA ts)) s ∧ xSt (xGm s.heap.size dC dI cA ts) s s.heap ∧ ts 90 = b ∧ ts 91 = L := by
  have hg := flat_of_before _ hgv
  have hA : ∀ a : Nat, a < s.heap.size → ¬ (fun q : Nat => s.heap.size ≤ q) a := fun a h => Nat.not_le.mpr h
  obtain ⟨F, hF⟩ := w_cls hts
  obtain ⟨FA, hFA⟩ := w_arrs hts
  obtain ⟨⟨f1, f2, f3⟩, f4, f5, f6⟩ := g_tab
  obtain ⟨o1, o2, o3, o4, o5⟩ := g_oth
  obtain ⟨w1, w2, ⟨w3, w4, w5⟩, ⟨w6, w7, w8⟩, ⟨w9, w10⟩, w11, w12⟩ := g_wrd
  obtain ⟨t0, e0, T0⟩ := va_Tof (A := fun q : Nat => s.heap.size ≤ q) (f := fun j => .int (xF8.getD j 0)) (by decide) (hg _ f1) (va_eqt (hg _ f2)) (fun j hj => va_eqt (hg _ (f3 j hj))) hA
  obtain ⟨t1, e1, T1⟩ := va_Tof (A := fun q : Nat => s.heap.size ≤ q) (f := fun j => .int (xK64.getD j 0)) (by decide) (hg _ f4) (va_eqt (hg _ f5)) (fun j hj => va_eqt (hg _ (f6 j hj))) hA
  have Z0 := va_Zref (A := fun q : Nat => s.heap.size ≤ q) (hts _ w3) (hts _ w5) e0 hA
  have Z1 := va_Zref (A := fun q : Nat => s.heap.size ≤ q) (hts _ w4) (hts _ w5) e1 hA
  have U0 := vx_Zqof (A := fun q : Nat => s.heap.size ≤ q) (hts _ w6) (hts _ w8) (hg _ o1) hA
  have U1 := vx_Zqof (A := fun q : Nat => s.heap.size ≤ q) (hts _ w7) (hts _ w8) (hg _ o2) hA
  have CS := va_Zof (A := fun q : Nat => s.heap.size ≤ q) (hts _ w9) (hts _ w10) (va_eqi (hg _ o3)) hA
  have FM := va_Zqof (A := fun q : Nat => s.heap.size ≤ q) (hts _ w11) (hts _ w12) (hg _ o4) hA
  obtain ⟨aK, aV, S0, SE⟩ := vk_Sof (A := fun q : Nat => s.heap.size ≤ q) (N := 24) (tm := tmS) (len := xSl) (byt := xSb) (fun i hi => by have := (tb_len i hi).2.1; omega) (fun i hi => hg _ (g_str i hi).1) (fun i hi => hg _ (g_str i hi).2.1) (fun i hi => hg _ (g_str i hi).2.2.1) (fun i hi => hg _ (g_str i hi).2.2.2) (fun i hi j hj => hg _ (g_chr i hi j hj)) (fun i j hi hj hne => (g_ne i hi j hj hne).imp (fun h => hg _ h) (fun h => hg _ h)) hA
  obtain ⟨fm, hfm⟩ : ∃ fm : Nat, va_Z "jdk/internal/util/Preconditions" "SIOOBE_FORMATTER" "Ljava/util/function/BiFunction;" .null (fun q : Nat => s.heap.size ≤ q) s s.heap ∨ va_Z "jdk/internal/util/Preconditions" "SIOOBE_FORMATTER" "Ljava/util/function/BiFunction;" (.ref fm) (fun q : Nat => s.heap.size ≤ q) s s.heap := by
    rcases FM with h | ⟨t, h⟩
    · exact ⟨0, Or.inl h⟩
    · exact ⟨t, Or.inr h⟩
  have eK : ∀ i, i < 24 → tsF t0 t1 fm b L aK aV xs (2 + i) = aK i := fun i hi => by
    unfold tsF
    rw [if_neg (by omega), if_neg (by omega), if_neg (by omega), if_neg (by omega), if_neg (by omega), if_neg (by omega), if_neg (by omega), Nat.add_sub_cancel_left]
  have eV : ∀ i, i < 24 → tsF t0 t1 fm b L aK aV xs (100 + i) = aV i := fun i hi => by
    unfold tsF
    rw [if_neg (by omega), if_neg (by omega), if_neg (by omega), if_neg (by omega), if_neg (by omega), if_neg (by omega), if_pos (by omega), Nat.add_sub_cancel_left]
  have eX : ∀ j, Int32.ofNat (tsF t0 t1 fm b L aK aV xs (1000 + j)) = xs j := fun j => by
    unfold tsF
    rw [if_neg (by omega), if_neg (by omega), if_neg (by omega), if_neg (by omega), if_neg (by omega), if_pos (by omega), Nat.add_sub_cancel_left, ofNat_w]
  refine ⟨fun c => (F c).1, fun c => (F c).2, fun k => FA (k - 13), tsF t0 t1 fm b L aK aV xs, ⟨hF, fun k q hk => ?_⟩, ⟨Nat.le_refl _, ⟨Z0, T0⟩, ⟨Z1, T1⟩, ⟨U0, U1⟩, ⟨⟨CS, hfm, ⟨hbl, ?_⟩, fun q hq => va_Nc.of (hg _ (o5 q hq))⟩, ?_, fun i hi => ?_⟩, fun w hw => va_Nw.of (xnw_t w hw) (hts _ (w2 w hw)), fun ty hty => ?_⟩, rfl, rfl⟩
  · have h7 : k < 7 := by
      have := (List.getElem?_eq_some_iff.mp hk).1
      simpa [xtys] using this
    rw [xtys_at k h7] at hk
    cases hk
    have h := hFA k h7
    show ArrOfT s (FA (13 + k - 13)) _ ∧ va_RA s (FA (13 + k - 13)) _
    rw [Nat.add_sub_cancel_left]
    exact h
  · show va_X b L (fun j => Int32.ofNat (tsF t0 t1 fm b L aK aV xs (1000 + j))) s s.heap
    rw [show (fun j => Int32.ofNat (tsF t0 t1 fm b L aK aV xs (1000 + j))) = xs from funext eX]
    exact hX
  · refine ⟨fun i hi => ?_, fun i j hi hj h => ?_⟩
    · show va_O "java/lang/String" (tsF t0 t1 fm b L aK aV xs (2 + i)) _ s s.heap ∧ va_OF "java/lang/String" "coder" "B" (.int 0) (tsF t0 t1 fm b L aK aV xs (2 + i)) _ s s.heap ∧ va_OF "java/lang/String" "value" "[B" (.ref (tsF t0 t1 fm b L aK aV xs (100 + i))) (tsF t0 t1 fm b L aK aV xs (2 + i)) _ s s.heap ∧ va_T .byte (tsF t0 t1 fm b L aK aV xs (100 + i)) _ _ _ s s.heap
      rw [eK i hi, eV i hi]
      exact S0.1 i hi
    · have h : tsF t0 t1 fm b L aK aV xs (2 + i) = tsF t0 t1 fm b L aK aV xs (2 + j) := h
      rw [eK i hi, eK j hj] at h
      exact S0.2 i j hi hj h
  · show vk_R _ _ _ (tsF t0 t1 fm b L aK aV xs (2 + i)) s
    rw [eK i hi]
    exact vk_R.of (hts _ (w1 i hi)) (SE i hi)
  · exact hts _ (xao_tbl ty hty)
