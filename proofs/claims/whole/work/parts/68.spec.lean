/-! what a side keeps to -/
def kfA (s : Int) (A : SA) (ep : Int) : List Int := aY A (16 + (2 * (ep - 2) + s).toNat)
def mfA (s : Int) (A : SA) (ep : Int) : List Int := aY A (20 + (2 * (ep - 2) + s).toNat)
def netOk (N : List (List Int)) : Prop := N.length ≤ 60 ∧ ∀ d ∈ N, oct d ∧ 0 < d.length ∧ d.length ≤ 500
abbrev LGT : Type := List (Int × Int × Nat × Int × Int)
def logOk (many : Nat) (B : Nat → List Int) (lg : LGT) : Prop := ∀ q ∈ lg, ep3 q.1 ∧ (0 ≤ q.2.1 ∧ q.2.1 ≤ 65535) ∧ q.2.2.1 < many ∧ 0 ≤ q.2.2.2.1 ∧ 0 ≤ q.2.2.2.2 ∧ q.2.2.2.1 + q.2.2.2.2 ≤ ((B q.2.2.1).length : Int)
def flOk (many : Nat) (K N : Nat → Int) (B : Nat → List Int) : Prop := many ≤ 3 ∧ (∀ f, f < many → kOk (K f) ∧ (0 ≤ N f ∧ N f < 256) ∧ 0 < (B f).length ∧ oct (B f) ∧ (B f).length ≤ 157) ∧ fs B many ≤ 204
def tOk (many : Nat) (B : Nat → List Int) (mtu : Int) (t : FS) : Prop := netOk t.1 ∧ (∀ ep, ep3 ep → 0 ≤ t.2.2.1 ep ∧ t.2.2.1 ep ≤ 65536) ∧ (oct t.2.2.2.1 ∧ (t.2.2.2.1.length : Int) ≤ mtu) ∧ logOk many B t.2.2.2.2
theorem oct_cons {x : Int} {l : List Int} : oct (x :: l) ↔ (0 ≤ x ∧ x < 256) ∧ oct l := by
  unfold oct
  constructor
  · intro h
    exact ⟨h x List.mem_cons_self, fun y hy => h y (List.mem_cons_of_mem _ hy)⟩
  · rintro ⟨h1, h2⟩ y hy
    rcases List.mem_cons.mp hy with q | q
    · rw [q]; exact h1
    · exact h2 y q
theorem oct_nil : oct [] := fun _ h => absurd h List.not_mem_nil
theorem oct_take {l : List Int} (h : oct l) (n : Nat) : oct (l.take n) := fun x hx => h x (List.mem_of_mem_take hx)
theorem oct_drop {l : List Int} (h : oct l) (n : Nat) : oct (l.drop n) := fun x hx => h x (List.mem_of_mem_drop hx)
theorem recI_oct {ep type n : Int} {key mask content : List Int} (hep : ep3 ep) (ht : 0 ≤ type ∧ type < 256) (hn : 0 ≤ n ∧ n ≤ 65535) (hc : oct content) (hl : content.length ≤ 500) : oct (recI ep type n key mask content) := by
  have m : ∀ j q, 0 ≤ (mcI mask q).getD j 0 ∧ (mcI mask q).getD j 0 < 256 := fun j q => oct_get (mcI_oct _ _) j
  unfold recI
  split
  · refine oct_app.mpr ⟨?_, hc⟩
    simp only [oct_cons]
    exact ⟨ht, by omega, by omega, by omega, by omega, by omega, oct_nil⟩
  · refine oct_app.mpr ⟨oct_app.mpr ⟨?_, ?_⟩, oct_take (mcI_oct _ _) 8⟩
    · simp only [oct_cons]
      exact ⟨by omega, zxor_oct (by omega) (m _ _), zxor_oct (by omega) (m _ _), by omega, by omega, oct_nil⟩
    · refine sealL_oct (oct_app.mpr ⟨hc, ?_⟩)
      simp only [oct_cons]
      exact ⟨ht, oct_nil⟩
theorem netOk_put {N : List (List Int)} {d : List Int} (h : netOk N) (hd : oct d ∧ 0 < d.length ∧ d.length ≤ 500) : netOk (putN N d) := by
  unfold putN
  split
  · refine ⟨by rw [List.length_append, List.length_singleton]; omega, fun x hx => ?_⟩
    rcases List.mem_append.mp hx with q | q
    · exact h.2 x q
    · rw [List.mem_singleton.mp q]; exact hd
  · exact h
theorem tOk.flush {many : Nat} {B : Nat → List Int} {mtu : Int} {t : FS} (hm : mtu ≤ 500) (hm0 : 0 ≤ mtu) (h : tOk many B mtu t) : tOk many B mtu (flushS t) := by
  unfold flushS
  split
  · exact h
  · rename_i c
    obtain ⟨h1, h2, h3, h4⟩ := h
    have hl : 0 < t.2.2.2.1.length := List.length_pos_iff.mpr c
    exact ⟨netOk_put h1 ⟨h3.1, hl, by omega⟩, h2, ⟨oct_nil, hm0⟩, h4⟩
theorem flushS_dg (t : FS) : (flushS t).2.2.2.1 = [] := by
  unfold flushS
  split
  · assumption
  · rfl
theorem flushS_lg (t : FS) : (flushS t).2.2.2.2 = t.2.2.2.2 := by
  unfold flushS
  split <;> rfl
theorem tOk.put {many : Nat} {B : Nat → List Int} {mtu : Int} {t : FS} {kf mf : Int → List Int} {ep ty : Int} {content : List Int} (h : tOk many B mtu t) (hm : mtu ≤ 500) (hep : ep3 ep) (ht : 0 ≤ ty ∧ ty < 256) (hc : oct content) (hr : (t.2.2.2.1.length : Int) + (content.length : Int) + (if ep = 0 then 6 else 14) ≤ mtu) : tOk many B mtu (putS kf mf ep ty content t) := by
  obtain ⟨h1, h2, h3, h4⟩ := h
  unfold putS
  have hn := h2 ep hep
  split
  · exact ⟨h1, h2, h3, h4⟩
  · rename_i c
    have hr2 : (content.length : Int) ≤ 500 := by split at hr <;> omega
    refine ⟨h1, fun i hi => ?_, ⟨oct_app.mpr ⟨h3.1, recI_oct hep ht ⟨hn.1, by omega⟩ hc (by omega)⟩, ?_⟩, h4⟩
    · show 0 ≤ (if i = ep then t.2.2.1 ep + 1 else t.2.2.1 i) ∧ (if i = ep then t.2.2.1 ep + 1 else t.2.2.1 i) ≤ 65536
      split
      · omega
      · exact h2 i hi
    · show ((t.2.2.2.1 ++ recI ep ty (t.2.2.1 ep) (kf ep) (mf ep) content).length : Int) ≤ mtu
      rw [List.length_append, recI_len]
      split at hr <;> (rename_i q; simp only [q, if_true, if_false]; omega)
theorem putS_lg (kf mf : Int → List Int) (ep ty : Int) (c : List Int) (t : FS) : (putS kf mf ep ty c t).2.2.2.2 = t.2.2.2.2 := by
  unfold putS
  split <;> rfl
theorem frI_oct {kind len num fr cnt : Int} {part : List Int} (h1 : 0 ≤ kind ∧ kind < 256) (h2 : 0 ≤ len ∧ len < 65536) (h3 : 0 ≤ num ∧ num < 256) (h4 : 0 ≤ fr ∧ fr < 65536) (h5 : 0 ≤ cnt ∧ cnt < 65536) (hp : oct part) : oct (frI kind len num fr cnt part) := by
  refine oct_app.mpr ⟨?_, hp⟩
  simp only [oct_cons]
  exact ⟨h1, by omega, by omega, h3, by omega, by omega, by omega, by omega, oct_nil⟩
theorem kOk_oct {k : Int} (h : kOk k) : 0 ≤ k ∧ k < 256 := by unfold kOk at h; omega
theorem fs_idx {B : Nat → List Int} {many : Nat} {at_ : Int} (hm : many ≤ 3) (h0 : 0 ≤ at_) (h : at_ < (fs B many : Int)) : fidx B at_ < many ∧ (fs B (fidx B at_) : Int) ≤ at_ ∧ at_ < (fs B (fidx B at_ + 1) : Int) := by
  have g0 : fs B 0 = 0 := rfl
  have g1 := fs_mono (B := B) (f := 0) (g := 1) (by omega)
  have g2 := fs_mono (B := B) (f := 1) (g := 2) (by omega)
  have g3 := fs_mono (B := B) (f := 2) (g := 3) (by omega)
  have key : fidx B at_ < many := by
    unfold fidx
    have hh : many = 0 ∨ many = 1 ∨ many = 2 ∨ many = 3 := by omega
    split
    · rename_i c
      rcases hh with rfl | rfl | rfl | rfl <;> omega
    · split
      · rename_i c1 c2
        rcases hh with rfl | rfl | rfl | rfl <;> omega
      · rename_i c1 c2
        rcases hh with rfl | rfl | rfl | rfl <;> omega
  refine ⟨key, ?_⟩
  have hf3 : fidx B at_ < 3 := by omega
  unfold fidx at *
  split
  · rename_i c
    exact ⟨by rw [g0]; exact h0, c⟩
  · rename_i c1
    split
    · rename_i c2
      exact ⟨by omega, c2⟩
    · rename_i c2
      rw [if_neg c1, if_neg c2] at key
      have : many = 3 := by omega
      subst this
      exact ⟨by omega, h⟩
section FO
variable {mtu : Int} {kf mf : Int → List Int} {many : Nat} {K N : Nat → Int} {B : Nat → List Int} {ack : Int → Int}
theorem fragS_ok {f : Nat} {at_ : Int} {c : Nat} {t : FS} (hm : mtu ≤ 500) (hF : flOk many K N B) (hf : f < many) (h0 : (fs B f : Int) ≤ at_) (h1 : at_ + (c : Int) ≤ (fs B (f + 1) : Int)) (h : tOk many B mtu t) (hr : (t.2.2.2.1.length : Int) + (c : Int) + hdI (epK (K f)) ≤ mtu) : tOk many B mtu (fragS kf mf K N B f at_ (c : Int) t) ∧ (fragS kf mf K N B f at_ (c : Int) t).2.2.2.2.length ≤ t.2.2.2.2.length + 1 := by
  obtain ⟨k1, k2, k3, k4, k5⟩ := hF.2.1 f hf
  have hfs : fs B (f + 1) = fs B f + (B f).length := rfl
  have hpo : oct (partI (B f) (at_ - (fs B f : Int)).toNat ((c : Int)).toNat) := partI_oct k4
  have hpl : (partI (B f) (at_ - (fs B f : Int)).toNat ((c : Int)).toNat).length = c := by rw [partI_len (by omega)]; omega
  have hfl : (frI (K f) ((B f).length : Int) (N f) (at_ - (fs B f : Int)) (c : Int) (partI (B f) (at_ - (fs B f : Int)).toNat ((c : Int)).toNat)).length = 8 + c := by
    unfold frI
    rw [List.length_append, hpl]
    rfl
  have hp : tOk many B mtu (putS kf mf (epK (K f)) 22 (frI (K f) ((B f).length : Int) (N f) (at_ - (fs B f : Int)) (c : Int) (partI (B f) (at_ - (fs B f : Int)).toNat ((c : Int)).toNat)) t) := by
    refine h.put hm (epK_3 _) (by decide) (frI_oct (kOk_oct k1) (by omega) k2 (by omega) (by omega) hpo) ?_
    rw [hfl]
    unfold hdI at hr
    split at hr <;> (rename_i q; simp only [q, if_true, if_false]; omega)
  unfold fragS logS
  split
  · rw [putS_lg]
    exact ⟨hp, by omega⟩
  · rename_i c9
    obtain ⟨p1, p2, p3, p4⟩ := hp
    rw [putS_lg] at p4
    refine ⟨⟨p1, p2, p3, ?_⟩, ?_⟩
    · show logOk many B ((putS kf mf (epK (K f)) 22 _ t).2.2.2.2 ++ [_])
      rw [putS_lg]
      intro q hq
      rcases List.mem_append.mp hq with u | u
      · exact p4 q u
      · rw [List.mem_singleton.mp u]
        exact ⟨epK_3 _, ⟨(h.2.1 _ (epK_3 _)).1, show t.2.2.1 (epK (K f)) ≤ 65535 by omega⟩, hf, show 0 ≤ at_ - (fs B f : Int) by omega, show (0 : Int) ≤ (c : Int) by omega, show at_ - (fs B f : Int) + (c : Int) ≤ ((B f).length : Int) by omega⟩
    · show ((putS kf mf (epK (K f)) 22 _ t).2.2.2.2 ++ [_]).length ≤ _
      rw [putS_lg, List.length_append]
      exact Nat.le_refl _
theorem flyR_ok (hm : 100 ≤ mtu ∧ mtu ≤ 500) (hF : flOk many K N B) : ∀ (n : Nat) (at_ : Int) (t : FS), 0 ≤ at_ → at_ ≤ (fs B many : Int) → tOk many B mtu t → tOk many B mtu (flyR mtu kf mf many K N B ack n at_ t) ∧ ((flyR mtu kf mf many K N B ack n at_ t).2.2.2.2.length : Int) ≤ (t.2.2.2.2.length : Int) + ((fs B many : Int) - at_) := by
  intro n
  induction n with
  | zero => intro at_ t h0 h1 h; exact ⟨h, by show (t.2.2.2.2.length : Int) ≤ _; omega⟩
  | succ n ih =>
    intro at_ t h0 h1 h
    by_cases c : (fs B many : Int) ≤ at_
    · rw [flyR_end c]
      exact ⟨h, by omega⟩
    · by_cases ca : ack at_ ≠ 0
      · rw [flyR_skip (by omega) ca]
        have q := ih (at_ + 1) t (by omega) (by omega) h
        exact ⟨q.1, by omega⟩
      · have ca' : ack at_ = 0 := Classical.not_not.mp ca
        obtain ⟨g1, g2, g3⟩ := fs_idx hF.1 h0 (by omega : at_ < (fs B many : Int))
        obtain ⟨f, hf⟩ : ∃ f, f = fidx B at_ := ⟨_, rfl⟩
        rw [← hf] at g1 g2 g3
        have hf3 : f < 3 := by have := hF.1; omega
        have hmono := fs_mono (B := B) (f := f + 1) (g := many) (by omega)
        have hh : hdI (epK (K f)) = 14 ∨ hdI (epK (K f)) = 22 := by unfold hdI; split <;> omega
        -- one put from t1
        have put : ∀ t1 : FS, tOk many B mtu t1 → ¬ mtu - (t1.2.2.2.1.length : Int) - hdI (epK (K f)) < 1 → tOk many B mtu (flyR mtu kf mf many K N B ack (n + 1) at_ t1) ∧ ((flyR mtu kf mf many K N B ack (n + 1) at_ t1).2.2.2.2.length : Int) ≤ (t1.2.2.2.2.length : Int) + ((fs B many : Int) - at_) := by
          intro t1 ht1 hs
          rw [flyR_put hf3 g2 g3 (by omega) ca' hs]
          obtain ⟨cc, hcc⟩ : ∃ cc, cc = runL ack at_ (min ((fs B (f + 1) : Int) - at_) (mtu - (t1.2.2.2.1.length : Int) - hdI (epK (K f)))).toNat := ⟨_, rfl⟩
          rw [← hcc]
          have hle : cc ≤ (min ((fs B (f + 1) : Int) - at_) (mtu - (t1.2.2.2.1.length : Int) - hdI (epK (K f)))).toNat := by rw [hcc]; exact runL_le _ _ _
          have hpos : 0 < cc := by rw [hcc]; exact runL_pos ca' (by omega)
          have q := fragS_ok (kf := kf) (mf := mf) (c := cc) hm.2 hF g1 g2 (by omega) ht1 (by omega)
          have r := ih (at_ + (cc : Int)) _ (by omega) (by omega) q.1
          exact ⟨r.1, by have := q.2; omega⟩
        by_cases hs : mtu - (t.2.2.2.1.length : Int) - hdI (epK (K f)) < 1
        · rw [flyR_flush hm.1 hf3 g2 g3 (by omega) ca' hs]
          have q := put (flushS t) (h.flush hm.2 (by omega)) (by rw [flushS_dg]; show ¬ mtu - ((0 : Nat) : Int) - _ < 1; omega)
          rw [flushS_lg] at q
          exact q
        · exact put t h hs
end FO
