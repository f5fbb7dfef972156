/-! the model: a record -/
def MD (J : zM) (o : Int) (r : List Int) : Prop := 0 ≤ o ∧ o + (r.length : Int) = J 491 72 ∧ J 491 72 ≤ 500 ∧ sg J 551 o r.length = r ∧ oct r
theorem MD.get {J : zM} {o : Int} {r : List Int} (h : MD J o r) {i : Nat} (hi : i < r.length) : J 551 (o + (i : Int)) = r.getD i 0 := by
  rw [← sg_get (J := J) (a := 551) (i := o) hi, h.2.2.2.1]
theorem MD.fr {J J' : zM} {o : Int} {r : List Int} (h : MD J o r) (h1 : J' 491 72 = J 491 72) (h4 : J' 551 = J 551) : MD J' o r := ⟨h.1, by rw [h1]; exact h.2.1, by rw [h1]; exact h.2.2.1, by rw [sg_row h4]; exact h.2.2.2.1, h.2.2.2.2⟩
/-- a row's octets copied to another's beginning -/
def CP (a b : Nat) (off x : Int) (J J1 : zM) : Prop := (∀ k, 0 ≤ k → k < x → J1 b k = J a (off + k)) ∧ zF (fun c => c = b) J J1
theorem cp_by {a b : Nat} {off n : Int} {J : zM} {L : yM} {F : (Int → zM → yM → Prop) → Int → zM → yM → Prop} (hab : a ≠ b) (hn : 0 ≤ n) (step : ∀ x J1 (K : Int → zM → yM → Prop), 0 ≤ x → x < n → CP a b off x J J1 → (∀ J2, J2 = zs J1 b x (J1 a (off + x)) → K (x + 1) J2 L) → F K x J1 L) (fin : ∀ J1 (K : Int → zM → yM → Prop), CP a b off n J J1 → F K n J1 L) : zl_z F 0 J L := by
  refine zl_z.by (fun m x J' L' => (m : Int) = n - x ∧ 0 ≤ x ∧ L' = L ∧ CP a b off x J J') ?_ n.toNat 0 J L ⟨by omega, by omega, rfl, fun k p q => absurd p (by omega), fun _ _ => rfl⟩
  rintro m x J1 L1 K ⟨hm, hx, rfl, c⟩ hK
  by_cases q : x < n
  · refine step x J1 K hx q c (fun J2 e2 => hK (m - 1) (x + 1) J2 L1 (by omega) ⟨by omega, by omega, rfl, fun k p w => ?_, fun d hd => ?_⟩)
    · rw [e2]
      by_cases u : k = x
      · rw [u, zs_s, c.2 a hab]
      · rw [zs_n _ (Or.inr u)]; exact c.1 k p (by omega)
    · rw [e2, zs_r _ hd]; exact c.2 d hd
  · have : x = n := by omega
    subst this
    exact fin J1 K c
theorem CP.sg {a b : Nat} {off n : Int} {J J1 : zM} {l : List Int} {c : Nat} (h : CP a b off n J J1) (hc : (c : Int) = n) (hl : sg J a off c = l) : sg J1 b 0 c = l := by
  rw [← hl]
  refine sg_cong (fun j hj => ?_)
  rw [show (0 : Int) + (j : Int) = (j : Int) by omega]
  exact h.1 _ (by omega) (by omega)
/-- scratch of a record -/
abbrev SCM (a : Nat) : Prop := (497 ≤ a ∧ a ≤ 502) ∨ a = 508 ∨ a = 516 ∨ a = 550
abbrev SCT (k : Int) : Prop := k = 13 ∨ k = 70
theorem mV_ms {bd s : Int} {A : SA} {J J' : zM} {L : yM} (hs : s01 s) (h : MS s J L A) (ai : AI bd s A) (f : mF SCM SCT J J') : MS s J' L A ∧ MO s J L J' L := by
  have h30 := m30 ai.dg h
  exact h.scr hs ai.dg ai.ll f (fun a q => by clear h f ai h30; unfold SCM at q; unfold scr; omega) (fun k q => by clear h f ai h30; unfold SCT at q; unfold scT; omega) (by rw [f.2 30 (by decide)]; exact h30)
theorem CP.mV {b : Nat} {a : Nat} {off n : Int} {J J1 : zM} (h : CP a b off n J J1) (hb : SCM b) (hb2 : b ≠ 491) : mF SCM SCT J J1 := ⟨fun c hc _ => h.2 c (fun q => hc (by rw [q]; exact hb)), fun k _ => by rw [h.2 491 (fun q => hb2 q.symm)]⟩
/-- the KEYS of the model -/
theorem m_keys {s ep : Int} {A : SA} {J : zM} {L : yM} (hs : s01 s) (h : MS s J L A) (hep : 2 ≤ ep ∧ ep ≤ 3) (h13 : ep ≤ aZ A 13) : sg J 492 (1024 * s + 256 + 64 * (sW s ep : Int)) 32 = aY A (16 + sW s ep) ∧ sg J 492 (1024 * s + 256 + 64 * (sW s ep : Int) + 32) 32 = aY A (20 + sW s ep) := by
  have w := sW_b hs hep
  obtain ⟨k2, k3, -⟩ := h.2.2.2.2.2.2.2.2.1.2
  by_cases c : ep = 2
  · have q := (k2 (by omega)).2.2 (sW s ep) (by omega)
    exact q.2
  · have q := k3 (by omega) (sW s ep) (by omega) (by omega)
    exact q.2
theorem sW_key {s ep : Int} (hs : s01 s) (hep : 2 ≤ ep ∧ ep ≤ 3) : 1024 * s + 256 + 64 * (2 * (ep - 2) + 1 - s) = 1024 * s + 256 + 64 * (sW s ep : Int) := by
  have w := sW_b hs hep
  omega
theorem sW_key_b {s ep : Int} (hs : s01 s) (hep : 2 ≤ ep ∧ ep ≤ 3) : 0 ≤ 1024 * s + 256 + 64 * (sW s ep : Int) ∧ 1024 * s + 256 + 64 * (sW s ep : Int) + 64 ≤ 2048 := by
  have w := sW_b hs hep
  omega
theorem AIy_key {bd s : Int} {A : SA} {k : Nat} (ai : AI bd s A) (h : 10 ≤ k ∧ k < 24) : (aY A k).length = 32 ∧ oct (aY A k) := ai.2.1.2.2.2.2.2.2 k h.1 h.2
/-- TAGS compared -/
theorem cmp8 {off : Int} {u v : List Int} {J : zM} {L : yM} {F : (Int → Int → zM → yM → Prop) → Int → Int → zM → yM → Prop} (hu : sg J 500 0 8 = u) (hv : sg J 551 off 8 = v) (step : ∀ x y (K : Int → Int → zM → yM → Prop), 0 ≤ y → y < 8 → (x = 0 ∨ x = 1) → K (if J 500 y = J 551 (off + y) then x else 0) (y + 1) J L → F K x y J L) (fin : ∀ (K : Int → Int → zM → yM → Prop), F K (if u = v then 1 else 0) 8 J L) : zl_zz F 1 0 J L := by
  refine zl_zz.by (fun m x y J' L' => (m : Int) = 8 - y ∧ 0 ≤ y ∧ L' = L ∧ J' = J ∧ x = (if sg J 500 0 y.toNat = sg J 551 off y.toNat then 1 else 0)) ?_ 8 1 0 J L ⟨by omega, by omega, rfl, rfl, (if_pos rfl).symm⟩
  rintro m x y J1 L1 K ⟨hm, hy, rfl, rfl, hx⟩ hK
  by_cases q : y < 8
  · refine step x y K hy q (by rw [hx]; split <;> omega) (hK (m - 1) _ (y + 1) J1 L1 (by omega) ⟨by omega, by omega, rfl, rfl, ?_⟩)
    rw [show (y + 1).toNat = y.toNat + 1 by omega, sg_succ, sg_succ, show (0 : Int) + (y.toNat : Int) = y by omega, show ((y.toNat : Nat) : Int) = y by omega, hx]
    by_cases c : J1 500 y = J1 551 (off + y)
    · rw [if_pos c, c]
      by_cases d : sg J1 500 0 y.toNat = sg J1 551 off y.toNat
      · rw [if_pos d, d, if_pos rfl]
      · rw [if_neg d, if_neg (fun w => d (List.append_inj_left w (by rw [sg_len, sg_len])))]
    · rw [if_neg c, if_neg (fun w => c (by
        have := List.append_inj_right w (by rw [sg_len, sg_len])
        exact (List.cons.inj this).1))]
  · have e : y = 8 := by omega
    subst e
    have hx : x = (if sg J1 500 0 8 = sg J1 551 off 8 then 1 else 0) := hx
    rw [hu, hv] at hx
    rw [hx]
    exact fin K
