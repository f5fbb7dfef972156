/-! FLIGHTS: many MESSAGES with kinds K, numbers N, BODIES B; fs: where they start, one behind the other; ack: which octets are ACKED -/
def fs (B : Nat → List Int) : Nat → Nat
  | 0 => 0
  | f + 1 => fs B f + (B f).length
/-- how many octets side by side are not ACKED, up to n -/
def runL (ack : Int → Int) : Int → Nat → Nat
  | _, 0 => 0
  | at_, n + 1 => if ack at_ = 0 then 1 + runL ack (at_ + 1) n else 0
theorem runL_le (ack : Int → Int) (n : Nat) : ∀ at_, runL ack at_ n ≤ n := by
  induction n with
  | zero => intro _; exact Nat.le_refl _
  | succ n ih =>
    intro at_
    unfold runL
    split
    · have := ih (at_ + 1); omega
    · omega
theorem runL_pos {ack : Int → Int} {at_ : Int} {n : Nat} (h : ack at_ = 0) (hn : 0 < n) : 0 < runL ack at_ n := by
  cases n with
  | zero => omega
  | succ n => unfold runL; rw [if_pos h]; omega
theorem fs_mono {B : Nat → List Int} {f g : Nat} (h : f ≤ g) : fs B f ≤ fs B g := by
  induction g with
  | zero => have : f = 0 := by omega
            subst this; exact Nat.le_refl _
  | succ g ih =>
    by_cases q : f = g + 1
    · subst q; exact Nat.le_refl _
    · have := ih (by omega)
      show fs B f ≤ fs B g + (B g).length
      omega
def XF (e : Nat) (J : zM) (many : Nat) (K N : Nat → Int) (B : Nat → List Int) (ack : Int → Int) : Prop :=
  J (e + 8) 8 = (many : Int) ∧ many ≤ 3 ∧ (∀ f : Nat, f < many → J (e + 11) (f : Int) = K f ∧ J (e + 12) (f : Int) = N f) ∧ (∀ f : Nat, f ≤ many → J (e + 13) (f : Int) = (fs B f : Int)) ∧ fs B many ≤ 204 ∧ (∀ f : Nat, f < many → sg J (e + 9) (fs B f : Int) (B f).length = B f ∧ 0 < (B f).length) ∧ ∀ i : Int, 0 ≤ i → i < (fs B many : Int) → J (e + 10) i = ack i
abbrev cFl (e a : Nat) : Prop := e + 8 ≤ a ∧ a ≤ e + 13
theorem XF.fr {e : Nat} {J J' : zM} {many : Nat} {K N : Nat → Int} {B : Nat → List Int} {ack : Int → Int} (h : XF e J many K N B ack) (hf : ∀ a, a = e + 9 ∨ a = e + 10 ∨ a = e + 11 ∨ a = e + 12 ∨ a = e + 13 → J' a = J a) (h8 : J' (e + 8) 8 = J (e + 8) 8) : XF e J' many K N B ack := by
  unfold XF
  rw [h8, hf (e + 10) (by omega), hf (e + 11) (by omega), hf (e + 12) (by omega), hf (e + 13) (by omega)]
  refine ⟨h.1, h.2.1, h.2.2.1, h.2.2.2.1, h.2.2.2.2.1, fun f hf' => ?_, h.2.2.2.2.2.2⟩
  rw [sg_row (hf (e + 9) (by omega))]
  exact h.2.2.2.2.2.1 f hf'
theorem s_end {e : Nat} {J : zM} {L : yM} {many : Nat} {K N : Nat → Int} {B : Nat → List Int} {ack : Int → Int} {Q : Int → zM → yM → Prop} (h : XF e J many K N B ack) (hQ : Q (fs B many : Int) J L) : w_X2_end e J L Q := by
  obtain ⟨h1, h2, h3, h4, h5, h6, h7⟩ := h
  unfold w_X2_end
  rw [h1, h4 many (Nat.le_refl _)]
  exact ⟨by omega, hQ⟩
theorem s_messageAt {e : Nat} {at_ : Int} {J : zM} {L : yM} {many : Nat} {K N : Nat → Int} {B : Nat → List Int} {ack : Int → Int} {Q : Int → zM → yM → Prop} (h : XF e J many K N B ack) (h0 : 0 ≤ at_) (h1 : at_ < (fs B many : Int)) (hQ : ∀ f : Nat, f < many → (fs B f : Int) ≤ at_ → at_ < (fs B (f + 1) : Int) → Q (f : Int) J L) : w_X2_messageAt e at_ J L Q := by
  obtain ⟨g1, g2, g3, g4, g5, g6, g7⟩ := h
  have hm : 0 < many := by
    rcases Nat.eq_zero_or_pos many with q | q
    · subst q; exact absurd h1 (by show ¬ at_ < ((0 : Nat) : Int); omega)
    · exact q
  unfold w_X2_messageAt
  refine zl_z.by (fun m f J' L' => ∃ fn : Nat, f = (fn : Int) ∧ m + fn = many ∧ fn < many ∧ (fs B fn : Int) ≤ at_ ∧ J' = J ∧ L' = L) ?_ many 0 J L ⟨0, rfl, rfl, hm, by show ((0 : Nat) : Int) ≤ at_; omega, rfl, rfl⟩
  rintro m f J1 L1 KK ⟨fn, rfl, hmf, hfm, hle, rfl, rfl⟩ hK
  rw [g1]
  refine ⟨⟨by omega, by omega⟩, ⟨by omega, by omega⟩, ?_⟩
  by_cases c : (fn : Int) < (many : Int) - 1
  · rw [if_pos c]
    have e1 := g4 (fn + 1) (by omega)
    have hl : fs B (fn + 1) ≤ fs B many := fs_mono (by omega)
    rw [show ((fn + 1 : Nat) : Int) = (fn : Int) + 1 by omega] at e1
    rw [e1]
    refine ⟨⟨by omega, by omega⟩, ⟨by omega, by omega⟩, ⟨by omega, by omega⟩, ?_⟩
    by_cases c2 : at_ < (fs B (fn + 1) : Int)
    · rw [if_pos c2]
      exact hQ fn hfm hle c2
    · rw [if_neg c2]
      exact hK (m - 1) ((fn : Int) + 1) J1 L1 (by omega) ⟨fn + 1, by omega, by omega, by omega, by omega, rfl, rfl⟩
  · rw [if_neg c]
    refine hQ fn hfm hle ?_
    rw [show fn + 1 = many by omega]
    exact h1
theorem s_openRun {e f : Nat} {at_ lim : Int} {J : zM} {L : yM} {many : Nat} {K N : Nat → Int} {B : Nat → List Int} {ack : Int → Int} {Q : Int → zM → yM → Prop} (h : XF e J many K N B ack) (hf : f < many) (h0 : (fs B f : Int) ≤ at_) (h1 : at_ < (fs B (f + 1) : Int)) (hl : -1000 < lim ∧ lim < 1000) (hb : ∀ i, ack i = 0 ∨ ack i = 1) (hQ : Q (runL ack at_ (min ((fs B (f + 1) : Int) - at_) lim).toNat : Int) J L) : w_X2_openRun e at_ (f : Int) lim J L Q := by
  obtain ⟨g1, g2, g3, g4, g5, g6, g7⟩ := h
  have hm : fs B (f + 1) ≤ fs B many := fs_mono (by omega)
  have e1 := g4 (f + 1) (by omega)
  rw [show ((f + 1 : Nat) : Int) = (f : Int) + 1 by omega] at e1
  obtain ⟨n, hn⟩ : ∃ n, n = (min ((fs B (f + 1) : Int) - at_) lim).toNat := ⟨_, rfl⟩
  rw [← hn] at hQ
  have hat : 0 ≤ at_ := by omega
  obtain ⟨Rn, hRn⟩ : ∃ r, r = runL ack at_ n := ⟨_, rfl⟩
  rw [← hRn] at hQ
  unfold w_X2_openRun
  refine zl_z.by (fun m x J' L' => (m : Int) = at_ + n - x ∧ at_ ≤ x ∧ x - at_ + (runL ack x m : Int) = (Rn : Int) ∧ J' = J ∧ L' = L) ?_ n at_ J L ⟨by omega, by omega, by omega, rfl, rfl⟩
  rintro m x J1 L1 KK ⟨hmm, hx, hr, rfl, rfl⟩ hK
  rw [e1]
  refine ⟨⟨by omega, by omega⟩, ⟨by omega, by omega⟩, ⟨by omega, by omega⟩, ?_⟩
  have fin : m = 0 → Q (x - at_) J1 L1 := fun hm0 => by
    subst hm0
    have : x - at_ = (Rn : Int) := by rw [← hr]; unfold runL; omega
    rw [this]
    exact hQ
  by_cases c : x < (fs B (f + 1) : Int)
  · rw [if_pos c]
    refine ⟨⟨by omega, by omega⟩, ?_⟩
    by_cases c2 : x < at_ + lim
    · rw [if_pos c2]
      have ha := g7 x (by omega) (by omega)
      rw [ha]
      have hbx := hb x
      refine ⟨⟨by omega, by omega⟩, ⟨by omega, by omega⟩, ?_⟩
      cases m with
      | zero => exact absurd hmm (by omega)
      | succ m =>
        unfold runL at hr
        by_cases c3 : ack x = 0
        · rw [if_pos c3]
          rw [if_pos c3] at hr
          exact hK m (x + 1) J1 L1 (by omega) ⟨by omega, by omega, by omega, rfl, rfl⟩
        · rw [if_neg c3]
          rw [if_neg c3] at hr
          have : x - at_ = (Rn : Int) := by omega
          rw [this]
          exact hQ
    · rw [if_neg c2]
      exact fin (by omega)
  · rw [if_neg c]
    exact fin (by omega)
