def hend (len : Nat) : Nat := (len + 72) / 64 * 64
/-- the octets as they go through: those of f, 128, 0s, how many bits -/
def hpad (f : Nat → Int32) (len j : Nat) : Int32 := if j < len then f j else if j = len then 128 else if j < hend len - 4 then 0 else us (nI (len * 8)) (nI (24 - 8 * (j - (hend len - 4)))) &&& 255
def hF8 (i : Nat) : Int32 := xF8.getD i 0
def hblk (g : Nat → Int32) : Nat → Nat → Int32
  | 0 => hF8
  | k + 1 => hcmp (hblk g k) (fun j => g (64 * k + j))
def hdig (w : Nat → Int32) (i : Nat) : Int32 := us (w (i / 4)) (nI (24 - 8 * (i % 4))) &&& 255
/-- HASH of the first len of f -/
def hsh (f : Nat → Int32) (len : Nat) : Nat → Int32 := hdig (hblk (hpad f len) (hend len / 64))
def hky (k : Nat → Int32) (kl : Nat) (z : Int32) (j : Nat) : Int32 := if j < kl then k j ^^^ z else z
def hcat (f : Nat → Int32) (m : Nat) (g : Nat → Int32) (j : Nat) : Int32 := if j < m then f j else g (j - m)
/-- MAC of the first len of f by a key of kl octets -/
def hmac (k : Nat → Int32) (kl : Nat) (f : Nat → Int32) (len : Nat) : Nat → Int32 := hsh (hcat (hky k kl 92) 64 (hsh (hcat (hky k kl 54) 64 f) (64 + len))) 96
theorem hW_congr {f g : Nat → Int32} (h : ∀ j, j < 64 → f j = g j) : ∀ k t, t < 16 + k → hW f k t = hW g k t := by
  intro k
  induction k with
  | zero =>
    intro t ht
    show hwd f t = hwd g t
    simp only [hwd]
    rw [h (4 * t) (by omega), h (4 * t + 1) (by omega), h (4 * t + 2) (by omega), h (4 * t + 3) (by omega)]
  | succ k ih =>
    intro t ht
    show (if t = 16 + k then _ else _) = (if t = 16 + k then _ else _)
    by_cases e : t = 16 + k
    · rw [if_pos e, if_pos e, ih k (by omega), ih (k + 1) (by omega), ih (k + 9) (by omega), ih (k + 14) (by omega)]
    · rw [if_neg e, if_neg e, ih t (by omega)]
theorem hcmp_congr {s t f g : Nat → Int32} (h1 : ∀ i, i < 8 → s i = t i) (h2 : ∀ j, j < 64 → f j = g j) : ∀ i, i < 8 → hcmp s f i = hcmp t g i := by
  have e : hst s = hst t := by simp only [hst, h1 0 (by omega), h1 1 (by omega), h1 2 (by omega), h1 3 (by omega), h1 4 (by omega), h1 5 (by omega), h1 6 (by omega), h1 7 (by omega)]
  intro i hi
  unfold hcmp
  rw [e, hrs_w (hst t) 64 (fun q hq => hW_congr h2 48 q (by omega))]
  rcases (show i = 0 ∨ i = 1 ∨ i = 2 ∨ i = 3 ∨ i = 4 ∨ i = 5 ∨ i = 6 ∨ i = 7 by omega) with rfl | rfl | rfl | rfl | rfl | rfl | rfl | rfl <;> simp only [hadd, h1 _ (by omega : (0:Nat) < 8), h1 1 (by omega), h1 2 (by omega), h1 3 (by omega), h1 4 (by omega), h1 5 (by omega), h1 6 (by omega), h1 7 (by omega)]
theorem hblk_congr {f g : Nat → Int32} : ∀ k, (∀ j, j < 64 * k → f j = g j) → ∀ i, i < 8 → hblk f k i = hblk g k i := by
  intro k
  induction k with
  | zero => intro _ i _; rfl
  | succ k ih =>
    intro h i hi
    exact hcmp_congr (ih (fun j hj => h j (by omega))) (fun j hj => h (64 * k + j) (by omega)) i hi
theorem hdig_congr {u w : Nat → Int32} (h : ∀ i, i < 8 → u i = w i) {i : Nat} (hi : i < 32) : hdig u i = hdig w i := by
  unfold hdig
  rw [h (i / 4) (by omega)]
theorem hend_ge (len : Nat) : len + 9 ≤ hend len := by unfold hend; omega
theorem hend_le (len : Nat) : hend len ≤ len + 72 := by unfold hend; omega
theorem hend_div (len : Nat) : 64 * (hend len / 64) = hend len := by unfold hend; omega
theorem hpad_congr {f g : Nat → Int32} {len : Nat} (h : ∀ j, j < len → f j = g j) (j : Nat) : hpad f len j = hpad g len j := by
  unfold hpad
  by_cases e : j < len
  · rw [if_pos e, if_pos e, h j e]
  · rw [if_neg e, if_neg e]
theorem hsh_congr {f g : Nat → Int32} {len : Nat} (h : ∀ j, j < len → f j = g j) {i : Nat} (hi : i < 32) : hsh f len i = hsh g len i :=
  hdig_congr (hblk_congr _ (fun j _ => hpad_congr h j)) hi
theorem hmac_congr {k k' f g : Nat → Int32} {kl len : Nat} (hk : ∀ j, j < kl → k j = k' j) (h : ∀ j, j < len → f j = g j) {i : Nat} (hi : i < 32) : hmac k kl f len i = hmac k' kl g len i := by
  have hy : ∀ z j, hky k kl z j = hky k' kl z j := by
    intro z j
    unfold hky
    by_cases e : j < kl
    · rw [if_pos e, if_pos e, hk j e]
    · rw [if_neg e, if_neg e]
  refine hsh_congr (fun j hj => ?_) hi
  unfold hcat
  by_cases e : j < 64
  · rw [if_pos e, if_pos e, hy]
  · rw [if_neg e, if_neg e]
    refine hsh_congr (fun q hq => ?_) (by omega)
    by_cases e2 : q < 64
    · rw [if_pos e2, if_pos e2, hy]
    · rw [if_neg e2, if_neg e2]
      exact h _ (by omega)
