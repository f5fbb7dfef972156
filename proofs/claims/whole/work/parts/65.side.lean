/-! A SIDE, abstractly. z: 0 phase, 1 awaited, 2 next, 3 alert, 4 heard, 5 delivered, 6 again in all, 7 timer, 8 sentAt, 9 again, 10 running, 11 chances, 12 number of the HELLO, 13 EPOCH, 14 latest, 15 share, 16 own number, 17 now, 18 mtu, 19 wants a share, 20 wants cookies, 21 .. 25 counts. y: 0 key, 1 name, 2 seed, 3 greeting, 4 random, 5 cookie, 6 .. 9 the MESSAGES of T, 10 .. 15 SECRETS, 16 .. 19 KEYS, 20 .. 23 masks -/
abbrev FLT : Type := Nat × (Nat → Int) × (Nat → Int) × (Nat → List Int) × (Int → Int)
abbrev KPT : Type := Int → Int × Int × (Int → Int) × (Int → Int)
abbrev WNT : Type := (Int → Int) × (Int → Int64)
/-- z, y, windows, LIST, FLIGHT, kept, writings, sending -/
abbrev SA : Type := (Nat → Int) × (Nat → List Int) × WNT × List (Int × Int) × FLT × KPT × List (List Int) × FS
def uz (k : Nat) (v : Int) (A : SA) : SA := (fun j => if j = k then v else A.1 j, A.2)
def uy (k : Nat) (v : List Int) (A : SA) : SA := (A.1, fun j => if j = k then v else A.2.1 j, A.2.2)
def un (ep g : Int) (b : Int64) (A : SA) : SA := (A.1, A.2.1, (fun j => if j = ep then g else A.2.2.1.1 j, fun j => if j = ep then b else A.2.2.1.2 j), A.2.2.2)
def ul (l : List (Int × Int)) (A : SA) : SA := (A.1, A.2.1, A.2.2.1, l, A.2.2.2.2)
def uf (F : FLT) (A : SA) : SA := (A.1, A.2.1, A.2.2.1, A.2.2.2.1, F, A.2.2.2.2.2)
def uk (K : KPT) (A : SA) : SA := (A.1, A.2.1, A.2.2.1, A.2.2.2.1, A.2.2.2.2.1, K, A.2.2.2.2.2.2)
def uw (W : List (List Int)) (A : SA) : SA := (A.1, A.2.1, A.2.2.1, A.2.2.2.1, A.2.2.2.2.1, A.2.2.2.2.2.1, W, A.2.2.2.2.2.2.2)
def ut (t : FS) (A : SA) : SA := (A.1, A.2.1, A.2.2.1, A.2.2.2.1, A.2.2.2.2.1, A.2.2.2.2.2.1, A.2.2.2.2.2.2.1, t)
abbrev aZ (A : SA) : Nat → Int := A.1
abbrev aY (A : SA) : Nat → List Int := A.2.1
abbrev aN (A : SA) : WNT := A.2.2.1
abbrev aL (A : SA) : List (Int × Int) := A.2.2.2.1
abbrev aF (A : SA) : FLT := A.2.2.2.2.1
abbrev aK (A : SA) : KPT := A.2.2.2.2.2.1
abbrev aW (A : SA) : List (List Int) := A.2.2.2.2.2.2.1
abbrev aT (A : SA) : FS := A.2.2.2.2.2.2.2
abbrev live (p : Int) : Prop := p = 1 ∨ p = 2 ∨ p = 3
/-- how many of the first octets did not come -/
def miss (c : Int → Int) : Nat → Int
  | 0 => 0
  | n + 1 => miss c n + (1 - c (n : Int))
/-! the clusters of a side in the class -/
def X0 (e : Nat) (s : Int) (J : zM) (z : Nat → Int) : Prop := J e 0 = s ∧ J e 12 = z 0 ∧ J e 13 = z 1 ∧ J e 14 = z 2 ∧ J e 15 = z 3 ∧ J e 16 = z 4 ∧ J e 17 = z 5 ∧ J e 18 = z 6 ∧ J e 19 = z 17
def X1 (e : Nat) (J : zM) (L : yM) (z : Nat → Int) (y : Nat → List Int) : Prop := J (e + 1) 4 = ((y 3).length : Int) ∧ J (e + 1) 5 = z 20 ∧ J (e + 1) 6 = z 19 ∧ J (e + 1) 7 = z 18 ∧ J (e + 1) 8 = z 11 ∧ J (e + 1) 11 = ((y 5).length : Int) ∧ J (e + 1) 12 = z 15 ∧ J (e + 1) 14 = z 12 ∧ (L (e + 1) 13).toInt = z 16
def X2 (e : Nat) (J : zM) (y : Nat → List Int) : Prop := sg J (e + 2) 0 16 = y 0 ∧ sg J (e + 3) 0 8 = y 1 ∧ sg J (e + 4) 0 8 = y 2 ∧ sg J (e + 5) 0 (y 3).length = y 3 ∧ sg J (e + 6) 0 16 = y 4 ∧ sg J (e + 7) 0 (y 5).length = y 5
def X8 (e : Nat) (J : zM) (z : Nat → Int) (F : FLT) : Prop := J (e + 8) 10 = z 7 ∧ J (e + 8) 11 = z 8 ∧ J (e + 8) 12 = z 9 ∧ J (e + 8) 13 = z 10 ∧ XF e J F.1 F.2.1 F.2.2.1 F.2.2.2.1 F.2.2.2.2
def XKp (e : Nat) (J : zM) (nx : Int) (K : KPT) : Prop := ∀ n : Int, nx ≤ n → n < nx + 5 → J (e + 18) (n % 5) = (K n).1 ∧ ((K n).1 ≠ -1 → J (e + 19) (n % 5) = (K n).2.1 ∧ J (e + 20) (n % 5) = miss (K n).2.2.1 (K n).2.1.toNat ∧ ∀ i : Int, 0 ≤ i → i < 152 → J (e + 28 + (n % 5).toNat) i = (K n).2.2.1 i ∧ ((K n).2.2.1 i = 1 → J (e + 22 + (n % 5).toNat) i = (K n).2.2.2 i))
def X33 (e : Nat) (J : zM) (z : Nat → Int) (l : List (Int × Int)) : Prop := XLi e J l ∧ J (e + 33) 3 = z 14
def X37 (e : Nat) (J : zM) (z : Nat → Int) : Prop := ∀ k : Nat, k < 5 → J (e + 37) (k : Int) = z (21 + k)
def X38 (e : Nat) (J : zM) (W : List (List Int)) : Prop := rL (e + 38) J = W ∧ iR (e + 38) J
def X44 (e : Nat) (J : zM) (z : Nat → Int) (y : Nat → List Int) : Prop := J (e + 144) 11 = z 13 ∧ (live (z 0) → xTr e J (y 6 ++ y 7 ++ y 8 ++ y 9)) ∧ xZ e J ∧ (∀ i : Nat, i < 6 → sg J (e + 146 + i) 0 32 = y (10 + i)) ∧ (∀ i : Nat, i < 4 → sg J (e + 153 + i) 0 32 = y (16 + i) ∧ sg J (e + 158 + i) 0 32 = y (20 + i)) ∧ ∃ T, xTr e J T
def X68 (e : Nat) (s : Int) (J : zM) (z : Nat → Int) (F : FLT) (t : FS) : Prop := J (e + 168) 0 = s ∧ J (e + 168) 6 = z 18 ∧ XSn e J F.2.2.2.1 t
def X72 (e : Nat) (J : zM) (L : yM) (W : WNT) : Prop := ∀ ep, ep3 ep → J (e + 172 + ep.toNat) 0 = W.1 ep ∧ L (e + 172 + ep.toNat) 1 = W.2 ep
/-- side s of the class, its cells from e on, is as A -/
def XS (e : Nat) (s : Int) (J : zM) (L : yM) (A : SA) : Prop := X0 e s J (aZ A) ∧ X1 e J L (aZ A) (aY A) ∧ X2 e J (aY A) ∧ X8 e J (aZ A) (aF A) ∧ XKp e J (aZ A 2) (aK A) ∧ X33 e J (aZ A) (aL A) ∧ X37 e J (aZ A) ∧ X38 e J (aW A) ∧ X44 e J (aZ A) (aY A) ∧ X68 e s J (aZ A) (aF A) (aT A) ∧ X72 e J L (aN A)
/-- what acts of a side may change -/
abbrev cX (e a : Nat) : Prop := (e ≤ a ∧ a < e + 176) ∨ cR (wy e) a ∨ (6 ≤ a ∧ a ≤ 10)
def XO (e : Nat) (J : zM) (L : yM) (J' : zM) (L' : yM) : Prop := (∀ a, ¬ cX e a → J' a = J a) ∧ ∀ a, ¬ cX e a → L' a = L a
theorem XO.rf {e : Nat} {J : zM} {L : yM} : XO e J L J L := ⟨fun _ _ => rfl, fun _ _ => rfl⟩
theorem XO.tr {e : Nat} {J J1 J2 : zM} {L L1 L2 : yM} (h1 : XO e J L J1 L1) (h2 : XO e J1 L1 J2 L2) : XO e J L J2 L2 := ⟨fun a h => (h2.1 a h).trans (h1.1 a h), fun a h => (h2.2 a h).trans (h1.2 a h)⟩
theorem XO.F {e : Nat} {S : Nat → Prop} {J J' : zM} {L : yM} (h : zF S J J') (hS : ∀ a, S a → cX e a) : XO e J L J' L := ⟨fun a ha => h a (fun q => ha (hS a q)), fun _ _ => rfl⟩
theorem XO.zs {e a : Nat} {i v : Int} {J : zM} {L : yM} (h : cX e a) : XO e J L (zs J a i v) L := ⟨fun c hc => zs_r J (fun q => hc (by rw [q]; exact h)), fun _ _ => rfl⟩
/-! frames of the clusters -/
theorem X0.fr {e : Nat} {s : Int} {J J' : zM} {z : Nat → Int} (h : X0 e s J z) (f : J' e = J e) : X0 e s J' z := by unfold X0 at *; rw [f]; exact h
theorem X1.fr {e : Nat} {J J' : zM} {L L' : yM} {z : Nat → Int} {y : Nat → List Int} (h : X1 e J L z y) (f : J' (e + 1) = J (e + 1)) (g : L' (e + 1) = L (e + 1)) : X1 e J' L' z y := by unfold X1 at *; rw [f, g]; exact h
theorem X2.fr {e : Nat} {J J' : zM} {y : Nat → List Int} (h : X2 e J y) (f : ∀ a, e + 2 ≤ a → a ≤ e + 7 → J' a = J a) : X2 e J' y := by
  unfold X2 at *
  rw [sg_row (f (e + 2) (by omega) (by omega)), sg_row (f (e + 3) (by omega) (by omega)), sg_row (f (e + 4) (by omega) (by omega)), sg_row (f (e + 5) (by omega) (by omega)), sg_row (f (e + 6) (by omega) (by omega)), sg_row (f (e + 7) (by omega) (by omega))]
  exact h
theorem X8.fr {e : Nat} {J J' : zM} {z : Nat → Int} {F : FLT} (h : X8 e J z F) (f : ∀ a, e + 9 ≤ a → a ≤ e + 13 → J' a = J a) (g : ∀ k, k = 8 ∨ (10 ≤ k ∧ k ≤ 13) → J' (e + 8) k = J (e + 8) k) : X8 e J' z F := by
  obtain ⟨h1, h2, h3, h4, h5⟩ := h
  refine ⟨?_, ?_, ?_, ?_, h5.fr (fun a ha => f a (by omega) (by omega)) (g 8 (by omega))⟩
  · rw [g 10 (by omega)]; exact h1
  · rw [g 11 (by omega)]; exact h2
  · rw [g 12 (by omega)]; exact h3
  · rw [g 13 (by omega)]; exact h4
theorem XKp.fr {e : Nat} {J J' : zM} {nx : Int} {K : KPT} (h : XKp e J nx K) (f : ∀ a, e + 18 ≤ a → a ≤ e + 32 → J' a = J a) : XKp e J' nx K := by
  intro n h1 h2
  have q := h n h1 h2
  have hm : 0 ≤ n % 5 ∧ n % 5 < 5 := by omega
  rw [f (e + 18) (by omega) (by omega), f (e + 19) (by omega) (by omega), f (e + 20) (by omega) (by omega), f (e + 28 + (n % 5).toNat) (by omega) (by omega), f (e + 22 + (n % 5).toNat) (by omega) (by omega)]
  exact q
theorem X33.fr {e : Nat} {J J' : zM} {z : Nat → Int} {l : List (Int × Int)} (h : X33 e J z l) (f : ∀ a, e + 33 ≤ a → a ≤ e + 35 → J' a = J a) : X33 e J' z l := by
  unfold X33 XLi at *
  rw [f (e + 33) (by omega) (by omega), f (e + 34) (by omega) (by omega), f (e + 35) (by omega) (by omega)]
  exact h
theorem X37.fr {e : Nat} {J J' : zM} {z : Nat → Int} (h : X37 e J z) (f : J' (e + 37) = J (e + 37)) : X37 e J' z := by unfold X37 at *; rw [f]; exact h
theorem rq_38 {e : Nat} (he : iSide e) : rq (e + 38) = 100 := by rcases he with rfl | rfl <;> rfl
theorem X38.fr {e : Nat} {J J' : zM} {W : List (List Int)} (he : iSide e) (h : X38 e J W) (f : ∀ a, e + 38 ≤ a → a ≤ e + 141 → J' a = J a) : X38 e J' W := by
  have q := rL_fr (r := e + 38) (J := J) (J' := J') (fun a ha => by have ha : ¬ ¬ (e + 38 ≤ a ∧ a ≤ e + 38 + 3 + rq (e + 38)) := ha; have := rq_38 he; exact f a (by omega) (by omega)) h.2
  exact ⟨q.1.trans h.1, q.2⟩
theorem X44.fr {e : Nat} {J J' : zM} {z : Nat → Int} {y : Nat → List Int} (h : X44 e J z y) (f : ∀ a, e + 144 ≤ a → a ≤ e + 162 → J' a = J a) (g : J' (e + 167) = J (e + 167)) : X44 e J' z y := by
  obtain ⟨h1, h2, h3, h4, h5, T, h6⟩ := h
  refine ⟨?_, fun hl => (h2 hl).fr ?_ (f (e + 162) (by omega) (by omega)), ?_, fun i hi => ?_, fun i hi => ?_, T, h6.fr (by rw [f (e + 144) (by omega) (by omega)]) (f (e + 162) (by omega) (by omega))⟩
  · rw [f (e + 144) (by omega) (by omega)]; exact h1
  · rw [f (e + 144) (by omega) (by omega)]
  · unfold xZ; rw [sg_row g]; exact h3
  · rw [sg_row (f (e + 146 + i) (by omega) (by omega))]; exact h4 i hi
  · rw [sg_row (f (e + 153 + i) (by omega) (by omega)), sg_row (f (e + 158 + i) (by omega) (by omega))]; exact h5 i hi
theorem XL.fr {e : Nat} {J J' : zM} {B : Nat → List Int} {lg : List (Int × Int × Nat × Int × Int)} (h : XL e J B lg) (h1 : J' (e + 8) 9 = J (e + 8) 9) (f : ∀ a, e + 14 ≤ a → a ≤ e + 16 → J' a = J a) : XL e J' B lg := by
  unfold XL at *
  rw [h1, f (e + 14) (by omega) (by omega), f (e + 15) (by omega) (by omega), f (e + 16) (by omega) (by omega)]
  exact h
theorem XSn.fr {e : Nat} {J J' : zM} {B : Nat → List Int} {t : FS} (h : XSn e J B t) (f : ∀ a, (e + 14 ≤ a ∧ a ≤ e + 16) ∨ a = e + 169 ∨ a = e + 171 ∨ cR (wy e) a → J' a = J a) (g8 : J' (e + 8) 9 = J (e + 8) 9) (g7 : J' (e + 168) 7 = J (e + 168) 7) (g9 : J' (e + 168) 8 = J (e + 168) 8) : XSn e J' B t := by
  obtain ⟨h1, h2, h3, h4, h5⟩ := h
  have q := rL_fr (r := wy e) (J := J) (J' := J') (fun a ha => f a (Or.inr (Or.inr (Or.inr (Classical.not_not.mp ha))))) h1.2
  refine ⟨⟨q.1.trans h1.1, q.2⟩, by rw [g9]; exact h2, fun ep hep => ?_, h4.fr g7 (f _ (by omega)), h5.fr g8 (fun a p1 p2 => f a (by omega))⟩
  rw [f (e + 171) (by omega)]
  exact h3 ep hep
theorem X68.fr {e : Nat} {s : Int} {J J' : zM} {z : Nat → Int} {F : FLT} {t : FS} (h : X68 e s J z F t) (f : ∀ a, (e + 14 ≤ a ∧ a ≤ e + 16) ∨ a = e + 168 ∨ a = e + 169 ∨ a = e + 171 ∨ cR (wy e) a → J' a = J a) (g8 : J' (e + 8) 9 = J (e + 8) 9) : X68 e s J' z F t := by
  obtain ⟨h1, h2, h3⟩ := h
  have q := f (e + 168) (by omega)
  refine ⟨by rw [q]; exact h1, by rw [q]; exact h2, h3.fr (fun a ha => f a (by omega)) g8 (by rw [q]) (by rw [q])⟩
theorem X72.fr {e : Nat} {J J' : zM} {L L' : yM} {W : WNT} (h : X72 e J L W) (f : ∀ a, e + 172 ≤ a → a ≤ e + 175 → J' a = J a) (g : ∀ a, e + 172 ≤ a → a ≤ e + 175 → L' a = L a) : X72 e J' L' W := by
  intro ep hep
  rw [f (e + 172 + ep.toNat) (by omega) (by omega), g (e + 172 + ep.toNat) (by omega) (by omega)]
  exact h ep hep
/-- the other side's acts -/
theorem XS.ot {e : Nat} {s : Int} {J J' : zM} {L L' : yM} {A : SA} (he : iSide e) (h : XS e s J L A) (f : ∀ a, (e ≤ a ∧ a < e + 176) ∨ cR (wy e) a → J' a = J a) (g : ∀ a, (e ≤ a ∧ a < e + 176) → L' a = L a) : XS e s J' L' A := by
  obtain ⟨h0, h1, h2, h3, h4, h5, h6, h7, h8, h9, h10⟩ := h
  have f' : ∀ a, e ≤ a → a < e + 176 → J' a = J a := fun a p q => f a (Or.inl ⟨p, q⟩)
  exact ⟨h0.fr (f' e (by omega) (by omega)), h1.fr (f' _ (by omega) (by omega)) (g _ (by omega)), h2.fr (fun a p q => f' a (by omega) (by omega)), h3.fr (fun a p q => f' a (by omega) (by omega)) (fun k _ => by rw [f' (e + 8) (by omega) (by omega)]), h4.fr (fun a p q => f' a (by omega) (by omega)), h5.fr (fun a p q => f' a (by omega) (by omega)), h6.fr (f' _ (by omega) (by omega)), h7.fr he (fun a p q => f' a (by omega) (by omega)), h8.fr (fun a p q => f' a (by omega) (by omega)) (f' _ (by omega) (by omega)), h9.fr (fun a p => f a (by omega)) (by rw [f' (e + 8) (by omega) (by omega)]), h10.fr (fun a p q => f' a (by omega) (by omega)) (fun a p q => g a (by omega))⟩
