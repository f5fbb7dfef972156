/-! a side in the model -/
def plK (s k : Int) : Int := 1024 * s + (if k = 1 then 512 else if k = 2 then 600 else if k = 8 then 630 else if s = 1 then 790 else 830)
def plT (s : Int) (i : Nat) : Int := 1024 * s + (if i = 0 then 512 else if i = 1 then 600 else if i = 2 then 630 else 790)
/-- what belongs to side u in the model; what acts of sides never change belongs to both -/
def mOwn (u : Int) (a : Nat) (i : Int) : Prop :=
  ((a = 503 ∨ a = 506 ∨ a = 507 ∨ a = 512 ∨ a = 517 ∨ (522 ≤ a ∧ a ≤ 528) ∨ a = 530 ∨ (533 ≤ a ∧ a ≤ 536) ∨ a = 538 ∨ a = 539 ∨ a = 547) ∧ i = u)
  ∨ (a = 492 ∧ 1024 * u ≤ i ∧ i < 1024 * u + 1024) ∨ ((a = 514 ∨ a = 545) ∧ 4 * u ≤ i ∧ i < 4 * u + 4) ∨ (518 ≤ a ∧ a ≤ 520 ∧ 3 * u ≤ i ∧ i < 3 * u + 3)
  ∨ (a = 521 ∧ 600 * u ≤ i ∧ i < 600 * u + 600) ∨ (a = 529 ∧ 10000 * u ≤ i ∧ i < 10000 * u + 10000) ∨ ((a = 531 ∨ a = 532 ∨ (540 ≤ a ∧ a ≤ 542)) ∧ 8 * u ≤ i ∧ i < 8 * u + 8)
  ∨ (a = 537 ∧ 10 * u ≤ i ∧ i < 10 * u + 10) ∨ ((a = 543 ∨ a = 544) ∧ 1600 * u ≤ i ∧ i < 1600 * u + 1600) ∨ (a = 548 ∧ 100 * u ≤ i ∧ i < 100 * u + 100) ∨ (a = 549 ∧ 6000 * u ≤ i ∧ i < 6000 * u + 6000)
  ∨ (493 ≤ a ∧ a ≤ 496) ∨ (a = 491 ∧ (i = 1 ∨ i = 2 ∨ i = 3 ∨ i = 7 ∨ i = 9 ∨ i = 72 ∨ i = 0 ∨ (u = 0 ∧ (i = 4 ∨ i = 58))))
abbrev sml (a : Nat) : Prop := a = 503 ∨ a = 506 ∨ a = 507 ∨ a = 512 ∨ a = 517 ∨ (522 ≤ a ∧ a ≤ 528) ∨ a = 530 ∨ (533 ≤ a ∧ a ≤ 536) ∨ a = 538 ∨ a = 539 ∨ a = 547
section OW
variable {u : Int} {a : Nat} {i : Int}
theorem own1 (ha : sml a) : mOwn u a u := Or.inl ⟨ha, rfl⟩
theorem own492 (h : 1024 * u ≤ i ∧ i < 1024 * u + 1024) : mOwn u 492 i := Or.inr (Or.inl ⟨rfl, h⟩)
theorem own4 (ha : a = 514 ∨ a = 545) (h : 4 * u ≤ i ∧ i < 4 * u + 4) : mOwn u a i := Or.inr (Or.inr (Or.inl ⟨ha, h⟩))
theorem own3 (ha : 518 ≤ a ∧ a ≤ 520) (h : 3 * u ≤ i ∧ i < 3 * u + 3) : mOwn u a i := Or.inr (Or.inr (Or.inr (Or.inl ⟨ha.1, ha.2, h⟩)))
theorem own521 (h : 600 * u ≤ i ∧ i < 600 * u + 600) : mOwn u 521 i := Or.inr (Or.inr (Or.inr (Or.inr (Or.inl ⟨rfl, h⟩))))
theorem own529 (h : 10000 * u ≤ i ∧ i < 10000 * u + 10000) : mOwn u 529 i := Or.inr (Or.inr (Or.inr (Or.inr (Or.inr (Or.inl ⟨rfl, h⟩)))))
theorem own8 (ha : a = 531 ∨ a = 532 ∨ (540 ≤ a ∧ a ≤ 542)) (h : 8 * u ≤ i ∧ i < 8 * u + 8) : mOwn u a i := Or.inr (Or.inr (Or.inr (Or.inr (Or.inr (Or.inr (Or.inl ⟨ha, h⟩))))))
theorem own10 (h : 10 * u ≤ i ∧ i < 10 * u + 10) : mOwn u 537 i := Or.inr (Or.inr (Or.inr (Or.inr (Or.inr (Or.inr (Or.inr (Or.inl ⟨rfl, h⟩)))))))
theorem own16 (ha : a = 543 ∨ a = 544) (h : 1600 * u ≤ i ∧ i < 1600 * u + 1600) : mOwn u a i := Or.inr (Or.inr (Or.inr (Or.inr (Or.inr (Or.inr (Or.inr (Or.inr (Or.inl ⟨ha, h⟩))))))))
theorem own548 (h : 100 * u ≤ i ∧ i < 100 * u + 100) : mOwn u 548 i := Or.inr (Or.inr (Or.inr (Or.inr (Or.inr (Or.inr (Or.inr (Or.inr (Or.inr (Or.inl ⟨rfl, h⟩)))))))))
theorem own549 (h : 6000 * u ≤ i ∧ i < 6000 * u + 6000) : mOwn u 549 i := Or.inr (Or.inr (Or.inr (Or.inr (Or.inr (Or.inr (Or.inr (Or.inr (Or.inr (Or.inr (Or.inl ⟨rfl, h⟩))))))))))
theorem own493 (ha : 493 ≤ a ∧ a ≤ 496) : mOwn u a i := Or.inr (Or.inr (Or.inr (Or.inr (Or.inr (Or.inr (Or.inr (Or.inr (Or.inr (Or.inr (Or.inr (Or.inl ha)))))))))))
theorem own491 (h : i = 1 ∨ i = 2 ∨ i = 3 ∨ i = 7 ∨ i = 9 ∨ i = 72 ∨ i = 0 ∨ (u = 0 ∧ (i = 4 ∨ i = 58))) : mOwn u 491 i := Or.inr (Or.inr (Or.inr (Or.inr (Or.inr (Or.inr (Or.inr (Or.inr (Or.inr (Or.inr (Or.inr (Or.inr ⟨rfl, h⟩)))))))))))
theorem own_cell (h : mOwn u a i) : (491 ≤ a ∧ a ≤ 496) ∨ a = 503 ∨ a = 506 ∨ a = 507 ∨ a = 512 ∨ a = 514 ∨ (517 ≤ a ∧ a ≤ 549) := by
  rcases h with h | h | h | h | h | h | h | h | h | h | h | h | h <;> omega
theorem ow1 (h : mOwn u a i) (ha : sml a) : i = u := by
  rcases h with h | h | h | h | h | h | h | h | h | h | h | h | h <;> omega
theorem ow491 (h : mOwn u 491 i) : i = 1 ∨ i = 2 ∨ i = 3 ∨ i = 7 ∨ i = 9 ∨ i = 72 ∨ i = 0 ∨ (u = 0 ∧ (i = 4 ∨ i = 58)) := by
  rcases h with h | h | h | h | h | h | h | h | h | h | h | h | h <;> omega
theorem ow492 (h : mOwn u 492 i) : 1024 * u ≤ i ∧ i < 1024 * u + 1024 := by
  rcases h with h | h | h | h | h | h | h | h | h | h | h | h | h <;> omega
theorem ow4 (h : mOwn u a i) (ha : a = 514 ∨ a = 545) : 4 * u ≤ i ∧ i < 4 * u + 4 := by
  rcases h with h | h | h | h | h | h | h | h | h | h | h | h | h <;> omega
theorem ow3 (h : mOwn u a i) (ha : 518 ≤ a ∧ a ≤ 520) : 3 * u ≤ i ∧ i < 3 * u + 3 := by
  rcases h with h | h | h | h | h | h | h | h | h | h | h | h | h <;> omega
theorem ow521 (h : mOwn u 521 i) : 600 * u ≤ i ∧ i < 600 * u + 600 := by
  rcases h with h | h | h | h | h | h | h | h | h | h | h | h | h <;> omega
theorem ow529 (h : mOwn u 529 i) : 10000 * u ≤ i ∧ i < 10000 * u + 10000 := by
  rcases h with h | h | h | h | h | h | h | h | h | h | h | h | h <;> omega
theorem ow8 (h : mOwn u a i) (ha : a = 531 ∨ a = 532 ∨ (540 ≤ a ∧ a ≤ 542)) : 8 * u ≤ i ∧ i < 8 * u + 8 := by
  rcases h with h | h | h | h | h | h | h | h | h | h | h | h | h <;> omega
theorem ow10 (h : mOwn u 537 i) : 10 * u ≤ i ∧ i < 10 * u + 10 := by
  rcases h with h | h | h | h | h | h | h | h | h | h | h | h | h <;> omega
theorem ow16 (h : mOwn u a i) (ha : a = 543 ∨ a = 544) : 1600 * u ≤ i ∧ i < 1600 * u + 1600 := by
  rcases h with h | h | h | h | h | h | h | h | h | h | h | h | h <;> omega
theorem ow548 (h : mOwn u 548 i) : 100 * u ≤ i ∧ i < 100 * u + 100 := by
  rcases h with h | h | h | h | h | h | h | h | h | h | h | h | h <;> omega
theorem ow549 (h : mOwn u 549 i) : 6000 * u ≤ i ∧ i < 6000 * u + 6000 := by
  rcases h with h | h | h | h | h | h | h | h | h | h | h | h | h <;> omega
end OW
def M0 (s : Int) (J : zM) (L : yM) (z : Nat → Int) : Prop := J 534 s = z 0 ∧ J 535 s = z 2 ∧ J 538 s = z 3 ∧ J 539 s = z 4 ∧ J 547 s = z 5 ∧ J 527 s = z 6 ∧ J 524 s = z 7 ∧ J 525 s = z 8 ∧ J 526 s = z 9 ∧ J 503 s = z 11 ∧ (L 505 s).toInt = z 15 ∧ (L 504 s).toInt = z 16
def M1 (s : Int) (J : zM) (z : Nat → Int) : Prop := (s = 0 → (z 0 = 0 ∨ z 0 = 1) → (z 1 = 2 ∧ J 536 0 = 0) ∨ (z 1 = 8 ∧ J 536 0 = 1) ∨ (z 1 = 20 ∧ J 536 0 = 2)) ∧ (z 0 = 0 → J 523 s = 0) ∧ (live (z 0) → J 523 s = 1) ∧ B01 (J 523 s) ∧ (s = 0 → (z 0 = 0 → J 491 4 = 0) ∧ (live (z 0) → J 491 4 = 1) ∧ B01 (J 491 4) ∧ J 491 58 = z 12) ∧ J 506 s = (if 2 ≤ z 13 then 1 else 0) ∧ J 507 s = (if 3 ≤ z 13 then 1 else 0)
def M2 (s : Int) (J : zM) (z : Nat → Int) (y : Nat → List Int) : Prop := sg J 492 (1024 * s) 16 = y 0 ∧ sg J 492 (1024 * s + 16) 8 = y 1 ∧ sg J 492 (1024 * s + 24) 8 = y 2 ∧ (s = 0 → live (z 0) → sg J 492 890 16 = y 4 ∧ J 492 531 = ((y 5).length : Int) ∧ sg J 492 32 32 = earI (y 0)) ∧ (s = 1 → J 491 7 = ((y 3).length : Int) ∧ sg J 493 0 (y 3).length = y 3)
def M8 (s : Int) (J : zM) (z : Nat → Int) (F : FLT) : Prop := B01 (J 522 s) ∧ (z 10 = 1 → J 522 s = 0 ∧ 0 < F.1) ∧ (z 10 = 0 → z 0 ≠ 4 → J 522 s = 1 ∨ F.1 = 0) ∧ ∃ ack : Int → Int, (∀ i, ack i = 0 ∨ ack i = 1) ∧ (z 10 = 1 → ∀ i, ack i = F.2.2.2.2 i) ∧ MFl s J F.1 F.2.1 F.2.2.1 F.2.2.2.1 ack (fun f => plK s (F.2.1 f))
def MKp (s : Int) (J : zM) (nx : Int) (K : KPT) : Prop := ∀ n : Int, nx ≤ n → (J 540 (8 * s + n % 8) = n ↔ (K n).1 ≠ -1) ∧ ((K n).1 ≠ -1 → J 541 (8 * s + n % 8) = (K n).1 ∧ J 542 (8 * s + n % 8) = (K n).2.1 ∧ ∀ i : Int, 0 ≤ i → i < 152 → J 543 (200 * (8 * s + n % 8) + i) = (K n).2.2.1 i ∧ ((K n).2.2.1 i = 1 → J 544 (200 * (8 * s + n % 8) + i) = (K n).2.2.2 i))
def MKr (s : Int) (J : zM) : Prop := ∀ j : Int, 0 ≤ j → j < 8 → R32 (J 540 (8 * s + j))
def M33 (s : Int) (J : zM) (z : Nat → Int) (l : List (Int × Int)) : Prop := MLi s J l ∧ (l ≠ [] → J 533 s = z 14)
def M37 (s : Int) (J : zM) (z : Nat → Int) : Prop := ∀ k : Nat, k < 5 → J 537 (10 * s + (k : Int)) = z (21 + k)
/-- what stands of a writing -/
def M38 (s : Int) (J : zM) (d : Int) (W : List (List Int)) : Prop := ∀ (i : Nat) (w : List Int), W[i]? = some w → J 548 (100 * s + (d - (W.length : Int) + (i : Int)) % 100) = (w.length : Int) ∧ sg J 549 (60 * (100 * s + (d - (W.length : Int) + (i : Int)) % 100)) w.length = w ∧ w.length ≤ 60
def M44 (s : Int) (J : zM) (z : Nat → Int) (y : Nat → List Int) : Prop := (live (z 0) → ∀ i : Nat, i < 4 → y (6 + i) ≠ [] → mMs J (plT s i) (y (6 + i))) ∧ (2 ≤ z 13 → sg J 492 (1024 * s + 64) 32 = y 14 ∧ sg J 492 (1024 * s + 96) 32 = y 15 ∧ ∀ i : Nat, i < 2 → sg J 492 (1024 * s + 128 + 32 * (i : Int)) 32 = y (10 + i) ∧ sg J 492 (1024 * s + 256 + 64 * (i : Int)) 32 = y (16 + i) ∧ sg J 492 (1024 * s + 256 + 64 * (i : Int) + 32) 32 = y (20 + i)) ∧ (3 ≤ z 13 → ∀ i : Nat, 2 ≤ i → i < 4 → sg J 492 (1024 * s + 128 + 32 * (i : Int)) 32 = y (10 + i) ∧ sg J 492 (1024 * s + 256 + 64 * (i : Int)) 32 = y (16 + i) ∧ sg J 492 (1024 * s + 256 + 64 * (i : Int) + 32) 32 = y (20 + i)) ∧ oct (sg J 492 (1024 * s + 256) 256)
def M72 (s : Int) (J : zM) (L : yM) (W : WNT) : Prop := ∀ ep, ep3 ep → J 545 (4 * s + ep) = W.1 ep ∧ L 546 (4 * s + ep) = W.2 ep
def M15 (s : Int) (J : zM) (z : Nat → Int) : Prop := J 491 2 = z 18 ∧ (s = 0 → zand (J 491 1) 2 = 2 * z 19) ∧ (s = 1 → zand (J 491 1) 4 = 4 * z 19 ∧ zand (J 491 1) 1 = z 20)
/-- side s of the model is as A -/
def MS (s : Int) (J : zM) (L : yM) (A : SA) : Prop := M0 s J L (aZ A) ∧ M1 s J (aZ A) ∧ M2 s J (aZ A) (aY A) ∧ M8 s J (aZ A) (aF A) ∧ (MKp s J (aZ A 2) (aK A) ∧ MKr s J) ∧ M33 s J (aZ A) (aL A) ∧ M37 s J (aZ A) ∧ M38 s J (aZ A 5) (aW A) ∧ M44 s J (aZ A) (aY A) ∧ MSn s J (aT A) ∧ M72 s J L (aN A) ∧ M15 s J (aZ A) ∧ mK (zi J)
/-- the longs of side u -/
def mOwL (u : Int) (a : Nat) (i : Int) : Prop := ((a = 504 ∨ a = 505) ∧ i = u) ∨ (a = 546 ∧ 4 * u ≤ i ∧ i < 4 * u + 4)
/-- what acts of side s leave -/
def MO (s : Int) (J : zM) (L : yM) (J' : zM) (L' : yM) : Prop := (∀ a i, mOwn (1 - s) a i → J' a i = J a i) ∧ (∀ a i, mOwL (1 - s) a i → L' a i = L a i) ∧ mN s J' = mN s J ∧ J' 509 s = J 509 s ∧ (mI J → mI J') ∧ (J 491 30 = 0 → J' 491 30 = 0) ∧ ∀ a, a < 491 ∨ (551 ≤ a ∧ a ≤ 552) → J' a = J a ∧ L' a = L a
theorem MO.rf {s : Int} {J : zM} {L : yM} : MO s J L J L := ⟨fun _ _ _ => rfl, fun _ _ _ => rfl, rfl, rfl, id, id, fun _ _ => ⟨rfl, rfl⟩⟩
theorem MO.tr {s : Int} {J J1 J2 : zM} {L L1 L2 : yM} (h1 : MO s J L J1 L1) (h2 : MO s J1 L1 J2 L2) : MO s J L J2 L2 := ⟨fun a i h => (h2.1 a i h).trans (h1.1 a i h), fun a i h => (h2.2.1 a i h).trans (h1.2.1 a i h), h2.2.2.1.trans h1.2.2.1, h2.2.2.2.1.trans h1.2.2.2.1, fun h => h2.2.2.2.2.1 (h1.2.2.2.2.1 h), fun h => h2.2.2.2.2.2.1 (h1.2.2.2.2.2.1 h), fun a h => ⟨(h2.2.2.2.2.2.2 a h).1.trans (h1.2.2.2.2.2.2 a h).1, (h2.2.2.2.2.2.2 a h).2.trans (h1.2.2.2.2.2.2 a h).2⟩⟩
/-! frames -/
/-- side s has in the cells C what it had -/
def oEq (s : Int) (C : Nat → Prop) (J J' : zM) : Prop := ∀ a i, mOwn s a i → C a → J' a i = J a i
abbrev cM0 (a : Nat) : Prop := a = 503 ∨ (524 ≤ a ∧ a ≤ 527) ∨ a = 534 ∨ a = 535 ∨ a = 538 ∨ a = 539 ∨ a = 547
abbrev cM1 (a : Nat) : Prop := a = 491 ∨ a = 506 ∨ a = 507 ∨ a = 523 ∨ a = 536
abbrev cM2 (a : Nat) : Prop := 491 ≤ a ∧ a ≤ 493
abbrev c492 (a : Nat) : Prop := a = 492
abbrev c491 (a : Nat) : Prop := a = 491
abbrev cM8 (a : Nat) : Prop := a = 492 ∨ (517 ≤ a ∧ a ≤ 522)
abbrev cMK (a : Nat) : Prop := 540 ≤ a ∧ a ≤ 544
abbrev cM33 (a : Nat) : Prop := 530 ≤ a ∧ a ≤ 533
abbrev cM37 (a : Nat) : Prop := a = 537
abbrev cM38 (a : Nat) : Prop := a = 548 ∨ a = 549
abbrev cM72 (a : Nat) : Prop := a = 545
abbrev cMSn (a : Nat) : Prop := a = 512 ∨ a = 514 ∨ a = 528 ∨ a = 529
abbrev cmK (a : Nat) : Prop := a = 495 ∨ a = 496
theorem oEq.all {s : Int} {C : Nat → Prop} {J J' : zM} (f : ∀ a i, mOwn s a i → J' a i = J a i) : oEq s C J J' := fun a i h _ => f a i h
theorem oEq.sub {s : Int} {C D : Nat → Prop} {J J' : zM} (f : oEq s C J J') (h : ∀ a, D a → C a) : oEq s D J J' := fun a i p q => f a i p (h a q)
theorem oEq.F {s : Int} {C S : Nat → Prop} {T : Int → Prop} {J J' : zM} (h : mF S T J J') (h1 : ∀ a, C a → a ≠ 491 → ¬ S a) (h2 : C 491 → ∀ i, (i = 1 ∨ i = 2 ∨ i = 3 ∨ i = 7 ∨ i = 9 ∨ i = 4 ∨ i = 58 ∨ i = 72 ∨ i = 0) → ¬ T i) : oEq s C J J' := by
  intro a i ho hc
  by_cases q : a = 491
  · subst q
    refine h.2 i (h2 hc i ?_)
    have := ow491 ho
    omega
  · rw [h.1 a (h1 a hc q) q]
theorem oEq.zs {s : Int} {C : Nat → Prop} {J : zM} {a : Nat} {i v : Int} (h : ¬ C a ∨ ¬ mOwn s a i) : oEq s C J (zs J a i v) := by
  intro b j ho hc
  refine zs_n J ?_
  by_cases q : b = a ∧ j = i
  · obtain ⟨rfl, rfl⟩ := q
    rcases h with h | h
    · exact absurd hc h
    · exact absurd ho h
  · omega
section MFR
variable {s : Int} {J J' : zM} {L L' : yM} {z : Nat → Int} {y : Nat → List Int}
theorem sg_own {C : Nat → Prop} {a : Nat} {i : Int} {c : Nat} (f : oEq s C J J') (hc : C a) (h : ∀ k, i ≤ k → k < i + (c : Int) → mOwn s a k) : sg J' a i c = sg J a i c := sg_fr (fun k p q => f a k (h k p q) hc)
theorem M0.fr (h : M0 s J L z) (f : oEq s cM0 J J') (g : ∀ a i, mOwL s a i → L' a i = L a i) : M0 s J' L' z := by
  unfold M0 at *
  rw [f 534 s (own1 (by omega)) (by omega), f 535 s (own1 (by omega)) (by omega), f 538 s (own1 (by omega)) (by omega), f 539 s (own1 (by omega)) (by omega), f 547 s (own1 (by omega)) (by omega), f 527 s (own1 (by omega)) (by omega), f 524 s (own1 (by omega)) (by omega), f 525 s (own1 (by omega)) (by omega), f 526 s (own1 (by omega)) (by omega), f 503 s (own1 (by omega)) (by omega), g 505 s (Or.inl ⟨by omega, rfl⟩), g 504 s (Or.inl ⟨by omega, rfl⟩)]
  exact h
theorem M1.fr (h : M1 s J z) (f : oEq s cM1 J J') : M1 s J' z := by
  obtain ⟨h1, h2, h3, h4, h5, h6, h7⟩ := h
  rw [← f 523 s (own1 (by omega)) (by omega)] at h2 h3 h4
  rw [← f 506 s (own1 (by omega)) (by omega)] at h6
  rw [← f 507 s (own1 (by omega)) (by omega)] at h7
  refine ⟨fun hs => ?_, h2, h3, h4, fun hs => ?_, h6, h7⟩
  · subst hs
    rw [f 536 0 (own1 (by omega)) (by omega)]
    exact h1 rfl
  · rw [f 491 4 (own491 (by omega)) (by omega), f 491 58 (own491 (by omega)) (by omega)]
    exact h5 hs
theorem M2.fr (h : M2 s J z y) (f : oEq s cM2 J J') : M2 s J' z y := by
  obtain ⟨h1, h2, h3, h4, h5⟩ := h
  refine ⟨?_, ?_, ?_, fun hs hl => ?_, fun hs => ?_⟩
  · rw [sg_own f (by omega) (fun k p q => own492 (by omega))]; exact h1
  · rw [sg_own f (by omega) (fun k p q => own492 (by omega))]; exact h2
  · rw [sg_own f (by omega) (fun k p q => own492 (by omega))]; exact h3
  · subst hs
    rw [sg_own f (by omega) (fun k p q => own492 (by omega)), f 492 531 (own492 (by omega)) (by omega), sg_own f (by omega) (fun k p q => own492 (by omega))]
    exact h4 rfl hl
  · rw [f 491 7 (own491 (by omega)) (by omega), sg_own (a := 493) f (by omega) (fun k p q => own493 (by omega))]
    exact h5 hs
theorem mMs.ow {at_ : Int} {m : List Int} (h : mMs J at_ m) (f : oEq s c492 J J') (h0 : 1024 * s ≤ at_) (h1 : at_ + 160 ≤ 1024 * s + 1024) : mMs J' at_ m := h.fr (fun k p q => f 492 k (own492 (by omega)) (by omega))
theorem plK_b (k : Int) (hs : s01 s) : 1024 * s + 512 ≤ plK s k ∧ plK s k + 160 ≤ 1024 * s + 1024 := by
  unfold plK
  split
  · omega
  · split
    · omega
    · split
      · omega
      · split <;> omega
theorem plT_b (i : Nat) : 1024 * s + 512 ≤ plT s i ∧ plT s i + 160 ≤ 1024 * s + 1024 := by
  unfold plT
  split
  · omega
  · split
    · omega
    · split <;> omega
theorem MFl.ow {many : Nat} {K N : Nat → Int} {B : Nat → List Int} {ack : Int → Int} (hs : s01 s) (h : MFl s J many K N B ack (fun f => plK s (K f))) (f : oEq s cM8 J J') : MFl s J' many K N B ack (fun f => plK s (K f)) := by
  obtain ⟨h1, h2, h3, h4⟩ := h
  refine ⟨by rw [f 517 s (own1 (by omega)) (by omega)]; exact h1, h2, fun g hg => ?_, fun g hg k k0 k1 => ?_⟩
  · obtain ⟨q1, q2, q3, q4, q5, q6, q7⟩ := h3 g hg
    have hb := plK_b (K g) hs
    refine ⟨by rw [f 518 _ (own3 (by omega) (by omega)) (by omega)]; exact q1, q2, q3.ow (f.sub (fun a q => by omega)) (show 1024 * s ≤ plK s (K g) by omega) (show plK s (K g) + 160 ≤ 1024 * s + 1024 by omega), by rw [f 519 _ (own3 (by omega) (by omega)) (by omega)]; exact q4, by rw [f 520 _ (own3 (by omega) (by omega)) (by omega)]; exact q5, q6, q7⟩
  · have q3 := (h3 g hg).2.2.1
    have hl : (B g).length ≤ 157 := q3.size.2.2.2.1
    rw [f 521 _ (own521 (by omega)) (by omega)]
    exact h4 g hg k k0 k1
theorem M8.fr {F : FLT} (hs : s01 s) (h : M8 s J z F) (f : oEq s cM8 J J') : M8 s J' z F := by
  obtain ⟨h1, h2, h3, ack, h4, h5, h6⟩ := h
  rw [← f 522 s (own1 (by omega)) (by omega)] at h1 h2 h3
  exact ⟨h1, h2, h3, ack, h4, h5, h6.ow hs f⟩
theorem MKp.fr {nx : Int} {K : KPT} (hs : s01 s) (h : MKp s J nx K) (f : oEq s cMK J J') : MKp s J' nx K := by
  intro n hn
  have hm : 0 ≤ n % 8 ∧ n % 8 < 8 := by omega
  obtain ⟨m, hm2⟩ : ∃ m, m = n % 8 := ⟨_, rfl⟩
  have q := h n hn
  rw [← hm2] at q hm ⊢
  rw [f 540 _ (own8 (by omega) (by omega)) (by omega), f 541 _ (own8 (by omega) (by omega)) (by omega), f 542 _ (own8 (by omega) (by omega)) (by omega)]
  refine ⟨q.1, fun hk => ⟨(q.2 hk).1, (q.2 hk).2.1, fun i i0 i1 => ?_⟩⟩
  rw [f 543 _ (own16 (by omega) (by omega)) (by omega), f 544 _ (own16 (by omega) (by omega)) (by omega)]
  exact (q.2 hk).2.2 i i0 i1
theorem MKr.fr (h : MKr s J) (f : oEq s cMK J J') : MKr s J' := fun j j0 j1 => by rw [f 540 _ (own8 (by omega) (by omega)) (by omega)]; exact h j j0 j1
theorem MLi.ow {l : List (Int × Int)} (h : MLi s J l) (f : oEq s cM33 J J') : MLi s J' l := by
  obtain ⟨h1, h2, h3⟩ := h
  refine ⟨by rw [f 530 s (own1 (by omega)) (by omega)]; exact h1, h2, fun i q hq => ?_⟩
  have hi := (List.getElem?_eq_some_iff.mp hq).1
  rw [f 531 _ (own8 (by omega) (by omega)) (by omega), f 532 _ (own8 (by omega) (by omega)) (by omega)]
  exact h3 i q hq
theorem M33.fr {l : List (Int × Int)} (h : M33 s J z l) (f : oEq s cM33 J J') : M33 s J' z l := ⟨h.1.ow f, fun hl => by rw [f 533 s (own1 (by omega)) (by omega)]; exact h.2 hl⟩
theorem M37.fr (h : M37 s J z) (f : oEq s cM37 J J') : M37 s J' z := fun k hk => by rw [f 537 _ (own10 (by omega)) (by omega)]; exact h k hk
theorem M37.cg {z' : Nat → Int} (h : M37 s J z) (f : ∀ k, k < 5 → z' (21 + k) = z (21 + k)) : M37 s J z' := fun k hk => (h k hk).trans (f k hk).symm
theorem M38.fr {d : Int} {W : List (List Int)} (hs : s01 s) (h : M38 s J d W) (f : oEq s cM38 J J') : M38 s J' d W := by
  intro i w hw
  obtain ⟨q1, q2, q3⟩ := h i w hw
  obtain ⟨m, hm⟩ : ∃ m, m = (d - (W.length : Int) + (i : Int)) % 100 := ⟨_, rfl⟩
  rw [← hm] at q1 q2 ⊢
  have hb : 0 ≤ m ∧ m < 100 := by omega
  refine ⟨by rw [f 548 _ (own548 (by omega)) (by omega)]; exact q1, ?_, q3⟩
  rw [sg_own f (by omega) (fun k p q => own549 (by omega))]
  exact q2
theorem M44.fr (h : M44 s J z y) (f : oEq s c492 J J') : M44 s J' z y := by
  obtain ⟨h1, h2, h3, h4⟩ := h
  refine ⟨fun hl i hi hy => ?_, fun hz => ?_, fun hz i i0 i1 => ?_, by rw [sg_own f (by omega) (fun k p q => own492 (by omega))]; exact h4⟩
  · have hb := plT_b (s := s) i
    exact (h1 hl i hi hy).ow f (by omega) (by omega)
  · obtain ⟨a1, a2, a3⟩ := h2 hz
    refine ⟨?_, ?_, fun i hi => ?_⟩
    · rw [sg_own f (by omega) (fun k p q => own492 (by omega))]; exact a1
    · rw [sg_own f (by omega) (fun k p q => own492 (by omega))]; exact a2
    · rw [sg_own f (by omega) (fun k p q => own492 (by omega)), sg_own f (by omega) (fun k p q => own492 (by omega)), sg_own f (by omega) (fun k p q => own492 (by omega))]; exact a3 i hi
  · rw [sg_own f (by omega) (fun k p q => own492 (by omega)), sg_own f (by omega) (fun k p q => own492 (by omega)), sg_own f (by omega) (fun k p q => own492 (by omega))]; exact h3 hz i i0 i1
theorem M72.fr {W : WNT} (h : M72 s J L W) (f : oEq s cM72 J J') (g : ∀ a i, mOwL s a i → L' a i = L a i) : M72 s J' L' W := by
  intro ep hep
  rw [f 545 _ (own4 (by omega) (by omega)) (by omega), g 546 _ (Or.inr ⟨rfl, by omega⟩)]
  exact h ep hep
theorem M15.fr (h : M15 s J z) (f : oEq s c491 J J') : M15 s J' z := by
  unfold M15 at *
  rw [f 491 2 (own491 (by omega)) (by omega), f 491 1 (own491 (by omega)) (by omega)]
  exact h
theorem ML.ow {lg : List (Int × Int × Nat × Int × Int)} (hs : s01 s) (hl : lg.length ≤ 1836) (h : ML s J lg) (f : oEq s cMSn J J') : ML s J' lg := by
  refine ⟨by rw [f 528 s (own1 (by omega)) (by omega)]; exact h.1, fun i q hq => ?_⟩
  have hi := (List.getElem?_eq_some_iff.mp hq).1
  have h2 := h.2 i q hq
  rw [f 529 _ (own529 (by omega)) (by omega), f 529 _ (own529 (by omega)) (by omega), f 529 _ (own529 (by omega)) (by omega), f 529 _ (own529 (by omega)) (by omega), f 529 _ (own529 (by omega)) (by omega)]
  exact h2
theorem mKa {J J' : zM} (hK : mK (zi J)) (f : oEq s cmK J J') : mK (zi J') := mK_fr hK (funext fun i => f 495 i (own493 (by omega)) (by omega)) (funext fun i => f 496 i (own493 (by omega)) (by omega))
theorem MSn.ot {t : FS} (hs : s01 s) (hd : t.2.2.2.1 = []) (hl : t.2.2.2.2.length ≤ 1836) (h : MSn s J t) (f : oEq s cMSn J J') (h1 : mN (1 - s) J' = mN (1 - s) J) (h2 : mI J') (h3 : J' 491 30 = 0) : MSn s J' t := by
  obtain ⟨a1, a2, a3, a4, a5⟩ := h
  refine ⟨⟨h1.trans a1.1, h2⟩, by rw [f 512 s (own1 (by omega)) (by omega)]; exact a2, fun ep hep => by rw [f 514 _ (own4 (by omega) (by omega)) (by omega)]; exact a3 ep hep, ?_, a5.ow hs hl f⟩
  rw [hd]
  exact ⟨⟨by rw [h3]; rfl, rfl, Nat.zero_le _⟩, Nat.zero_le _⟩
theorem MS.fr {A : SA} (hs : s01 s) (hd : (aT A).2.2.2.1 = []) (hl : (aT A).2.2.2.2.length ≤ 1836) (h : MS s J L A) (f : ∀ a i, mOwn s a i → J' a i = J a i) (g : ∀ a i, mOwL s a i → L' a i = L a i) (h1 : mN (1 - s) J' = mN (1 - s) J) (h2 : mI J') (h3 : J' 491 30 = 0) : MS s J' L' A := by
  obtain ⟨a0, a1, a2, a3, a4, a5, a6, a7, a8, a9, a10, a11, a12⟩ := h
  exact ⟨a0.fr (.all f) g, a1.fr (.all f), a2.fr (.all f), a3.fr hs (.all f), ⟨a4.1.fr hs (.all f), a4.2.fr (.all f)⟩, a5.fr (.all f), a6.fr (.all f), a7.fr hs (.all f), a8.fr (.all f), MSn.ot hs hd hl a9 (.all f) h1 h2 h3, a10.fr (.all f) g, a11.fr (.all f), mKa a12 (.all f)⟩
/-- behind acts of the other side -/
theorem MS.ot {A : SA} {u : Int} (hu : u = 1 - s) (hs : s01 s) (hd : (aT A).2.2.2.1 = []) (hl : (aT A).2.2.2.2.length ≤ 1836) (h : MS s J L A) (o : MO u J L J' L') : MS s J' L' A := by
  subst hu
  have e : (1 : Int) - (1 - s) = s := by omega
  obtain ⟨o1, o2, o3, o4, o5, o6, o7⟩ := o
  rw [e] at o1 o2
  have h30 : J 491 30 = 0 := by have := h.2.2.2.2.2.2.2.2.2.1.2.2.2.1.1.1; rw [hd] at this; exact this
  exact h.fr hs hd hl o1 o2 o3 (o5 h.2.2.2.2.2.2.2.2.2.1.1.2) (o6 h30)
end MFR
