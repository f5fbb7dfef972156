/-! make -/
def fl (k p : Int) : Int := if zand p k = 0 then 0 else 1
def wsF (s p : Int) : Int := if s = 0 then fl 2 p else fl 4 p
def ckF (s p : Int) : Int := if s = 0 then 0 else fl 1 p
theorem fl_b (k p : Int) : B01 (fl k p) := by unfold fl; split <;> decide
theorem ws_b (s p : Int) : B01 (wsF s p) := by unfold wsF; split <;> exact fl_b _ _
theorem ck_b (s p : Int) : B01 (ckF s p) := by unfold ckF; split; exact Or.inl rfl; exact fl_b _ _
theorem fl_z {p : Int} (h : 0 ≤ p ∧ p ≤ 7) : zand p 2 = 2 * fl 2 p ∧ zand p 4 = 4 * fl 4 p ∧ zand p 1 = fl 1 p := by
  have c : p = 0 ∨ p = 1 ∨ p = 2 ∨ p = 3 ∨ p = 4 ∨ p = 5 ∨ p = 6 ∨ p = 7 := by omega
  rcases c with rfl | rfl | rfl | rfl | rfl | rfl | rfl | rfl <;> decide
theorem sg_zero {J : zM} {a : Nat} {i : Int} {c : Nat} (h : ∀ k, i ≤ k → k < i + (c : Int) → J a k = 0) : sg J a i c = List.replicate c 0 := by
  unfold sg
  rw [List.eq_replicate_iff]
  refine ⟨by simp, fun b hb => ?_⟩
  obtain ⟨j, hj, rfl⟩ := List.mem_map.mp hb
  have := List.mem_range.mp hj
  exact h _ (by omega) (by omega)
theorem Z16_r : Z16 = List.replicate 16 0 ∧ Z8 = List.replicate 8 0 := by decide
theorem oct_zero (c : Nat) : oct (List.replicate c 0) := fun x hx => by rw [List.eq_of_mem_replicate hx]; decide
theorem MS_fr {s p1 p2 : Int} {y : Nat → List Int} {J : zM} {L : yM} (hs : s01 s) (h : MA p1 p2 J L) (hp : 0 ≤ p1 ∧ p1 ≤ 7) (hK : mK (zi J)) (hy : y 0 = Z16 ∧ y 1 = Z8 ∧ y 2 = Z8 ∧ y 3 = []) : MS s J L (frA s p2 (wsF s p1) (ckF s p1) y) := by
  obtain ⟨⟨g1, g2, g3, g4, g9, g7, g30, g58⟩, z492, z537, z8, z540, ms⟩ := h
  obtain ⟨u1, u2, u3, u4, u5⟩ := ms s hs
  have Z : ∀ c, sdZ c → J c s = 0 := u1
  obtain ⟨y0, y1, y2, y3⟩ := hy
  have f := fl_z hp
  refine ⟨⟨?_, ?_, ?_, ?_, ?_, ?_, ?_, ?_, ?_, ?_, ?_, ?_⟩, ⟨fun q _ => Or.inl ⟨?_, ?_⟩, fun _ => ?_, fun lv => absurd (show live (0 : Int) from lv) (by unfold live; omega), ?_, fun q => ⟨fun _ => g4, fun lv => absurd (show live (0 : Int) from lv) (by unfold live; omega), by rw [g4]; decide, g58⟩, ?_, ?_⟩, ⟨?_, ?_, ?_, fun q lv => absurd (show live (0 : Int) from lv) (by unfold live; omega), fun q => ⟨?_, ?_⟩⟩, ⟨?_, fun q => absurd (show (0 : Int) = 1 from q) (by decide), fun _ _ => Or.inr rfl, fun _ => 0, fun _ => Or.inl rfl, fun q => absurd (show (0 : Int) = 1 from q) (by decide), ?_, show (0 : Nat) ≤ 3 by decide, fun f hf => absurd (show f < 0 from hf) (Nat.not_lt_zero f), fun f hf => absurd (show f < 0 from hf) (Nat.not_lt_zero f)⟩, ⟨fun n hn => ⟨⟨fun q => ?_, fun q => absurd rfl q⟩, fun q => absurd rfl q⟩, fun j j0 j1 => ?_⟩, ⟨⟨?_, show (0 : Nat) ≤ 8 by decide, fun i q hq => absurd (show ([] : List (Int × Int))[i]? = some q from hq) (by simp)⟩, fun q => absurd rfl q⟩, fun k hk => ?_, fun i w hw => absurd (show ([] : List (List Int))[i]? = some w from hw) (by simp), ⟨fun lv => absurd (show live (0 : Int) from lv) (by unfold live; omega), fun q => absurd (show (2 : Int) ≤ 0 from q) (by decide), fun q => absurd (show (3 : Int) ≤ 0 from q) (by decide), ?_⟩, ⟨⟨?_, ?_⟩, ?_, fun ep hep => ⟨?_, show (0 : Int) ≤ 0 by decide, show (0 : Int) ≤ 65536 by decide⟩, ⟨⟨g30, rfl, show (0 : Nat) ≤ 600 by decide⟩, show (0 : Nat) ≤ 500 by decide⟩, ?_, fun i q hq => absurd (show ([] : LGT)[i]? = some q from hq) (by simp)⟩, fun ep hep => ⟨?_, ?_⟩, ⟨g2, fun q => ?_, fun q => ⟨?_, ?_⟩⟩, hK⟩
  · exact Z 534 (by unfold sdZ; decide)
  · exact Z 535 (by unfold sdZ; decide)
  · exact u2
  · exact Z 539 (by unfold sdZ; decide)
  · exact Z 547 (by unfold sdZ; decide)
  · exact Z 527 (by unfold sdZ; decide)
  · exact Z 524 (by unfold sdZ; decide)
  · exact Z 525 (by unfold sdZ; decide)
  · exact Z 526 (by unfold sdZ; decide)
  · exact Z 503 (by unfold sdZ; decide)
  · rw [u5]; rfl
  · rw [u4]; rfl
  · show (if s = 0 then (2 : Int) else 20) = 2
    rw [if_pos q]
  · have w := u3
    rw [if_pos q, q] at w
    exact w
  · exact Z 523 (by unfold sdZ; decide)
  · rw [Z 523 (by unfold sdZ; decide)]; decide
  · rw [Z 506 (by unfold sdZ; decide)]; rfl
  · rw [Z 507 (by unfold sdZ; decide)]; rfl
  · show _ = y 0
    rw [y0, Z16_r.1]; exact sg_zero (fun k p q => z492 k (by omega) (by omega))
  · show _ = y 1
    rw [y1, Z16_r.2]; exact sg_zero (fun k p q => z492 k (by omega) (by omega))
  · show _ = y 2
    rw [y2, Z16_r.2]; exact sg_zero (fun k p q => z492 k (by omega) (by omega))
  · show _ = ((y 3).length : Int)
    rw [y3]; exact g7
  · show sg J 493 0 (y 3).length = y 3
    rw [y3]; rfl
  · rw [Z 522 (by unfold sdZ; decide)]; decide
  · exact Z 517 (by unfold sdZ; decide)
  · have w := z540 (8 * s + n % 8) (by omega) (by omega)
    have n0 : (0 : Int) ≤ n := hn
    omega
  · rw [z540 _ (by omega) (by omega)]; decide
  · exact Z 530 (by unfold sdZ; decide)
  · rw [z537 _ (by omega) (by omega)]
    show (0 : Int) = zFr s p2 (wsF s p1) (ckF s p1) (21 + k)
    unfold zFr
    rw [if_neg (by omega), if_neg (by omega), if_neg (by omega), if_neg (by omega), if_neg (by omega)]
  · rw [sg_zero (fun k p q => z492 k (by omega) (by omega))]; exact oct_zero _
  · unfold mN
    have w := (ms (1 - s) (s01o hs)).1 509 (by unfold sdZ; decide)
    rw [w]
    rfl
  · intro t ht
    have w := (ms t ht).1 509 (by unfold sdZ; decide)
    rw [w]
    exact ⟨by decide, fun i i0 i1 => absurd i0 (by omega)⟩
  · exact Z 512 (by unfold sdZ; decide)
  · exact (z8 _ (by unfold ep3 at hep; omega) (by unfold ep3 at hep; omega)).1
  · exact Z 528 (by unfold sdZ; decide)
  · exact (z8 _ (by unfold ep3 at hep; omega) (by unfold ep3 at hep; omega)).2.1
  · exact (z8 _ (by unfold ep3 at hep; omega) (by unfold ep3 at hep; omega)).2.2
  · rw [g1, f.1]
    show 2 * fl 2 p1 = 2 * wsF s p1
    unfold wsF
    rw [if_pos q]
  · rw [g1, f.2.1]
    show 4 * fl 4 p1 = 4 * wsF s p1
    unfold wsF
    rw [if_neg (by omega)]
  · rw [g1, f.2.2]
    show fl 1 p1 = ckF s p1
    unfold ckF
    rw [if_neg (by omega)]
theorem AI_fr {bd s p2 ws ck : Int} {y : Nat → List Int} (hs : s01 s) (hb : 0 ≤ bd) (hm : 100 ≤ p2 ∧ p2 ≤ 500) (hw : B01 ws) (hc : B01 ck) (hy : AIy y) (h5 : y 5 = []) : AI bd s (frA s p2 ws ck y) := by
  have z0 : (0 : Int) ≤ 0 ∧ (0 : Int) ≤ bd := ⟨by decide, hb⟩
  refine ⟨⟨show (0 : Int) ≤ 0 ∧ (0 : Int) ≤ 4 by decide, ?_, show (0 : Int) ≤ 0 ∧ (0 : Int) ≤ 256 by decide, show (-1 : Int) ≤ -1 ∧ (-1 : Int) < 256 by decide, Or.inl rfl, z0, ⟨show ((0 : Nat) : Int) ≤ 100 by decide, show ((0 : Nat) : Int) ≤ 0 by decide, Or.inl rfl⟩, fun q => absurd (show (0 : Int) = 1 from q) (by decide), show (0 : Int) ≤ 0 ∧ (0 : Int) ≤ 0 by decide, show (0 : Int) ≤ 0 ∧ (0 : Int) ≤ 8 by decide, Or.inl rfl, show (0 : Int) ≤ 0 ∧ (0 : Int) ≤ 2 by decide, Or.inl rfl, Or.inl rfl, show (0 : Int) ≤ 0 ∧ (0 : Int) ≤ 0 by decide, show (0 : Int) ≤ 0 ∧ (0 : Int) < 2147483647 by decide, show (0 : Int) ≤ 0 ∧ (0 : Int) < 2147483647 by decide, z0, hm, hw, hc, show ((0 : Nat) : Int) ≤ 204 * (0 + 1) by decide, fun _ => ⟨rfl, rfl, rfl, rfl, rfl, rfl, fun q => ?_, ?_, rfl⟩, fun _ q => absurd (show (0 : Int) = 2 ∨ (0 : Int) = 3 from q) (by decide), fun q => ?_, fun lv => absurd (show live (0 : Int) from lv) (by unfold live; omega), fun _ q => absurd (show (0 : Int) = 1 from q) (by decide), fun _ lv => absurd (show live (0 : Int) from lv) (by unfold live; omega), fun q => absurd (show (0 : Int) = 2 ∨ (0 : Int) = 3 from q) (by decide), fun _ => rfl⟩, hy, ⟨fun lv => absurd (show live (0 : Int) from lv) (by unfold live; omega), fun _ q => absurd (show (0 : Int) = 1 from q) (by decide), fun _ lv => absurd (show live (0 : Int) from lv) (by unfold live; omega)⟩, ⟨⟨show (0 : Nat) ≤ 3 by decide, fun f hf => absurd (show f < 0 from hf) (Nat.not_lt_zero f), show (0 : Nat) ≤ 204 by decide⟩, fun _ => Or.inl rfl, fun q hq => absurd hq List.not_mem_nil, fun f hf => absurd (show f < 0 from hf) (Nat.not_lt_zero f)⟩, fun n hn hk => absurd rfl hk, ⟨show (0 : Nat) ≤ 8 by decide, fun q hq => absurd hq List.not_mem_nil⟩, fun ep _ => show (-1 : Int) ≤ -1 ∧ (-1 : Int) < 65536 by decide, ⟨⟨show (0 : Nat) ≤ 60 by decide, fun d hd => absurd hd List.not_mem_nil⟩, fun ep _ => show (0 : Int) ≤ 0 ∧ (0 : Int) ≤ 65536 by decide, rfl⟩, fun w hw => absurd hw List.not_mem_nil, fun f hf => absurd (show f < 0 from hf) (Nat.not_lt_zero f)⟩
  · show (if s = 0 then (2 : Int) else 20) = 2 ∨ (if s = 0 then (2 : Int) else 20) = 8 ∨ (if s = 0 then (2 : Int) else 20) = 20
    split
    · exact Or.inl rfl
    · exact Or.inr (Or.inr rfl)
  · show (if s = 0 then (2 : Int) else 20) = 2
    rw [if_pos q]
  · show (y 5).length = 0
    rw [h5]
    rfl
  · show (if s = 0 then (2 : Int) else 20) = 20
    rw [if_neg (by omega)]
/-- what the class is before it is made -/
def XP0 (J : zM) : Prop := ∀ s, s01 s → (J (sd s) 0 = s ∧ J (sd s + 168) 0 = s ∧ J (sd s + 13) 0 = 0 ∧ xZ (sd s) J ∧ iR (nt s) J ∧ iR (sd s + 38) J) ∧ oct (sg J (sd s + 6) 0 16) ∧ (∀ i : Nat, i < 6 → oct (sg J (sd s + 146 + i) 0 32)) ∧ ∀ i : Nat, i < 4 → oct (sg J (sd s + 153 + i) 0 32) ∧ oct (sg J (sd s + 158 + i) 0 32)
theorem XP0_of {bd N : Int} {G : GA} {D : List Int} {J : zM} {L : yM} (h : PX J L G D N) (hI : PI bd G D N) : XP0 J := by
  intro s hs
  have X := h.1 s hs
  have y := (hI.ai hs).y
  obtain ⟨q1, q2, q3, q4, q5, q6⟩ := X.2.2.2.2.2.2.2.2.1
  refine ⟨⟨X.1.1, X.2.2.2.2.2.2.2.2.2.1.1, X.2.2.2.1.2.2.2.2.2.2.2.1 0 (Nat.zero_le _), q3, (px_net h hs).2.1, X.2.2.2.2.2.2.2.1.2⟩, ?_, fun i hi => ?_, fun i hi => ⟨?_, ?_⟩⟩
  · rw [X.2.2.1.2.2.2.2.1]; exact y.2.2.2.2.1.2
  · rw [q4 i hi]; exact (y.2.2.2.2.2.2 (10 + i) (by omega) (by omega)).2
  · rw [(q5 i hi).1]; exact (y.2.2.2.2.2.2 (16 + i) (by omega) (by omega)).2
  · rw [(q5 i hi).2]; exact (y.2.2.2.2.2.2 (20 + i) (by omega) (by omega)).2
theorem yFr_fr {e : Nat} {J J' : zM} (f : ∀ a, e ≤ a ∧ a < e + 176 → J' a = J a) : yFr e J' = yFr e J := by
  funext k
  unfold yFr
  by_cases c : k < 24
  · rw [sg_row (f (e + 6) (by omega)), sg_row (f (e + 146 + (k - 10)) (by omega)), sg_row (f (e + 153 + (k - 16)) (by omega)), sg_row (f (e + 158 + (k - 20)) (by omega))]
  · rw [if_neg (by omega), if_neg (by omega), if_neg (by omega), if_neg (by omega), if_neg (by omega), if_neg (by omega), if_neg (by omega), if_neg c, if_neg (by omega), if_neg (by omega), if_neg (by omega), if_neg (by omega), if_neg (by omega), if_neg (by omega), if_neg (by omega), if_neg c]
def frG (p1 p2 : Int) (J : zM) : GA := fun s => frA s p2 (wsF s p1) (ckF s p1) (yFr (sd s) J)
theorem yFr_ok {J : zM} {s : Int} (hs : s01 s) (h : XP0 J) : AIy (yFr (sd s) J) ∧ yFr (sd s) J 5 = [] := by
  obtain ⟨-, o4, o10, o16⟩ := h s hs
  have z := Z16_r
  refine ⟨⟨⟨?_, ?_⟩, ⟨?_, ?_⟩, ⟨?_, ?_⟩, ⟨show (0 : Nat) ≤ 150 by decide, oct_nil⟩, ⟨sg_len _ _ _ _, o4⟩, ⟨Or.inl rfl, oct_nil⟩, fun k k0 k1 => ?_⟩, rfl⟩
  · show Z16.length = 16
    rw [z.1]; rfl
  · show oct Z16
    rw [z.1]; exact oct_zero _
  · show Z8.length = 8
    rw [z.2]; rfl
  · show oct Z8
    rw [z.2]; exact oct_zero _
  · show Z8.length = 8
    rw [z.2]; rfl
  · show oct Z8
    rw [z.2]; exact oct_zero _
  · unfold yFr
    rw [if_neg (by omega), if_neg (by omega), if_neg (by omega), if_neg (by omega), if_neg (by omega)]
    by_cases c : k < 16
    · rw [if_pos c]; exact ⟨sg_len _ _ _ _, o10 _ (by omega)⟩
    · rw [if_neg c]
      by_cases d : k < 20
      · rw [if_pos d]; exact ⟨sg_len _ _ _ _, (o16 _ (by omega)).1⟩
      · rw [if_neg d, if_pos k1]; exact ⟨sg_len _ _ _ _, (o16 _ (by omega)).2⟩
theorem PI_fr {bd p1 p2 : Int} {J : zM} (hb : 0 ≤ bd) (h : XP0 J) (hm : 100 ≤ p2 ∧ p2 ≤ 500) : PI bd (frG p1 p2 J) [] 0 := by
  refine ⟨fun s hs => ⟨AI_fr hs hb hm (ws_b s p1) (ck_b s p1) (yFr_ok hs h).1 (yFr_ok hs h).2, fun q => absurd (show (0 : Int) = 1 from q) (by decide), fun q => absurd (show (0 : Int) = 1 from q.1) (by decide), rfl⟩, by decide, oct_nil, by decide, hb⟩
theorem px_make {p1 p2 : Int} {J : zM} {L : yM} {Q : zM → yM → Prop} (h : XP0 J) (hQ : ∀ J' L', PX J' L' (frG p1 p2 J) [] 0 → XG J L J' L' → Q J' L') : w_X11_startAnew p1 p2 J L Q := by
  have s0 : s01 0 := Or.inl rfl
  have s1 : s01 1 := Or.inr rfl
  obtain ⟨a1, a2, a3, a4, a5, a6⟩ := (h 0 s0).1
  obtain ⟨b1, b2, b3, b4, b5, b6⟩ := (h 1 s1).1
  unfold w_X11_startAnew w_X4_empty
  intro J2 e2 J5 e5 K11 hK11
  have f5 : ∀ a, a ≠ 11 → a ≠ 75 → J5 a = J a := fun a p q => by rw [e5, zs_r _ q, e2, zs_r _ p]
  have n2 : iR 11 J2 ∧ rL 11 J2 = [] := by rw [e2]; exact iR_0 a5
  have n75 : iR 75 J2 := (rL_fr (r := 75) (J := J) (J' := J2) (fun a ha => by
    have ha : cR 75 a := Classical.not_not.mp ha
    unfold cR at ha
    rw [e2]
    exact zs_r _ (by omega)) b5).2
  have n5 : iR 75 J5 ∧ rL 75 J5 = [] := by rw [e5]; exact iR_0 n75
  have m5 : iR 11 J5 ∧ rL 11 J5 = [] := by
    have w := rL_fr (r := 11) (J := J2) (J' := J5) (fun a ha => by
      have ha : cR 11 a := Classical.not_not.mp ha
      have hq : rq 11 = 60 := by decide
      unfold cR at ha
      rw [e5]
      exact zs_r _ (by omega)) n2.1
    exact ⟨w.2, w.1.trans n2.2⟩
  have i38 : ∀ r, 139 ≤ r → iR r J → iR r J5 := fun r hr hi => (rL_fr (r := r) (J := J) (J' := J5) (fun a ha => by
    have ha : cR r a := Classical.not_not.mp ha
    unfold cR at ha
    exact f5 a (by omega) (by omega)) hi).2
  have P0 : XPr 139 0 J5 := by
    refine ⟨by rw [f5 139 (by decide) (by decide)]; exact a1, by rw [f5 (139 + 168) (by decide) (by decide)]; exact a2, by rw [f5 (139 + 13) (by decide) (by decide)]; exact a3, ?_, ⟨n5.2, n5.1⟩, i38 _ (by decide) a6⟩
    unfold xZ
    rw [sg_row (f5 (139 + 167) (by decide) (by decide))]
    exact a4
  have go : ∀ x8 : Int, x8 = wsF 0 p1 → K11 x8 J5 L := fun x8 h8 => hK11 x8 J5 L (by
    refine xs_anew (s := 0) (Or.inl rfl) s0 P0 (Or.inl rfl) (by rw [h8]; exact ws_b 0 p1) (fun J12 L12 X12 f12 K18 hK18 => ?_)
    have P1 : XPr 315 1 J12 := by
      have r12 : ∀ a, a < 139 ∨ 315 ≤ a → J12 a = J5 a := fun a ha => (f12 a (by omega)).1
      have w := rL_fr (r := 11) (J := J5) (J' := J12) (fun a ha => by
        have ha : cR 11 a := Classical.not_not.mp ha
        have hq : rq 11 = 60 := by decide
        unfold cR at ha
        exact r12 a (by omega)) m5.1
      have w38 := rL_fr (r := 315 + 38) (J := J5) (J' := J12) (fun a ha => by
        have ha : cR (315 + 38) a := Classical.not_not.mp ha
        unfold cR at ha
        exact r12 a (by omega)) (i38 _ (by decide) b6)
      refine ⟨by rw [r12 315 (by decide), f5 315 (by decide) (by decide)]; exact b1, by rw [r12 (315 + 168) (by decide), f5 (315 + 168) (by decide) (by decide)]; exact b2, by rw [r12 (315 + 13) (by decide), f5 (315 + 13) (by decide) (by decide)]; exact b3, ?_, ⟨w.1.trans m5.2, w.2⟩, w38.2⟩
      unfold xZ
      rw [sg_row (r12 (315 + 167) (by decide)), sg_row (f5 (315 + 167) (by decide) (by decide))]
      exact b4
    have y0 : yFr 139 J5 = yFr 139 J := yFr_fr (fun a ha => f5 a (by omega) (by omega))
    have y1 : yFr 315 J12 = yFr 315 J := yFr_fr (fun a ha => by rw [(f12 a (by omega)).1]; exact f5 a (by omega) (by omega))
    have go2 : ∀ x15 : Int, x15 = ckF 1 p1 → K18 x15 J12 L12 := fun x15 h15 => hK18 x15 J12 L12 (by
      intro K22 hK22
      have go3 : ∀ x19 : Int, x19 = wsF 1 p1 → K22 x19 J12 L12 := fun x19 h19 => hK22 x19 J12 L12 (by
        refine xs_anew (s := 1) (Or.inr rfl) s1 P1 (by rw [h15]; exact ck_b 1 p1) (by rw [h19]; exact ws_b 1 p1) (fun J23 L23 X23 f23 J25 e25 J26 e26 => ?_)
        have f26 : ∀ a, a ≠ 0 → J26 a = J23 a := fun a ha => by rw [e26, zs_r _ ha, e25, zs_r _ ha]
        refine hQ J26 L23 ⟨fun t ht => ?_, ⟨by rw [e26, zs_n _ (Or.inr (by decide)), e25]; exact zs_s _ _ _ _, rfl⟩, by rw [e26]; exact zs_s _ _ _ _⟩ (fun a ha => ⟨?_, ?_⟩)
        · have b := sd_b ht
          have ot : ∀ (A : SA), XS (sd t) t J23 L23 A → XS (sd t) t J26 L23 A := fun A hA => XS.ot (sdE ht) hA (fun a ha => f26 a (by
            rcases ha with ha | ha
            · omega
            · have w := wy_out (sdE ht) ha; omega)) (fun _ _ => rfl)
          refine ot _ ?_
          rcases ht with rfl | rfl
          · show XS 139 0 J23 L23 (frA 0 p2 (wsF 0 p1) (ckF 0 p1) (yFr 139 J))
            rw [← y0, ← h8]
            refine XS.ot (Or.inl rfl) X12 (fun a ha => (f23 a ?_).1) (fun a ha => (f23 a (by omega)).2)
            rcases ha with ha | ha
            · omega
            · have w := wy_out (e := 139) (Or.inl rfl) ha; omega
          · show XS 315 1 J23 L23 (frA 1 p2 (wsF 1 p1) (ckF 1 p1) (yFr 315 J))
            rw [← y1, ← h19, ← h15]
            exact X23
        · rw [f26 a (by omega), (f23 a (by omega)).1, (f12 a (by omega)).1, f5 a (by omega) (by omega)]
        · rw [(f23 a (by omega)).2, (f12 a (by omega)).2])
      by_cases c : zand p1 4 = 0
      · rw [if_pos c]; exact go3 0 (by unfold wsF fl; rw [if_neg (by decide), if_pos c])
      · rw [if_neg c]; exact go3 1 (by unfold wsF fl; rw [if_neg (by decide), if_neg c]))
    by_cases c : zand p1 1 = 0
    · rw [if_pos c]; exact go2 0 (by unfold ckF fl; rw [if_neg (by decide), if_pos c])
    · rw [if_neg c]; exact go2 1 (by unfold ckF fl; rw [if_neg (by decide), if_neg c]))
  by_cases c : zand p1 2 = 0
  · rw [if_pos c]; exact go 0 (by unfold wsF fl; rw [if_pos rfl, if_pos c])
  · rw [if_neg c]; exact go 1 (by unfold wsF fl; rw [if_pos rfl, if_neg c])
theorem PM_fr {p1 p2 : Int} {J0 J : zM} {L : yM} (h : MA p1 p2 J L) (hp : 0 ≤ p1 ∧ p1 ≤ 7) (hK : mK (zi J)) : PM J L (frG p1 p2 J0) [] 0 := ⟨fun s hs => MS_fr hs h hp hK ⟨rfl, rfl, rfl, rfl⟩, ⟨h.1.2.2.2.2.1, rfl⟩, h.1.2.2.1⟩
theorem call_make {bd a b : Int} {J : zM} {L : yM} (h : PB bd J L) (hbd : 0 ≤ bd) (ra : R32 a) (rb : R32 b) : w_X11_make a b J L (QV bd (w_X12_make a b)) (XW bd [(IAE, 1)] (w_X12_make a b)) := by
  obtain ⟨G, D, N, hx, hm, hI⟩ := h
  have bad : ¬ (0 ≤ a ∧ a ≤ 7 ∧ 100 ≤ b ∧ b ≤ 500) → XW bd [(IAE, 1)] (w_X12_make a b) IAE J L := fun q => ⟨1, List.mem_singleton.mpr rfl, by
    unfold w_X12_make
    intro K4 hK4 K12 hK12
    have go : K12 J L := hK12 J L (m_thzK hK4 hm (by decide) (fun J8 P M z => ⟨z, trivial, PB.q hx hI P M⟩))
    refine ⟨ra, ?_⟩
    by_cases c1 : a < 0
    · rw [if_pos c1]; exact go
    rw [if_neg c1]
    by_cases c2 : 7 < a
    · rw [if_pos c2]; exact go
    rw [if_neg c2]
    refine ⟨rb, ?_⟩
    by_cases c3 : b < 100
    · rw [if_pos c3]; exact go
    rw [if_neg c3, if_pos (by omega)]
    exact go⟩
  unfold w_X11_make
  refine ⟨ra, ?_⟩
  by_cases c1 : a < 0
  · rw [if_pos c1]; exact bad (by omega)
  rw [if_neg c1]
  by_cases c2 : 7 < a
  · rw [if_pos c2]; exact bad (by omega)
  rw [if_neg c2]
  refine ⟨rb, ?_⟩
  by_cases c3 : b < 100
  · rw [if_pos c3]; exact bad (by omega)
  rw [if_neg c3]
  by_cases c4 : 500 < b
  · rw [if_pos c4]; exact bad (by omega)
  rw [if_neg c4]
  have xp := XP0_of hx hI
  refine px_make xp (fun J1 L1 X1 O1 => ?_)
  have m1 := hm.xg hI O1
  unfold QV w_X12_make
  intro K4 hK4 K12 hK12
  refine ⟨ra, ?_⟩
  rw [if_neg c1, if_neg c2]
  refine ⟨rb, ?_⟩
  rw [if_neg c3, if_neg c4]
  refine m_thz0 hK4 m1 (fun J8 P M z => ?_)
  refine s_setUp (fun J9 L9 ma z9 f9 => ?_)
  have mk := (P.1 0 (Or.inl rfl)).2.2.2.2.2.2.2.2.2.2.2.2
  exact ⟨z9.trans z, trivial, frG a b J, [], 0, (X1.mg M).mg (fun c hc => f9 c (by omega)), PM_fr ma (by omega) (mK_fr mk (f9 495 (by decide)).1 (f9 496 (by decide)).1), PI_fr hbd xp (by omega)⟩
