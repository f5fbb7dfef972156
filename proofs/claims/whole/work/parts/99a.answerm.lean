/-! the server's answer, in the model -/
theorem MSc_uT {s : Int} {a b c d : List Int} {J : zM} {L : yM} {A : SA} (h : MSc s J L A) : MSc s J L (uT a b c d A) := by
  obtain ⟨a0, a1, a2, a4, a5, a6, a7, a8, a9, a10, a11, a12⟩ := h
  exact ⟨a0, a1, a2, a4, a5, a6, a7, a8.cg rfl (fun k k0 k1 => uT_y (by omega)), a9, a10, a11, a12⟩
theorem fin_zw {J5 : zM} {fb : List Int} {p : Int} (q1' : sg J5 500 0 32 = fb) (fbl : fb.length = 32) : zcp (zw J5 492 p [20, 32 / 256, 32 % 256]) 500 0 492 (p + 3) 32 = zw J5 492 p (msgI 20 fb) := by
  rw [zcp_zw _ _ _ _ _ _ (by decide), show sg (zw J5 492 p [20, 32 / 256, 32 % 256]) 500 0 (32 : Int).toNat = fb from (by rw [sg_row (zw_r J5 (by decide))]; exact q1'), zw_app J5 492 p (p + 3) [20, 32 / 256, 32 % 256] fb rfl]
  unfold msgI
  rw [fbl]
  rfl
theorem plK_1 : plK 1 2 = 1624 ∧ plK 1 8 = 1654 ∧ plK 1 20 = 1814 := by decide
theorem ms_ans2 {bd its : Int} {bn : Nat} {x7 : Int64} {hand T1 T2 T3 m1 x y z : List Int} {A1 : SA} {J : zM} {L : yM} {Q : zM → yM → Prop} (h : MSc 1 J L A1) (hK0 : aZ A1 13 = 0) (hn0 : 0 ≤ its ∧ its ≤ 1) (hz2 : aZ A1 2 = 0) (hx7 : lN' x7 bn) (hand_e : hand = handI (aY A1 0) (bn : Int)) (hT1 : T1 = m1 ++ msgI 2 x) (hT2 : T2 = T1 ++ msgI 8 y) (hz : z = finI (exD hand 1000016 (hsI T1)) T2) (hT3 : T3 = T2 ++ msgI 20 z) (M1' : mMs J 1536 m1) (M2' : mMs J 1624 (msgI 2 x)) (M3' : mMs J 1654 (msgI 8 y)) (l1 : m1.length ≤ 80) (lx : x.length = 20) (ly : 0 < y.length ∧ y.length ≤ 152) (key : oct (aY A1 0)) (hear : sg J 492 1056 32 = earI (aY A1 0)) (hnow : J 491 3 = aZ A1 17) (dgr : (aT A1).2.2.2.1 = []) (a10 : AI bd 1 (newA (anFl its x y z) (uz 0 1 (uz 2 (its + 1) (uT m1 (msgI 2 x) (msgI 8 y) (msgI 20 z) (threeA (mainI hand) T3 (twoA hand T1 A1)))))))
    (hQ : ∀ J', MS 1 J' L (flyA 1 (newA (anFl its x y z) (uz 0 1 (uz 2 (its + 1) (uT m1 (msgI 2 x) (msgI 8 y) (msgI 20 z) (threeA (mainI hand) T3 (twoA hand T1 A1))))))) → MO 1 J L J' L → Q J' L) :
    w_X12_epochTwo 1 x7 J L (fun J24 L25 => w_X12_finishedTo 1 (1024 + 790) 1 J24 L25 (fun J26 L27 => w_X12_epochThree 1 J26 L27 (fun J28 L29 => ∀ J30 : zM, J30 = zs J28 534 1 1 → ∀ J31 : zM, J31 = zs J30 535 1 (its + 1) → w_X12_clearFlight 1 J31 L29 (fun J32 L33 => w_X12_addFlight 1 (1024 + 600) 0 its J32 L33 (fun J34 L35 => w_X12_addFlight 1 (1024 + 630) 2 (its + 1) J34 L35 (fun J36 L37 => w_X12_addFlight 1 (1024 + 790) 2 (its + 2) J36 L37 (fun J38 L39 => w_X12_fly 1 J38 L39 (fun J40 L41 => Q J40 L41)))))))) := by
  have lzz : z.length = 32 := by rw [hz]; exact mcI_len _ _
  have ozz : oct z := by rw [hz]; exact mcI_oct _ _
  have hm2 : (msgI 2 x).length = 23 := by rw [msgI_len, lx]
  have hm3 : (msgI 8 y).length = 3 + y.length := msgI_len _ _
  have hm4 : (msgI 20 z).length = 35 := by rw [msgI_len, lzz]
  have hkey : sg J 492 (1024 * 1) 16 = aY A1 0 := h.2.2.1.1
  have tr2 : mTr 1 2 J T1 := ⟨m1, msgI 2 x, [], [], M1', fun _ => M2', fun q => absurd q (by decide), fun q => absurd q (by decide), by rw [hT1]; show _ = m1 ++ msgI 2 x ++ [] ++ []; rw [List.append_nil, List.append_nil]⟩
  refine s_epochTwo (by decide) hx7 tr2 h.2.2.2.2.2.2.2.2.2.2.2 (by rw [hkey]; exact key) (by rw [hkey]; exact hear) (fun J1 J2 t1 t2 t3 => ?_)
  rw [hkey, ← hand_e] at t1
  obtain ⟨c2, o2, u2, r2⟩ := h.two (by decide) (by omega) t2 t3 t1
  have k2 : ∀ k, k ≠ 13 → J2 491 k = J 491 k := fun k hk => by rw [t3, zs_r _ (by decide)]; exact t2.1.2 k hk
  have n1 : mMs J2 1536 m1 := M1'.fr2 (fun k _ _ => u2 k (by omega))
  have n2 : mMs J2 1624 (msgI 2 x) := M2'.fr2 (fun k _ _ => u2 k (by omega))
  have n3 : mMs J2 1654 (msgI 8 y) := M3'.fr2 (fun k _ _ => u2 k (by omega))
  have tr3 : mTr 1 3 J2 T2 := ⟨m1, msgI 2 x, msgI 8 y, [], n1, fun _ => n2, fun _ => n3, fun q => absurd q (by decide), by rw [hT2, hT1]; show _ = m1 ++ msgI 2 x ++ msgI 8 y ++ []; rw [List.append_nil]⟩
  have hsec : sg J2 492 (1024 * 1 + 128 + 32 * 1) 32 = exD hand 1000016 (hsI T1) := t1.2.2.2.1
  unfold w_X12_finishedTo
  refine s_finishedM (by decide) (by decide) tr3 c2.2.2.2.2.2.2.2.2.2.2.2 (by rw [hsec]; exact mcI_oct _ _) (fun J5 q1 q2 => ?_)
  rw [hsec, ← hz] at q1
  refine s_putMessage (by decide) (by decide) (s_store (by decide) (by decide) (by decide) ?_)
  rw [fin_zw q1 lzz]
  obtain ⟨J6, hJ6⟩ : ∃ J6, J6 = zw J5 492 (1024 + 790) (msgI 20 z) := ⟨_, rfl⟩
  have n4 : mMs (zw J5 492 (1024 + 790) (msgI 20 z)) (1024 + 790) (msgI 20 z) := mMs_zw (by decide) ozz (by omega)
  rw [← hJ6] at n4 ⊢
  have u6 : ∀ k, ¬ (1814 ≤ k ∧ k < 1849) → J6 492 k = J2 492 k := fun k hk => by rw [hJ6, zw_out J5 (by rw [hm4]; omega), q2.1 492 (by unfold cF cH; omega) (by decide)]
  have f6 : mF (fun a => cF a ∨ a = 492) t13 J2 J6 := (q2.mono (fun a q => Or.inl q) (fun k q => q)).tr (by rw [hJ6]; exact mF_zw (Or.inr rfl) (by decide))
  have c6 := c2.own (J' := J6) (U := fun k => 1814 ≤ k ∧ k < 1849) (by decide) f6 (fun a q => by unfold cF cH at q; omega) (fun k q => by unfold t13 at q; omega) u6 (fun k q => by omega)
  have o6 : MO 1 J2 L J6 L := MO.own (U := fun k => 1814 ≤ k ∧ k < 1849) (by decide) f6 (fun a q => by unfold cF cH at q; omega) (fun k q => by unfold t13 at q; omega) u6 (fun k q => by omega)
  have p1 : mMs J6 1536 m1 := n1.fr2 (fun k _ _ => u6 k (by omega))
  have p2 : mMs J6 1624 (msgI 2 x) := n2.fr2 (fun k _ _ => u6 k (by omega))
  have p3 : mMs J6 1654 (msgI 8 y) := n3.fr2 (fun k _ _ => u6 k (by omega))
  have tr4 : mTr 1 4 J6 T3 := ⟨m1, msgI 2 x, msgI 8 y, msgI 20 z, p1, fun _ => p2, fun _ => p3, fun _ => n4, by rw [hT3, hT2, hT1]; rfl⟩
  have hmain : sg J6 492 (1024 * 1 + 96) 32 = mainI hand := (c6.2.2.2.2.2.2.2.1.1 (show (2 : Int) ≤ 2 by decide)).2.1
  refine s_epochThree (by decide) tr4 c6.2.2.2.2.2.2.2.2.2.2.2 (by rw [hmain]; exact mcI_oct _ _) (fun J7 J8 w1 w2 w3 => ?_)
  rw [hmain] at w1
  obtain ⟨c8, o8, u8, r8⟩ := c6.three (by decide) (show (2 : Int) ≤ 2 by decide) w2 w3 w1
  have k8 : ∀ k, k ≠ 13 → J8 491 k = J6 491 k := fun k hk => by rw [w3, zs_r _ (by decide)]; exact w2.1.2 k hk
  intro J9 e9 J10 e10
  have r10 : ∀ a, a ≠ 534 → a ≠ 535 → J10 a = J8 a := fun a u v => by rw [e10, zs_r _ v, e9, zs_r _ u]
  have c10 : MSc 1 J10 L (uz 0 1 (uz 2 (its + 1) (uT m1 (msgI 2 x) (msgI 8 y) (msgI 20 z) (threeA (mainI hand) T3 (twoA hand T1 A1))))) := by
    have c8' := MSc_uT (a := m1) (b := msgI 2 x) (c := msgI 8 y) (d := msgI 20 z) c8
    obtain ⟨B, hB⟩ : ∃ B, B = uT m1 (msgI 2 x) (msgI 8 y) (msgI 20 z) (threeA (mainI hand) T3 (twoA hand T1 A1)) := ⟨_, rfl⟩
    have b2 : aZ B 2 = aZ A1 2 := by rw [hB]; rfl
    rw [← hB] at c8' ⊢
    clear hB
    obtain ⟨x0, x1, x2', x4, x5, x6, x7', x8, x9, x10', x11, x12⟩ := c8'
    have cc : ∀ (C : Nat → Prop), (∀ a, C a → a ≠ 534 ∧ a ≠ 535) → oEq 1 C J8 J10 := fun C hC a i _ hc => by rw [r10 a (hC a hc).1 (hC a hc).2]
    obtain ⟨y0, y1, y2, y3, y4, y5', y6, y7, y8, y9, y10, y11⟩ := x0
    refine ⟨⟨by rw [e10, zs_r _ (by decide), e9]; exact zs_s _ _ _ _, by rw [e10]; exact zs_s _ _ _ _, ?_, ?_, ?_, ?_, ?_, ?_, ?_, ?_, y10, y11⟩, ⟨fun q => absurd q (by decide), fun q => absurd q (by decide), ?_, ?_⟩, x2'.fr (cc _ (by omega)) (fun k _ _ => by rw [r10 492 (by decide) (by decide)]), ⟨fun n hn => ?_, x4.2.fr (cc _ (by omega))⟩, x5.fr (cc _ (by omega)), (x6.fr (cc _ (by omega))).cg (fun k hk => ?_), x7'.fr (by decide) (cc _ (by omega)), x8.fr (fun k _ _ => by rw [r10 492 (by decide) (by decide)]), MSn.fr x9 (fun a ha => r10 a (by omega) (by omega)) (by rw [r10 491 (by decide) (by decide)]), x10'.fr (cc _ (by omega)) (fun _ _ _ => rfl), x11.fr (cc _ (by omega)), mKa x12 (cc _ (by omega))⟩
    · rw [r10 _ (by decide) (by decide)]; exact y2
    · rw [r10 _ (by decide) (by decide)]; exact y3
    · rw [r10 _ (by decide) (by decide)]; exact y4
    · rw [r10 _ (by decide) (by decide)]; exact y5'
    · rw [r10 _ (by decide) (by decide)]; exact y6
    · rw [r10 _ (by decide) (by decide)]; exact y7
    · rw [r10 _ (by decide) (by decide)]; exact y8
    · rw [r10 _ (by decide) (by decide)]; exact y9
    · rw [r10 506 (by decide) (by decide)]; exact x1.2.2.1
    · rw [r10 507 (by decide) (by decide)]; exact x1.2.2.2
    · have hn : its + 1 ≤ n := hn
      exact (x4.1.fr (by decide) (cc _ (by omega))) n (by omega)
    · show (if 21 + k = 0 then (1 : Int) else if 21 + k = 2 then its + 1 else B.1 (21 + k)) = B.1 (21 + k)
      rw [if_neg (by omega), if_neg (by omega)]
  have o10 : MO 1 J8 L J10 L := by
    rw [e10, e9]
    exact (MO_zs (nown1 (s := 1) (by omega)) (by omega) (by omega) (by omega)).tr (MO_zs (nown1 (s := 1) (by omega)) (by omega) (by omega) (by omega))
  obtain ⟨G, hG⟩ : ∃ G, G = uz 0 1 (uz 2 (its + 1) (uT m1 (msgI 2 x) (msgI 8 y) (msgI 20 z) (threeA (mainI hand) T3 (twoA hand T1 A1)))) := ⟨_, rfl⟩
  have G0 : aZ G 0 = 1 := by rw [hG]; rfl
  have G17 : aZ G 17 = aZ A1 17 := by rw [hG]; rfl
  have G6 : aY G 6 = m1 ∧ aY G 7 = msgI 2 x ∧ aY G 8 = msgI 8 y ∧ aY G 9 = msgI 20 z := by rw [hG]; exact ⟨rfl, rfl, rfl, rfl⟩
  rw [← hG] at c10 a10 hQ
  clear hG
  refine ms_clear (by decide) c10 (fun Ja ca za fla oa ea ova ka => ?_)
  have E492 : ∀ k, Ja 492 k = J8 492 k := fun k => by rw [ea, r10 492 (by decide) (by decide)]
  have s1 : mMs Ja 1536 m1 := p1.fr2 (fun k _ _ => by rw [E492, u8 k (by omega)])
  have s2 : mMs Ja 1624 (msgI 2 x) := p2.fr2 (fun k _ _ => by rw [E492, u8 k (by omega)])
  have s3 : mMs Ja 1654 (msgI 8 y) := p3.fr2 (fun k _ _ => by rw [E492, u8 k (by omega)])
  have s4 : mMs Ja 1814 (msgI 20 z) := n4.fr2 (fun k _ _ => by rw [E492, u8 k (by omega)])
  refine ms_fadd (kind := 2) (num := its) (K' := fun f => if f = 0 then 2 else if f = 1 then 8 else 20) (N' := fun f => its + (f : Int)) (B' := fun f => if f = 0 then x else if f = 1 then y else z) (by decide) ca za fla (fun f hf => absurd hf (Nat.not_lt_zero _)) (by decide) (fun f hf => absurd hf (Nat.not_lt_zero _)) ⟨rfl, by show its + ((0 : Nat) : Int) = its; omega⟩ s2 (by omega) (by show 0 < x.length; omega) (fun Jb cb zb flb ob eb ovb kb => ?_)
  refine ms_fadd (kind := 8) (num := its + 1) (K' := fun f => if f = 0 then 2 else if f = 1 then 8 else 20) (N' := fun f => its + (f : Int)) (B' := fun f => if f = 0 then x else if f = 1 then y else z) (by decide) cb zb flb (fun f hf => rfl) (by decide) (fun f hf => ⟨rfl, rfl, rfl⟩) ⟨rfl, by show its + ((1 : Nat) : Int) = its + 1; omega⟩ (s3.fr2 (fun k _ _ => by rw [eb])) (by omega) ly.1 (fun Jc cc' zc flc oc ec ovc kc => ?_)
  refine ms_fadd (kind := 20) (num := its + 2) (K' := fun f => if f = 0 then 2 else if f = 1 then 8 else 20) (N' := fun f => its + (f : Int)) (B' := fun f => if f = 0 then x else if f = 1 then y else z) (by decide) cc' zc flc (fun f hf => rfl) (by decide) (fun f hf => ⟨rfl, rfl, rfl⟩) ⟨rfl, by show its + ((2 : Nat) : Int) = its + 2; omega⟩ (s4.fr2 (fun k _ _ => by rw [ec, eb])) (by omega) (by show 0 < z.length; omega) (fun Jd cd zd fld od ed ovd kd => ?_)
  have cd' : MSc 1 Jd L (newA (anFl its x y z) G) := by
    have q := MSc_uz10 cd 1
    have e : uz 10 1 (clrA G) = newA FL0 G := by
      refine Prod.ext (funext fun j => ?_) rfl
      show (if j = 10 then (1 : Int) else if j = 10 then 0 else _) = if j = 10 then (1 : Int) else _
      split <;> rfl
    rw [e] at q
    exact q
  refine msc_fly (by decide) cd' fld a10 (by rw [kd, kc, kb, ka, r10 491 (by decide) (by decide), k8 3 (by decide), f6.2 3 (by decide), k2 3 (by decide), hnow]; exact G17.symm) (show ([] : LGT).length + 204 ≤ 1836 by decide) (fun Je ce oe se re => hQ Je ?_ (o2.tr (o6.tr (o8.tr (o10.tr (oa.tr (ob.tr (oc.tr (od.tr oe)))))))))
  have X492 : Je 492 = Ja 492 := by rw [re 492 (by omega), ed, ec, eb]
  refine ce.full ⟨fun q => ?_, fun _ => se, by rw [se]; decide⟩ (fun q => absurd q (by decide)) (fun _ i hi hy => ?_) ⟨?_, fun _ => ⟨?_, show 0 < 3 by decide⟩, fun q => absurd (show (1 : Int) = 0 from q) (by decide), fun _ => 0, fun _ => Or.inl rfl, fun _ _ => rfl, MFl.fr fld (fun a ha => re a (by omega))⟩
  · have q : aZ G 0 = 0 := q
    rw [G0] at q
    exact absurd q (by decide)
  · have : i = 0 ∨ i = 1 ∨ i = 2 ∨ i = 3 := by omega
    rcases this with rfl | rfl | rfl | rfl
    · show mMs Je 1536 (aY G 6); rw [G6.1]; exact s1.fr2 (fun k _ _ => by rw [X492])
    · show mMs Je 1624 (aY G 7); rw [G6.2.1]; exact s2.fr2 (fun k _ _ => by rw [X492])
    · show mMs Je 1654 (aY G 8); rw [G6.2.2.1]; exact s3.fr2 (fun k _ _ => by rw [X492])
    · show mMs Je 1814 (aY G 9); rw [G6.2.2.2]; exact s4.fr2 (fun k _ _ => by rw [X492])
  · rw [re 522 (by omega), ovd, ovc, ovb, ova]; decide
  · rw [re 522 (by omega), ovd, ovc, ovb]; exact ova
