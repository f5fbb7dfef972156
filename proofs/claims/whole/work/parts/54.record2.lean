/-! records: the class's -/
def xMd (e : Nat) (J : zM) (d : List Int) : Prop := J (e + 168) 7 = (d.length : Int) ∧ sg J (e + 169) 0 d.length = d ∧ d.length ≤ 500
theorem xMd.fr {e : Nat} {J J' : zM} {d : List Int} (h : xMd e J d) (h1 : J' (e + 168) 7 = J (e + 168) 7) (h2 : J' (e + 169) = J (e + 169)) : xMd e J' d := by
  unfold xMd
  rw [h1, sg_row h2]
  exact h
theorem s_putTwoShorts {e : Nat} {p a b : Int} {J : zM} {L : yM} {Q : zM → yM → Prop} (hp : 0 ≤ p ∧ p + 4 ≤ 500) (ha : 0 ≤ a ∧ a < 65536) (hb : 0 ≤ b ∧ b < 65536) (hQ : Q (zw J (e + 169) p [a / 256, a % 256, b / 256, b % 256]) L) : w_X6_putTwoShorts e p a b J L Q := by
  unfold w_X6_putTwoShorts
  rw [zush_n ⟨ha.1, by omega⟩ (by decide), zush_n ⟨hb.1, by omega⟩ (by decide), zand255, zand255, show (2 : Int) ^ (8 : Int).toNat = 256 from rfl]
  refine ⟨⟨by omega, by omega⟩, fun J1 e1 => ⟨⟨by omega, by omega⟩, fun J2 e2 => ⟨⟨by omega, by omega⟩, fun J3 e3 => ⟨⟨by omega, by omega⟩, fun J4 e4 => ?_⟩⟩⟩⟩
  have h0 := zw_nil J (e + 169) p
  have h1 := zw_snoc J (e + 169) p [] (a / 256)
  have h2 := zw_snoc J (e + 169) p [a / 256] (a % 256)
  have h3 := zw_snoc J (e + 169) p [a / 256, a % 256] (b / 256)
  have h4 := zw_snoc J (e + 169) p [a / 256, a % 256, b / 256] (b % 256)
  rw [h0] at h1
  simp only [List.length_nil, List.length_cons, List.nil_append, List.cons_append] at h1 h2 h3 h4
  have g1 : J1 = zw J (e + 169) p [a / 256] := by rw [e1, ← h1]; congr 1; omega
  have g2 : J2 = zw J (e + 169) p [a / 256, a % 256] := by rw [e2, g1, ← h2]; congr 1
  have g3 : J3 = zw J (e + 169) p [a / 256, a % 256, b / 256] := by rw [e3, g2, ← h3]; congr 1
  have g4 : J4 = zw J (e + 169) p [a / 256, a % 256, b / 256, b % 256] := by rw [e4, g3, ← h4]; congr 1
  rw [g4]
  exact hQ
abbrev cPut (e a : Nat) : Prop := (6 ≤ a ∧ a ≤ 10) ∨ a = e + 166 ∨ (e + 168 ≤ a ∧ a ≤ e + 169) ∨ a = e + 171
theorem sg_zw_in {J : zM} {a : Nat} {p : Int} {l : List Int} {i : Int} {c : Nat} (h : ∀ k, i ≤ k → k < i + (c : Int) → ¬ (p ≤ k ∧ k < p + (l.length : Int))) : sg (zw J a p l) a i c = sg J a i c := sg_fr (fun k k0 k1 => zw_out J (h k k0 k1))
theorem s_putRecord {e : Nat} {s ep type n : Int} {d content : List Int} {J : zM} {L : yM} {Q : Int → zM → yM → Prop} (he : iSide e) (hs : s01 s) (hse : J (e + 168) 0 = s) (hep : ep = 0 ∨ ep = 2 ∨ ep = 3) (hn : J (e + 171) ep = n) (hn2 : 0 ≤ n ∧ n ≤ 65535) (hd : xMd e J d) (hi2 : sg J (e + 170) 0 content.length = content) (hmt : 0 ≤ J (e + 168) 6 ∧ J (e + 168) 6 ≤ 500) (hroom : (d.length : Int) + (content.length : Int) + (if ep = 0 then 6 else 14) ≤ J (e + 168) 6)
    (hQ : ∀ J', xMd e J' (d ++ recI ep type n (sg J (e + 153 + (2 * (ep - 2) + s).toNat) 0 32) (sg J (e + 158 + (2 * (ep - 2) + s).toNat) 0 32) content) → J' (e + 171) = (zs J (e + 171) ep (n + 1)) (e + 171) → (∀ k, k ≠ 7 → J' (e + 168) k = J (e + 168) k) → zF (cPut e) J J' → Q n J' L) : w_X6_putRecord e ep type (content.length : Int) J L Q := by
  have he2 : 139 ≤ e := by unfold iSide at he; omega
  obtain ⟨d1, d2, d3⟩ := hd
  have hr6 : ep = 0 → (d.length : Int) + (content.length : Int) + 6 ≤ J (e + 168) 6 := fun c => by rw [if_pos c] at hroom; exact hroom
  have hr14 : ep ≠ 0 → (d.length : Int) + (content.length : Int) + 14 ≤ J (e + 168) 6 := fun c => by rw [if_neg c] at hroom; exact hroom
  unfold w_X6_putRecord
  refine ⟨by omega, fun x ex => ?_⟩
  rw [hn] at ex
  subst ex
  refine ⟨⟨by omega, by omega⟩, ?_⟩
  rw [if_neg (by omega)]
  have fits : ∀ r, (ep = 0 → r = J (e + 168) 6 - (d.length : Int) - 6) → (ep ≠ 0 → r = J (e + 168) 6 - (d.length : Int) - 14) → R32 r ∧ ¬ r < (content.length : Int) := fun r h1 h2 => by
    by_cases c : ep = 0
    · have := h1 c; have := hr6 c; exact ⟨⟨by omega, by omega⟩, by omega⟩
    · have := h2 c; have := hr14 c; exact ⟨⟨by omega, by omega⟩, by omega⟩
  have room : ∀ (P : Int → zM → yM → Prop), (∀ r, R32 r ∧ ¬ r < (content.length : Int) → P r J L) → w_X6_roomFor e ep J L P := fun P hP => by
    unfold w_X6_roomFor
    refine ⟨⟨by omega, by omega⟩, ?_⟩
    rw [d1]
    by_cases c : ep = 0
    · rw [if_pos c]; exact hP _ (fits _ (fun _ => rfl) (fun q => absurd c q))
    · rw [if_neg c]; exact hP _ (fits _ (fun q => absurd q c) (fun _ => rfl))
  refine room _ (fun r hr => ?_)
  refine ⟨⟨by omega, by omega⟩, hr.1, ?_⟩
  rw [if_neg hr.2]
  refine ⟨by omega, fun J1 e1 b eb => ?_⟩
  have r1 : ∀ a, a ≠ e + 171 → J1 a = J a := fun a ha => by rw [e1]; exact zs_r J ha
  rw [r1 (e + 168) (by omega), d1] at eb
  refine ⟨⟨by omega, by omega⟩, ?_⟩
  by_cases c : ep = 0
  · rw [if_pos c]
    have h6 := hr6 c
    refine ⟨⟨by omega, by omega⟩, fun J2 e2 => ⟨⟨by omega, by omega⟩, fun J3 e3 => ?_⟩⟩
    refine s_putTwoShorts (by omega) (by omega) (by omega) ?_
    obtain ⟨J4, e4⟩ : ∃ J4, J4 = zw J3 (e + 169) (b + 2) [x / 256, x % 256, (content.length : Int) / 256, (content.length : Int) % 256] := ⟨_, rfl⟩
    rw [← e4]
    refine ⟨⟨by omega, by omega, by omega, by omega, by omega⟩, fun J5 e5 J6 e6 => hQ J6 ?_ ?_ ?_ ?_⟩
    · have r6 : J6 (e + 169) = J5 (e + 169) := by rw [e6]; exact zs_r J5 (by omega)
      have hl : (d ++ recI ep type x (sg J (e + 153 + (2 * (ep - 2) + s).toNat) 0 32) (sg J (e + 158 + (2 * (ep - 2) + s).toNat) 0 32) content).length = d.length + (1 + (1 + (4 + content.length))) := by
        unfold recI
        rw [if_pos c]
        simp
        omega
      refine ⟨by rw [e6, zs_s, hl]; omega, ?_, by rw [hl]; omega⟩
      rw [hl, sg_row r6, sg_app, sg_app, sg_app, sg_app]
      have u0 : sg J5 (e + 169) 0 d.length = d := by
        rw [e5, sg_fr (fun k k0 k1 => zcp_out J4 (by omega)), e4, sg_zw_in (fun k k0 k1 => by simp <;> omega), e3, sg_fr (fun k k0 k1 => zs_n J2 (Or.inr (by omega))), e2, sg_fr (fun k k0 k1 => zs_n J1 (Or.inr (by omega))), sg_row (r1 _ (by omega)), d2]
      have u1 : sg J5 (e + 169) (0 + (d.length : Int)) 1 = [type] := by
        rw [sg_succ, sg_0, List.nil_append, show (0 : Int) + (d.length : Int) + ((0 : Nat) : Int) = b by omega, e5, zcp_out J4 (by omega), e4, zw_out J3 (by simp <;> omega), e3, zs_n J2 (Or.inr (by omega)), e2, zs_s]
      have u2 : sg J5 (e + 169) (0 + (d.length : Int) + ((1 : Nat) : Int)) 1 = [0] := by
        rw [sg_succ, sg_0, List.nil_append, show (0 : Int) + (d.length : Int) + ((1 : Nat) : Int) + ((0 : Nat) : Int) = b + 1 by omega, e5, zcp_out J4 (by omega), e4, zw_out J3 (by simp <;> omega), e3, zs_s]
      have u3 : sg J5 (e + 169) (0 + (d.length : Int) + ((1 : Nat) : Int) + ((1 : Nat) : Int)) 4 = [x / 256, x % 256, (content.length : Int) / 256, (content.length : Int) % 256] := by
        rw [show (0 : Int) + (d.length : Int) + ((1 : Nat) : Int) + ((1 : Nat) : Int) = b + 2 by omega, e5, sg_fr (fun k k0 k1 => zcp_out J4 (by omega)), e4]
        exact zw_sg J3 (e + 169) (b + 2) [x / 256, x % 256, (content.length : Int) / 256, (content.length : Int) % 256]
      have u4 : sg J5 (e + 169) (0 + (d.length : Int) + ((1 : Nat) : Int) + ((1 : Nat) : Int) + ((4 : Nat) : Int)) content.length = content := by
        rw [show (0 : Int) + (d.length : Int) + ((1 : Nat) : Int) + ((1 : Nat) : Int) + ((4 : Nat) : Int) = b + 6 by omega, e5, sg_zcp (by omega), e4, sg_row (zw_r J3 (by omega)), e3, sg_row (zs_r J2 (by omega)), e2, sg_row (zs_r J1 (by omega)), sg_row (r1 _ (by omega)), hi2]
      rw [u0, u1, u2, u3, u4]
      unfold recI
      rw [if_pos c]
      simp
    · rw [e6, zs_r J5 (by omega), e5, zcp_r J4 (by omega), e4, zw_r J3 (by omega), e3, zs_r J2 (by omega), e2, zs_r J1 (by omega), e1]
    · intro k hk
      rw [e6, zs_n J5 (Or.inr hk), e5, zcp_r J4 (by omega), e4, zw_r J3 (by omega), e3, zs_r J2 (by omega), e2, zs_r J1 (by omega), r1 _ (by omega)]
    · intro a ha
      unfold cPut at ha
      rw [e6, zs_r J5 (by omega), e5, zcp_r J4 (by omega), e4, zw_r J3 (by omega), e3, zs_r J2 (by omega), e2, zs_r J1 (by omega), r1 _ (by omega)]
  · rw [if_neg c]
    have h14 := hr14 c
    obtain ⟨w, hw⟩ : ∃ w, w = 2 * (ep - 2) + s := ⟨_, rfl⟩
    rw [← hw] at hQ
    have hwb : 0 ≤ w ∧ w < 4 := by omega
    obtain ⟨key, hkey⟩ : ∃ key, key = sg J (e + 153 + w.toNat) 0 32 := ⟨_, rfl⟩
    obtain ⟨msk, hmsk⟩ : ∃ msk, msk = sg J (e + 158 + w.toNat) 0 32 := ⟨_, rfl⟩
    rw [← hkey, ← hmsk] at hQ
    refine ⟨⟨by omega, by omega⟩, fun J2 e2 => ?_⟩
    refine s_putTwoShorts (by omega) (by omega) (by omega) ?_
    obtain ⟨J3, e3⟩ : ∃ J3, J3 = zw J2 (e + 169) (b + 1) [x / 256, x % 256, ((content.length : Int) + 9) / 256, ((content.length : Int) + 9) % 256] := ⟨_, rfl⟩
    rw [← e3]
    refine ⟨⟨by omega, by omega, by omega, by omega, by omega⟩, fun J4 e4 => ⟨⟨by omega, by omega⟩, fun J5 e5 => ?_⟩⟩
    have r5 : ∀ a, a ≠ e + 169 → a ≠ e + 171 → J5 a = J a := fun a ha hb => by rw [e5, zs_r J4 ha, e4, zcp_r J3 ha, e3, zw_r J2 ha, e2, zs_r J1 ha, r1 a hb]
    have n5 : J5 (e + 171) = J1 (e + 171) := by rw [e5, zs_r J4 (by omega), e4, zcp_r J3 (by omega), e3, zw_r J2 (by omega), e2, zs_r J1 (by omega)]
    show ∀ x27 : Int, x27 = ((b + 5) + (content.length : Int)) + 1 → w_X5_veil e (e + 169) b ((ep - 2) * 2 + J5 (e + 168) 0) ((content.length : Int) + 1) J5 L _
    rw [r5 (e + 168) (by omega) (by omega), hse, show (ep - 2) * 2 + s = w by omega]
    intro tg etg
    -- what stands in the row
    have v0 : sg J5 (e + 169) 0 d.length = d := by
      rw [e5, sg_fr (fun k k0 k1 => zs_n J4 (Or.inr (by omega))), e4, sg_fr (fun k k0 k1 => zcp_out J3 (by omega)), e3, sg_zw_in (fun k k0 k1 => by simp <;> omega), e2, sg_fr (fun k k0 k1 => zs_n J1 (Or.inr (by omega))), sg_row (r1 _ (by omega)), d2]
    have v1 : J5 (e + 169) b = 32 + ep := by
      rw [e5, zs_n J4 (Or.inr (by omega)), e4, zcp_out J3 (by omega), e3, zw_out J2 (by simp <;> omega), e2, zs_s]
    have v2 : sg J5 (e + 169) (b + 1) 4 = [x / 256, x % 256, ((content.length : Int) + 9) / 256, ((content.length : Int) + 9) % 256] := by
      rw [e5, sg_fr (fun k k0 k1 => zs_n J4 (Or.inr (by omega))), e4, sg_fr (fun k k0 k1 => zcp_out J3 (by omega)), e3]
      exact zw_sg J2 (e + 169) (b + 1) [x / 256, x % 256, ((content.length : Int) + 9) / 256, ((content.length : Int) + 9) % 256]
    have v3 : sg J5 (e + 169) (b + 5) (content ++ [type]).length = content ++ [type] := by
      rw [List.length_append, List.length_singleton, sg_succ, e5, zs_s, sg_fr (fun k k0 k1 => zs_n J4 (Or.inr (by omega))), e4, sg_zcp (by omega), e3, sg_row (zw_r J2 (by omega)), e2, sg_row (zs_r J1 (by omega)), sg_row (r1 _ (by omega)), hi2]
    have v2a : J5 (e + 169) (b + 1) = x / 256 := by
      have := sg_get (J := J5) (a := e + 169) (i := b + 1) (c := 4) (j := 0) (by decide)
      rw [v2] at this
      simpa using this.symm
    have v2b : J5 (e + 169) (b + 2) = x % 256 := by
      have := sg_get (J := J5) (a := e + 169) (i := b + 1) (c := 4) (j := 1) (by decide)
      rw [v2] at this
      have h9 : J5 (e + 169) (b + 1 + ((1 : Nat) : Int)) = x % 256 := by simpa using this.symm
      rw [show b + 2 = b + 1 + ((1 : Nat) : Int) by omega]
      exact h9
    have hlw := lnR he w hwb
    have hl169 : ((ln0 (e + 169) : Nat) : Int) = 500 := by rw [lnS_169 he]; rfl
    refine s_veil (ep := ep) he hwb (by omega) (Or.inr (by omega)) (by omega) (by omega) (by omega) (by omega) v1 (by omega) (fun J6 g6 o6 f6 => ?_)
    rw [sg_row (r5 (e + 153 + w.toNat) (by omega) (by omega)), ← hkey, v2a, v2b] at g6
    obtain ⟨body, hbody⟩ : ∃ body, body = sealL key ep x (content ++ [type]) := ⟨_, rfl⟩
    have hbl : body.length = content.length + 1 := by rw [hbody, sealL_len, List.length_append, List.length_singleton]
    have w3 : sg J6 (e + 169) (b + 5) body.length = body := by
      rw [hbl, hbody]
      unfold sg sealL
      rw [List.length_append, List.length_singleton]
      refine List.map_congr_left (fun j hj => ?_)
      have hj := List.mem_range.mp hj
      rw [g6 j (by omega) (by omega)]
      congr 1
      have h9 : (sg J5 (e + 169) (b + 5) (content ++ [type]).length).getD j 0 = J5 (e + 169) (b + 5 + (j : Int)) := sg_get (by rw [List.length_append, List.length_singleton]; exact hj)
      rw [v3] at h9
      exact h9.symm
    have w1 : J6 (e + 169) b = 32 + ep := by rw [o6 b (by omega)]; exact v1
    have w2 : sg J6 (e + 169) (b + 1) 4 = [x / 256, x % 256, ((content.length : Int) + 9) / 256, ((content.length : Int) + 9) % 256] := by rw [sg_fr (fun k k0 k1 => o6 k (by omega))]; exact v2
    have w0 : sg J6 (e + 169) 0 d.length = d := by rw [sg_fr (fun k k0 k1 => o6 k (by omega))]; exact v0
    refine s_tagOf (ep := ep) he hwb (by omega) (by omega) (by omega) (by omega) (by omega) w1 (by omega) (fun J7 h7 f7 => ?_)
    have k6 : sg J6 (e + 153 + w.toNat) 0 32 = key := by rw [sg_row (f6 _ (by unfold cMac; omega)), sg_row (r5 _ (by omega) (by omega)), hkey]
    have hT : [2, ep] ++ sg J6 (e + 169) (b + 1) 2 ++ sg J6 (e + 169) b (5 + ((content.length : Int) + 1)).toNat = [2, ep, x / 256, x % 256, 32 + ep, x / 256, x % 256, ((body.length : Int) + 8) / 256, ((body.length : Int) + 8) % 256] ++ body := by
      have p2 : sg J6 (e + 169) (b + 1) 2 = [x / 256, x % 256] := by
        rw [← sg_take J6 (e + 169) (b + 1) 4 2 (by decide), w2]
        rfl
      rw [p2, show (5 + ((content.length : Int) + 1)).toNat = 1 + (4 + body.length) by omega, sg_app, sg_app, sg_succ, sg_0, Int.natCast_zero, Int.add_zero, w1, show b + ((1 : Nat) : Int) = b + 1 from rfl, w2, show b + 1 + ((4 : Nat) : Int) = b + 5 by omega, w3, hbl]
      rw [show ((content.length + 1 : Nat) : Int) + 8 = (content.length : Int) + 9 by omega]
      simp
    rw [k6, hT] at h7
    obtain ⟨tl, htl⟩ : ∃ tl, tl = (tagI key ep x body).take 8 := ⟨_, rfl⟩
    have htll : tl.length = 8 := by rw [htl, List.length_take, tagI, mcI_len]; rfl
    have t7 : sg J7 (e + 166) 0 8 = tl := by
      rw [htl]
      unfold tagI
      rw [← h7, sg_take _ _ _ _ _ (by decide)]
    refine ⟨⟨kdS_166 he, ltS he (by decide)⟩, ⟨by omega, by omega, by omega, by rw [lnS_166 he]; decide, by omega⟩, fun J8 e8 => ?_⟩
    have q169 : J7 (e + 169) = J6 (e + 169) := f7 _ (by unfold cMac; omega)
    have y0 : sg J8 (e + 169) 0 d.length = d := by rw [e8, sg_fr (fun k k0 k1 => zcp_out J7 (by omega)), sg_row q169, w0]
    have y1 : J8 (e + 169) b = 32 + ep := by rw [e8, zcp_out J7 (by omega), q169]; exact w1
    have y2 : sg J8 (e + 169) (b + 1) 4 = [x / 256, x % 256, ((content.length : Int) + 9) / 256, ((content.length : Int) + 9) % 256] := by rw [e8, sg_fr (fun k k0 k1 => zcp_out J7 (by omega)), sg_row q169, w2]
    have y3 : sg J8 (e + 169) (b + 5) body.length = body := by rw [e8, sg_fr (fun k k0 k1 => zcp_out J7 (by omega)), sg_row q169, w3]
    have y4 : sg J8 (e + 169) tg 8 = tl := by rw [e8, ← t7]; exact sg_zcp (by decide)
    refine s_maskOf he hwb (by omega) (by omega) (by omega) (fun J9 h9 f9 => ?_)
    have k8 : sg J8 (e + 158 + w.toNat) 0 32 = msk := by rw [e8, sg_row (zcp_r J7 (by omega)), sg_row (f7 _ (by unfold cMac; omega)), sg_row (f6 _ (by unfold cMac; omega)), sg_row (r5 _ (by omega) (by omega)), hmsk]
    rw [k8, y4] at h9 ⊢
    obtain ⟨mm, hmm⟩ : ∃ mm, mm = mcI msk tl := ⟨_, rfl⟩
    rw [← hmm] at h9 ⊢
    have omm : oct mm := by rw [hmm]; exact mcI_oct _ _
    have b0 := oct_get omm 0
    have b1 := oct_get omm 1
    have z169 : J9 (e + 169) = J8 (e + 169) := f9 _ (by unfold cMac; omega)
    have y2a : J8 (e + 169) (b + 1) = x / 256 := by
      have := sg_get (J := J8) (a := e + 169) (i := b + 1) (c := 4) (j := 0) (by decide)
      rw [y2] at this
      simpa using this.symm
    have y2b : J8 (e + 169) (b + 2) = x % 256 := by
      have := sg_get (J := J8) (a := e + 169) (i := b + 1) (c := 4) (j := 1) (by decide)
      rw [y2] at this
      have h9 : J8 (e + 169) (b + 1 + ((1 : Nat) : Int)) = x % 256 := by simpa using this.symm
      rw [show b + 2 = b + 1 + ((1 : Nat) : Int) by omega]
      exact h9
    refine ⟨⟨by omega, by omega⟩, ⟨by omega, by omega⟩, fun J10 e10 => ⟨⟨by omega, by omega⟩, ⟨by omega, by omega⟩, fun J11 e11 J12 e12 => ?_⟩⟩
    rw [zush_n (by omega) (by decide), show (2 : Int) ^ (8 : Int).toNat = 256 from rfl, show (256 * mm.getD 0 0 + mm.getD 1 0) / 256 = mm.getD 0 0 by omega, z169, y2a] at e10
    rw [zand255, show (256 * mm.getD 0 0 + mm.getD 1 0) % 256 = mm.getD 1 0 by omega, e10, zs_n J9 (Or.inr (by omega)), z169, y2b] at e11
    have r12 : J12 (e + 169) = J11 (e + 169) := by rw [e12]; exact zs_r J11 (by omega)
    have same : ∀ k, k ≠ b + 1 → k ≠ b + 2 → J11 (e + 169) k = J8 (e + 169) k := fun k h1 h2 => by rw [e11, zs_n _ (Or.inr h2), zs_n _ (Or.inr h1), z169]
    refine hQ J12 ⟨?_, ?_, ?_⟩ ?_ ?_ ?_
    · rw [e12, zs_s]
      unfold recI
      rw [if_neg c, ← hbody, ← htl]
      simp [hbl, htll]
      omega
    · have hl : (d ++ recI ep type x key msk content).length = d.length + (1 + (1 + (1 + (2 + (body.length + 8))))) := by
        unfold recI
        rw [if_neg c, ← hbody, ← htl]
        simp [hbl, htll]
        omega
      rw [hl, sg_row r12, sg_app, sg_app, sg_app, sg_app, sg_app, sg_app]
      have u0 : sg J11 (e + 169) 0 d.length = d := by rw [sg_fr (fun k k0 k1 => same k (by omega) (by omega)), y0]
      have u1 : sg J11 (e + 169) (0 + (d.length : Int)) 1 = [32 + ep] := by
        rw [sg_succ, sg_0, List.nil_append, show (0 : Int) + (d.length : Int) + ((0 : Nat) : Int) = b by omega, same b (by omega) (by omega), y1]
      have u2 : sg J11 (e + 169) (0 + (d.length : Int) + ((1 : Nat) : Int)) 1 = [zxor (x / 256) (mm.getD 0 0)] := by
        rw [sg_succ, sg_0, List.nil_append, show (0 : Int) + (d.length : Int) + ((1 : Nat) : Int) + ((0 : Nat) : Int) = b + 1 by omega, e11, zs_n _ (Or.inr (by omega)), zs_s]
      have u3 : sg J11 (e + 169) (0 + (d.length : Int) + ((1 : Nat) : Int) + ((1 : Nat) : Int)) 1 = [zxor (x % 256) (mm.getD 1 0)] := by
        rw [sg_succ, sg_0, List.nil_append, show (0 : Int) + (d.length : Int) + ((1 : Nat) : Int) + ((1 : Nat) : Int) + ((0 : Nat) : Int) = b + 2 by omega, e11, zs_s]
      have u4 : sg J11 (e + 169) (0 + (d.length : Int) + ((1 : Nat) : Int) + ((1 : Nat) : Int) + ((1 : Nat) : Int)) 2 = [((content.length : Int) + 9) / 256, ((content.length : Int) + 9) % 256] := by
        rw [show (0 : Int) + (d.length : Int) + ((1 : Nat) : Int) + ((1 : Nat) : Int) + ((1 : Nat) : Int) = b + 3 by omega, sg_fr (fun k k0 k1 => same k (by omega) (by omega))]
        have h4 := y2
        rw [show (4 : Nat) = 2 + 2 from rfl, sg_app, show b + 1 + ((2 : Nat) : Int) = b + 3 by omega] at h4
        have h5 := List.append_inj h4 (t₁ := sg J8 (e + 169) (b + 3) 2) (s₂ := [x / 256, x % 256]) (t₂ := [((content.length : Int) + 9) / 256, ((content.length : Int) + 9) % 256]) (by rw [sg_len]; rfl)
        exact h5.2
      have u5 : sg J11 (e + 169) (0 + (d.length : Int) + ((1 : Nat) : Int) + ((1 : Nat) : Int) + ((1 : Nat) : Int) + ((2 : Nat) : Int)) body.length = body := by
        rw [show (0 : Int) + (d.length : Int) + ((1 : Nat) : Int) + ((1 : Nat) : Int) + ((1 : Nat) : Int) + ((2 : Nat) : Int) = b + 5 by omega, sg_fr (fun k k0 k1 => same k (by omega) (by omega)), y3]
      have u6 : sg J11 (e + 169) (0 + (d.length : Int) + ((1 : Nat) : Int) + ((1 : Nat) : Int) + ((1 : Nat) : Int) + ((2 : Nat) : Int) + (body.length : Int)) 8 = tl := by
        rw [show (0 : Int) + (d.length : Int) + ((1 : Nat) : Int) + ((1 : Nat) : Int) + ((1 : Nat) : Int) + ((2 : Nat) : Int) + (body.length : Int) = tg by omega, sg_fr (fun k k0 k1 => same k (by omega) (by omega)), y4]
      rw [u0, u1, u2, u3, u4, u5, u6]
      unfold recI
      rw [if_neg c, ← hbody, ← htl, ← hmm]
      simp
    · unfold recI
      rw [if_neg c, ← hbody, ← htl]
      simp [hbl, htll]
      omega
    · rw [e12, zs_r J11 (by omega), e11, zs_r _ (by omega), zs_r J9 (by omega), f9 _ (by unfold cMac; omega), e8, zcp_r J7 (by omega), f7 _ (by unfold cMac; omega), f6 _ (by unfold cMac; omega), n5, e1]
    · intro k hk
      rw [e12, zs_n J11 (Or.inr hk), e11, zs_r _ (by omega), zs_r J9 (by omega), f9 _ (by unfold cMac; omega), e8, zcp_r J7 (by omega), f7 _ (by unfold cMac; omega), f6 _ (by unfold cMac; omega), r5 _ (by omega) (by omega)]
    · intro a ha
      unfold cPut at ha
      rw [e12, zs_r J11 (by omega), e11, zs_r _ (by omega), zs_r J9 (by omega), f9 _ (by unfold cMac; omega), e8, zcp_r J7 (by omega), f7 _ (by unfold cMac; omega), f6 _ (by unfold cMac; omega), r5 _ (by omega) (by omega)]
