/-! CHANCE -/
def chI (seed : List Int) (s n : Int) : List Int := mcI seed [s, n / 256, n % 256]
theorem nb2 (v : Int) : nb 2 v = [v / 256 % 256, v % 256] := by simp [nb, List.range, List.range.loop]
theorem nb4 (v : Int) : nb 4 v = [v / 16777216 % 256, v / 65536 % 256, v / 256 % 256, v % 256] := by simp [nb, List.range, List.range.loop]
abbrev cCh (a : Nat) : Prop := a = 497 ∨ a = 498 ∨ a = 499 ∨ a = 500 ∨ a = 501 ∨ a = 503
theorem s_chance {s n : Int} {J : zM} {L : yM} {Q : zM → yM → Prop} (hs : s01 s) (hn : J 503 s = n) (hn2 : 0 ≤ n ∧ n < 65536) (ho : oct (sg J 492 (1024 * s + 24) 8)) (hK : mK (zi J)) (hQ : ∀ J', sg J' 500 0 32 = chI (sg J 492 (1024 * s + 24) 8) s n → J' 503 = (zs J 503 s (n + 1)) 503 → mF cCh t13 J J' → Q J' L) : w_X12_chance s J L Q := by
  have hs2 : 0 ≤ s ∧ s < 2 := by omega
  unfold w_X12_chance
  refine s_keyOwn (by omega) (by decide) (by omega) (fun J1 h1 f1 => ?_)
  refine s_mbegin (fun J2 h2 f2 => ?_)
  refine s_madd h2 (by simp) (fun J3 h3 f3 => ⟨hs2, ?_⟩)
  have g3 : mF cCh t13 J J3 := ((f1.mono (fun a q => by unfold cCh; omega) (fun _ q => q.elim)).tr (f2.mono (fun _ q => q.elim) (fun _ q => q))).tr (f3.mono (fun a q => by unfold c497 at q; unfold cCh; omega) (fun _ q => q))
  have g13 : mF c497 t13 J1 J3 := (f2.mono (fun _ q => q.elim) (fun _ q => q)).tr f3
  have e3 : J3 503 = J 503 := by rw [g13.1 503 (by decide) (by decide), f1.1 503 (by decide) (by decide)]
  rw [e3, hn]
  refine s_addNumber (by decide) h3 (by simp) (fun J4 h4 f4 => ?_)
  have g14 : mF c497 t13 J1 J4 := g13.tr f4
  have hk4 : mKy J4 (sg J 492 (1024 * s + 24) 8) := mKy.fr h1 (g14.1 501 (by decide) (by decide))
  have hK4 : mK (zi J4) := by
    refine mK_fr hK ?_ ?_
    · rw [g14.1 495 (by decide) (by decide), f1.1 495 (by decide) (by decide)]
    · rw [g14.1 496 (by decide) (by decide), f1.1 496 (by decide) (by decide)]
  refine s_code h4 hk4 ho hK4 (fun J5 h5 f5 => ⟨hs2, hs2, fun J6 e6 => ?_⟩)
  have e5 : J5 503 = J 503 := by rw [f5.1 503 (by decide) (by decide), g14.1 503 (by decide) (by decide), f1.1 503 (by decide) (by decide)]
  rw [e5, hn] at e6
  refine hQ J6 ?_ ?_ ?_
  · rw [e6, sg_row (zs_r J5 (by decide)), h5]
    unfold chI
    rw [i2l_toInt ⟨by omega, by omega⟩]
    rw [show (2 : Int).toNat = 2 from rfl, nb2]
    rw [show n / 256 % 256 = n / 256 by omega, show s % 256 = s by omega]
    rfl
  · rw [e6]
    funext i
    by_cases q : i = s
    · subst q; rw [zs_s, zs_s]
    · rw [zs_n _ (Or.inr q), zs_n _ (Or.inr q), e5]
  · rw [e6]
    refine mF.tr (J1 := J5) (mF.tr (J1 := J4) (mF.tr (J1 := J3) g3 ?_) ?_) (mF_zs (S := cCh) (a := 503) (by decide) (by decide))
    · exact f4.mono (fun a q => by unfold c497 at q; unfold cCh; omega) (fun _ q => q)
    · exact f5.mono (fun a q => by unfold cCode at q; unfold cCh; omega) (fun _ q => q)
theorem s_chanceInto {e o : Nat} {s n : Int} {J : zM} {L : yM} {Q : zM → yM → Prop} (he : iSide e) (hs : s01 s) (hn : J (e + 1) 8 = n) (hn2 : 0 ≤ n ∧ n < 65536) (ho : 10 < o ∧ o ≠ e + 1) (hl : 32 ≤ ln0 o) (hQ : ∀ J', sg J' o 0 32 = chI (sg J (e + 4) 0 8) s n → J' (e + 1) = (zs J (e + 1) 8 (n + 1)) (e + 1) → (∀ i, ¬ (0 ≤ i ∧ i < 32) → J' o i = J o i) → zF (fun a => cMac o a ∨ a = e + 1) J J' → Q J' L) : w_X9_chanceInto e s o J L Q := by
  have he2 : 139 ≤ e := by unfold iSide at he; omega
  unfold w_X9_chanceInto
  refine s_clear (fun J1 h1 f1 => ?_)
  refine s_put h1 (by simp) (fun J2 h2 f2 => ?_)
  have g2 : zF c67 J J2 := f1.tr f2
  have e2 : J2 (e + 1) = J (e + 1) := g2 _ (by unfold c67; omega)
  rw [e2, hn]
  refine s_putShort (by omega) h2 (by simp) (fun J3 h3 f3 J4 e4 => ?_)
  have g3 : zF c67 J J3 := g2.tr f3
  have e3 : J3 (e + 1) = J (e + 1) := g3 _ (by unfold c67; omega)
  rw [e3, hn] at e4
  have h4 := xT6.fr (J' := J4) h3 (by rw [e4]; exact zs_r J3 (by omega)) (by rw [e4]; exact zs_r J3 (by omega))
  have g4 : zF (fun a => cMac o a ∨ a = e + 1) J J4 := by
    rw [e4]
    exact (g3.mono (fun a q => Or.inl (c67.mac q))).tr (zF.zs (Or.inr rfl))
  refine s_macInto h4 (by omega) ho.1 hl (fun J5 h5 h6 f5 => hQ J5 ?_ ?_ ?_ ?_)
  · rw [h5]
    have ek : sg J4 (e + 4) 0 (ln0 (e + 4)) = sg J (e + 4) 0 8 := by
      rw [lnS_4 he]
      rw [sg_row (show J4 (e + 4) = J (e + 4) by rw [e4, zs_r J3 (by omega)]; exact g3 _ (by unfold c67; omega))]
    rw [ek]
    unfold chI
    congr 1
    simp
    omega
  · rw [f5 (e + 1) (by unfold cMac; omega), e4]
    funext i
    by_cases q : i = 8
    · subst q; rw [zs_s, zs_s]
    · rw [zs_n _ (Or.inr q), zs_n _ (Or.inr q), e3]
  · intro i hi
    rw [h6 i hi, e4, zs_r J3 (by omega), g3 o (by unfold c67; omega)]
  · exact g4.tr (f5.mono (fun a q => Or.inl q))
