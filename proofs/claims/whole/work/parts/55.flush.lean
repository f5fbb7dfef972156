theorem s_flush0 {e : Nat} {J : zM} {L : yM} {Q : zM → yM → Prop} (hd : xMd e J []) (hQ : Q J L) : w_X6_flush e J L Q := by
  have h : J (e + 168) 7 = 0 := hd.1
  unfold w_X6_flush
  refine ⟨by rw [h]; decide, ?_⟩
  rw [if_neg (by omega)]
  exact hQ
/-- the net gets what it has room for -/
def putN (N : List (List Int)) (d : List Int) : List (List Int) := if N.length < 60 then N ++ [d] else N
theorem s_flush {e : Nat} {d : List Int} {J : zM} {L : yM} {Q : zM → yM → Prop} (he : iSide e) (hd : xMd e J d) (hne : d ≠ []) (hi : iR (wy e) J) (hQ : ∀ J', rL (wy e) J' = putN (rL (wy e) J) d → iR (wy e) J' → xMd e J' [] → J' (e + 168) 8 = J (e + 168) 8 + 1 → (∀ k, k ≠ 7 → k ≠ 8 → J' (e + 168) k = J (e + 168) k) → zF (fun a => cR (wy e) a ∨ a = e + 168) J J' → Q J' L) : w_X6_flush e J L Q := by
  obtain ⟨d1, d2, d3⟩ := hd
  have hl : 0 < d.length := List.length_pos_iff.mpr hne
  have hwy : wy e = 75 ∨ wy e = 11 := by unfold wy; split <;> omega
  have hq : rq (wy e) = 60 := by rcases hwy with h | h <;> (rw [h]; rfl)
  have hw : rw0 (wy e) = 500 := by rcases hwy with h | h <;> (rw [h]; rfl)
  have hcr : ∀ a, cR (wy e) a → a < 139 := fun a h => by unfold cR at h; omega
  have he2 : 139 ≤ e := by unfold iSide at he; omega
  have h169 : ((ln0 (e + 169) : Nat) : Int) = 500 := by rw [lnS_169 he]; rfl
  have hlen : (rL (wy e) J).length = (J (wy e) 5).toNat := rL_len _ _
  have hb := hi.1
  unfold w_X6_flush
  rw [d1]
  refine ⟨⟨by omega, by omega⟩, ?_⟩
  rw [if_pos (by omega)]
  have fin : ∀ (J1 : zM), rL (wy e) J1 = putN (rL (wy e) J) d → iR (wy e) J1 → zF (cR (wy e)) J J1 → ∀ J6 : zM, J6 = zs J1 (e + 168) 8 ((J1 (e + 168) 8) + 1) → ∀ J7 : zM, J7 = zs J6 (e + 168) 7 0 → Q J7 L := by
    intro J1 h1 h2 f1 J6 e6 J7 e7
    have r1 : J1 (e + 168) = J (e + 168) := f1 _ (fun q => by have := hcr _ q; omega)
    have f7 : zF (fun a => a = e + 168) J1 J7 := by rw [e7, e6]; exact zF.tr (S := fun a => a = e + 168) (zF.zs (S := fun a => a = e + 168) rfl) (zF.zs (S := fun a => a = e + 168) rfl)
    have h7 := rL_fr (r := wy e) (f7.mono (fun a q => fun u => by have := hcr a u; omega)) h2
    refine hQ J7 (h7.1.trans h1) h7.2 ⟨by rw [e7, zs_s]; rfl, rfl, by decide⟩ ?_ ?_ ?_
    · rw [e7, zs_n J6 (Or.inr (by decide)), e6, zs_s, r1]
    · intro k k7 k8
      rw [e7, zs_n J6 (Or.inr k7), e6, zs_n J1 (Or.inr k8), r1]
    · exact (f1.mono (fun a q => Or.inl q)).tr (f7.mono (fun a q => Or.inr q))
  by_cases c : J (wy e) 5 < ((rq (wy e) : Nat) : Int)
  · refine s_add hi (Or.inl (fun q => by have := hcr _ q; omega)) (by omega) (by omega) (by omega) c (fun J1 h1 h2 f1 => fin J1 ?_ h2 f1)
    rw [h1, Int.toNat_natCast, d2]
    unfold putN
    rw [if_pos (by omega)]
  · refine s_addFull hi c (fin J ?_ hi zF.rf)
    unfold putN
    rw [if_neg (by omega)]
