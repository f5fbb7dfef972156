/-! records: what they are; the model's -/
def sealL (key : List Int) (ep n : Int) (l : List Int) : List Int := (List.range l.length).map (fun j : Nat => zxor (l.getD j 0) (strA key ep (n / 256) (n % 256) (j : Int)))
theorem sealL_len (key : List Int) (ep n : Int) (l : List Int) : (sealL key ep n l).length = l.length := by simp [sealL]
def recI (ep type n : Int) (key mask content : List Int) : List Int :=
  if ep = 0 then [type, 0, n / 256, n % 256, (content.length : Int) / 256, (content.length : Int) % 256] ++ content
  else [32 + ep, zxor (n / 256) ((mcI mask ((tagI key ep n (sealL key ep n (content ++ [type]))).take 8)).getD 0 0), zxor (n % 256) ((mcI mask ((tagI key ep n (sealL key ep n (content ++ [type]))).take 8)).getD 1 0), ((content.length : Int) + 9) / 256, ((content.length : Int) + 9) % 256] ++ sealL key ep n (content ++ [type]) ++ (tagI key ep n (sealL key ep n (content ++ [type]))).take 8
def mMd (J : zM) (d : List Int) : Prop := J 491 30 = (d.length : Int) ∧ sg J 513 0 d.length = d ∧ d.length ≤ 600
theorem mMd.fr {J J' : zM} {d : List Int} (h : mMd J d) (h1 : J' 491 30 = J 491 30) (h2 : J' 513 = J 513) : mMd J' d := by
  unfold mMd
  rw [h1, sg_row h2]
  exact h
abbrev c513 (a : Nat) : Prop := a = 513
abbrev t30 (k : Int) : Prop := k = 30
theorem s_mput1 {v : Int} {d : List Int} {J : zM} {L : yM} {Q : zM → yM → Prop} (h : mMd J d) (hd : d.length < 600) (hQ : ∀ J', mMd J' (d ++ [v % 256]) → mF c513 t30 J J' → Q J' L) : w_X12_put v J L Q := by
  obtain ⟨h1, h2, h3⟩ := h
  unfold w_X12_put
  refine ⟨⟨by omega, by omega⟩, fun J1 e1 J2 e2 => hQ J2 ?_ ?_⟩
  · have g1 : J1 491 30 = (d.length : Int) := by rw [e1, zs_r J (by omega)]; exact h1
    have g2 : J2 513 = J1 513 := by rw [e2]; exact zs_r J1 (by omega)
    refine ⟨by rw [e2, zs_s, g1, List.length_append, List.length_singleton]; omega, ?_, by rw [List.length_append, List.length_singleton]; omega⟩
    rw [List.length_append, List.length_singleton, sg_succ, sg_row g2, g2, e1, h1, Int.zero_add, zs_s, zand255]
    congr 1
    rw [sg_fr (fun k k0 k1 => zs_n J (Or.inr (by omega)))]
    exact h2
  · rw [e2, e1]
    exact mF.tr (S := c513) (T := t30) (mF_zs (S := c513) (a := 513) rfl (by decide)) (mF_zs1 (T := t30) rfl)
theorem putLoop {src : Nat} {M N : Int} {Nf : zM → Int} {d : List Int} {Rest : zM → yM → Prop} {J : zM} {L : yM} (hsrc : src ≠ 491 ∧ src ≠ 513) (hN : 0 ≤ N ∧ N ≤ M ∧ M ≤ 3000) (hNf : ∀ J', mF c513 t30 J J' → Nf J' = N) (h : mMd J d) (hq : (d.length : Int) + N ≤ 600) (ho : oct (sg J src 0 N.toNat)) (hQ : ∀ J', mMd J' (d ++ sg J src 0 N.toNat) → mF c513 t30 J J' → Rest J' L) :
    zl_z (fun K x J' L' => R32 x ∧ R32 (Nf J') ∧ (if x < Nf J' then ((0 : Int) ≤ x ∧ x < M) ∧ w_X12_put (J' src x) J' L' (fun J'' L'' => K (x + 1) J'' L'') else Rest J' L')) 0 J L := by
  refine zl_z.by (fun m x J' L' => (m : Int) = N - x ∧ 0 ≤ x ∧ L' = L ∧ mMd J' (d ++ sg J src 0 x.toNat) ∧ mF c513 t30 J J') ?_ N.toNat 0 J L ⟨by omega, by omega, rfl, by simpa [sg] using h, mF.rf⟩
  rintro m x J1 L1 K ⟨hm, hx, rfl, h1, f1⟩ hK
  rw [hNf J1 f1]
  refine ⟨⟨by omega, by omega⟩, ⟨by omega, by omega⟩, ?_⟩
  have e1 : J1 src = J src := f1.1 src hsrc.2 hsrc.1
  by_cases c : x < N
  · rw [if_pos c]
    refine ⟨⟨hx, by omega⟩, ?_⟩
    refine s_mput1 h1 (by rw [List.length_append, sg_len]; omega) (fun J2 h2 f2 => ?_)
    refine hK (m - 1) (x + 1) J2 L1 (by omega) ⟨by omega, by omega, rfl, ?_, f1.tr f2⟩
    have hb := (oct_sg.mp ho) x (by omega) (by omega)
    rw [e1, show J src x % 256 = J src x by omega, List.append_assoc] at h2
    rw [show (x + 1).toNat = x.toNat + 1 by omega, sg_succ, show (0 : Int) + (x.toNat : Int) = x by omega]
    exact h2
  · rw [if_neg c]
    have : x = N := by omega
    subst this
    exact hQ J1 h1 f1
abbrev cRec (a : Nat) : Prop := cF a ∨ a = 513 ∨ a = 514 ∨ a = 516
abbrev tRec (k : Int) : Prop := k = 13 ∨ k = 30
theorem oct_get {l : List Int} (h : oct l) (j : Nat) : 0 ≤ l.getD j 0 ∧ l.getD j 0 < 256 := by
  rw [List.getD_eq_getElem?_getD]
  by_cases q : j < l.length
  · rw [List.getElem?_eq_getElem q]; exact h _ (List.getElem_mem _)
  · rw [List.getElem?_eq_none (by omega)]; decide
theorem sealL_oct {key : List Int} {ep n : Int} {l : List Int} (h : oct l) : oct (sealL key ep n l) := by
  intro x hx
  unfold sealL at hx
  obtain ⟨j, _, rfl⟩ := List.mem_map.mp hx
  exact zxor_oct (oct_get h j) (strA_oct _ _ _ _ _)
/-- the place of KEYS in own -/
def kAt (s ep : Int) : Int := 1024 * s + 256 + 64 * (2 * (ep - 2) + s)
theorem s_record {s ep type n : Int} {d content : List Int} {J : zM} {L : yM} {Q : Int → zM → yM → Prop} (hs : s01 s) (hep : ep = 0 ∨ ep = 2 ∨ ep = 3) (hty : 0 ≤ type ∧ type < 256) (hn : J 514 (4 * s + ep) = n) (hn2 : 0 ≤ n ∧ n ≤ 65535) (hd : mMd J d) (hi : J 491 33 = (content.length : Int)) (hi2 : sg J 515 0 content.length = content) (ho : oct content) (hcl : content.length ≤ 290) (hdl : d.length + content.length + 14 ≤ 590)
    (hko : ep ≠ 0 → oct (sg J 492 (kAt s ep) 64)) (hK : mK (zi J)) (hQ : ∀ J', mMd J' (d ++ recI ep type n (sg J 492 (kAt s ep) 32) (sg J 492 (kAt s ep + 32) 32) content) → J' 514 = (zs J 514 (4 * s + ep) (n + 1)) 514 → mF cRec tRec J J' → Q n J' L) : w_X12_record s ep type J L Q := by
  unfold w_X12_record
  refine ⟨by omega, fun x ex => ?_⟩
  rw [hn] at ex
  subst ex
  refine ⟨⟨by omega, by omega⟩, ?_⟩
  rw [if_neg (by omega)]
  refine ⟨by omega, by omega, fun J1 e1 => ⟨⟨by omega, by omega⟩, ?_⟩⟩
  rw [hn] at e1
  have f1 : mF cRec tRec J J1 := by rw [e1]; exact mF_zs (S := cRec) (a := 514) (by decide) (by decide)
  have r1 : ∀ a, a ≠ 514 → J1 a = J a := fun a ha => by rw [e1]; exact zs_r J ha
  have d1 : mMd J1 d := hd.fr (by rw [r1 491 (by decide)]) (r1 513 (by decide))
  have i1 : J1 491 33 = (content.length : Int) := by rw [r1 491 (by decide)]; exact hi
  have f514 : ∀ {J' : zM}, J' 514 = J1 514 → J' 514 = (zs J 514 (4 * s + ep) (x + 1)) 514 := fun h => by rw [h, e1]
  have up : ∀ {J2 J3 : zM}, mF c513 t30 J2 J3 → mF cRec tRec J2 J3 := fun f => f.mono (fun a q => by unfold c513 at q; unfold cRec; omega) (fun k q => by unfold t30 at q; unfold tRec; omega)
  by_cases c : ep = 0
  · rw [if_pos c]
    refine s_mput1 d1 (by omega) (fun J2 d2 f2 => ?_)
    refine s_mput1 d2 (by simp; omega) (fun J3 d3 f3 => ?_)
    refine s_mput1 d3 (by simp; omega) (fun J4 d4 f4 => ?_)
    refine s_mput1 d4 (by simp; omega) (fun J5 d5 f5 => ?_)
    have g5 : mF c513 t30 J1 J5 := ((f2.tr f3).tr f4).tr f5
    have i5 : J5 491 33 = (content.length : Int) := by rw [g5.2 33 (by decide)]; exact i1
    rw [i5]
    refine s_mput1 d5 (by simp; omega) (fun J6 d6 f6 => ?_)
    have i6 : J6 491 33 = (content.length : Int) := by rw [f6.2 33 (by decide)]; exact i5
    rw [i6]
    refine s_mput1 d6 (by simp; omega) (fun J7 d7 f7 => ?_)
    have g7 : mF c513 t30 J1 J7 := (g5.tr f6).tr f7
    have i7 : ∀ J', mF c513 t30 J7 J' → J' 491 33 = (content.length : Int) := fun J' f => by rw [f.2 33 (by decide), f7.2 33 (by decide)]; exact i6
    have s7 : sg J7 515 0 content.length = content := by rw [sg_row (g7.1 515 (by decide) (by decide)), sg_row (r1 515 (by decide))]; exact hi2
    refine putLoop (src := 515) (N := (content.length : Int)) (by decide) (by omega) i7 d7 (by simp; omega) (by rw [Int.toNat_natCast, s7]; exact ho) (fun J8 d8 f8 => hQ J8 ?_ (f514 ?_) (f1.tr (up (g7.tr f8))))
    · rw [Int.toNat_natCast, s7] at d8
      have e8 : d ++ [type % 256] ++ [0 % 256] ++ [zshr x 8 % 256] ++ [x % 256] ++ [zshr (content.length : Int) 8 % 256] ++ [(content.length : Int) % 256] ++ content = d ++ recI ep type x (sg J 492 (kAt s ep) 32) (sg J 492 (kAt s ep + 32) 32) content := by
        unfold recI
        rw [if_pos c, zshr_n ⟨by omega, by omega⟩ (by decide), zshr_n ⟨by omega, by omega⟩ (by decide), show (2 : Int) ^ (8 : Int).toNat = 256 from rfl, show type % 256 = type by omega, show x / 256 % 256 = x / 256 by omega, show (content.length : Int) / 256 % 256 = (content.length : Int) / 256 by omega]
        simp
      rw [← e8]
      exact d8
    · exact (g7.tr f8).1 514 (by decide) (by decide)
  · rw [if_neg c]
    intro at_ eat
    have eat2 : at_ = kAt s ep := eat
    clear eat
    subst eat2
    obtain ⟨key, hkey⟩ : ∃ key, key = sg J 492 (kAt s ep) 32 := ⟨_, rfl⟩
    obtain ⟨msk, hmsk⟩ : ∃ msk, msk = sg J 492 (kAt s ep + 32) 32 := ⟨_, rfl⟩
    rw [← hkey, ← hmsk] at hQ
    have hk64 := hko c
    have okey : oct key := by rw [hkey]; exact oct_sg.mpr (fun k k0 k1 => (oct_sg.mp hk64) k (by omega) (by omega))
    have omsk : oct msk := by rw [hmsk]; exact oct_sg.mpr (fun k k0 k1 => (oct_sg.mp hk64) k (by omega) (by omega))
    have hat : 0 ≤ kAt s ep ∧ kAt s ep + 64 ≤ 2048 := by unfold kAt; omega
    -- the content is copied
    refine zl_z.by (fun m y J' L' => (m : Int) = (content.length : Int) - y ∧ 0 ≤ y ∧ L' = L ∧ J' = zcp J1 515 0 516 0 y) ?_ content.length 0 J1 L ⟨by omega, by omega, rfl, by rw [zcp_0]⟩
    rintro m y J2 L2 K ⟨hm, hy, rfl, e2⟩ hKK
    have r2 : ∀ a, a ≠ 516 → J2 a = J1 a := fun a ha => by rw [e2]; exact zcp_r J1 ha
    have i2 : J2 491 33 = (content.length : Int) := by rw [r2 491 (by decide)]; exact i1
    rw [i2]
    refine ⟨⟨by omega, by omega⟩, ⟨by omega, by omega⟩, ?_⟩
    by_cases cy : y < (content.length : Int)
    · rw [if_pos cy]
      refine ⟨⟨hy, by omega⟩, ⟨hy, by omega⟩, fun J3 e3 => hKK (m - 1) (y + 1) J3 L2 (by omega) ⟨by omega, by omega, rfl, ?_⟩⟩
      rw [e3, e2]
      have := zcp_succ2 (J := J1) (a := 515) (b := 516) (sp := 0) (dp := 0) hy (Or.inl (by decide))
      rw [Int.zero_add] at this
      exact this
    · rw [if_neg cy]
      have hyc : y = (content.length : Int) := by omega
      subst hyc
      refine ⟨⟨by omega, by omega⟩, fun J3 e3 cn ecn => ?_⟩
      have r3 : ∀ a, a ≠ 516 → J3 a = J1 a := fun a ha => by rw [e3, zs_r J2 ha]; exact r2 a ha
      rw [r3 491 (by decide), i1] at ecn
      have s3 : sg J3 516 0 (content ++ [type]).length = content ++ [type] := by
        rw [List.length_append, List.length_singleton, sg_succ, Int.zero_add, e3, zs_s, sg_fr (fun k k0 k1 => zs_n J2 (Or.inr (by omega))), e2, sg_zcp (by omega), sg_row (r1 515 (by decide)), hi2]
      have f3 : mF cRec tRec J J3 := ⟨fun a ha hb => by unfold cRec at ha; rw [r3 a (by omega), r1 a (by omega)], fun k _ => by rw [r3 491 (by decide), r1 491 (by decide)]⟩
      have own3 : J3 492 = J 492 := by rw [r3 492 (by decide), r1 492 (by decide)]
      have K3 : mK (zi J3) := mK_fr hK (by rw [r3 495 (by decide), r1 495 (by decide)]) (by rw [r3 496 (by decide), r1 496 (by decide)])
      have hcn : cn.toNat = (content ++ [type]).length := by rw [List.length_append, List.length_singleton]; omega
      have oct1 : oct (content ++ [type]) := oct_app.mpr ⟨ho, fun z hz => by simp at hz; omega⟩
      refine s_streamed hat.1 (by omega) (by omega) (by omega) (by omega) (by rw [sg_row own3, ← hkey]; exact okey) K3 (fun J4 g4 g4o f4 => ?_)
      rw [sg_row own3, ← hkey] at g4
      have own4 : J4 492 = J 492 := by rw [f4.1 492 (by unfold cH; omega) (by decide)]; exact own3
      have K4 : mK (zi J4) := mK_fr K3 (f4.1 495 (by unfold cH; omega) (by decide)) (f4.1 496 (by unfold cH; omega) (by decide))
      obtain ⟨body, hbody⟩ : ∃ body, body = sealL key ep x (content ++ [type]) := ⟨_, rfl⟩
      have hbl : body.length = (content ++ [type]).length := by rw [hbody]; exact sealL_len _ _ _ _
      have obody : oct body := by rw [hbody]; exact sealL_oct oct1
      have s4 : sg J4 516 0 cn.toNat = body := by
        rw [hbody, hcn]
        unfold sg sealL
        refine List.map_congr_left (fun j hj => ?_)
        have hj := List.mem_range.mp hj
        rw [Int.zero_add, g4 j (by omega) (by omega)]
        congr 1
        have h9 : (sg J3 516 0 (content ++ [type]).length).getD j 0 = J3 516 (0 + (j : Int)) := sg_get hj
        rw [s3, Int.zero_add] at h9
        exact h9.symm
      refine s_tagM hat.1 (by omega) (by omega) (by omega) (by omega) (by rw [sg_row own4, ← hkey]; exact okey) (by rw [s4]; exact obody) K4 (fun J5 d5 f5 => ?_)
      rw [sg_row own4, ← hkey, s4] at d5
      obtain ⟨tg, htg⟩ : ∃ tg, tg = (tagI key ep x body).take 8 := ⟨_, rfl⟩
      have t5 : sg J5 500 0 8 = tg := by rw [htg, ← d5, sg_take _ _ _ _ _ (by decide)]
      have otg : oct tg := by rw [htg]; exact fun z hz => mcI_oct _ _ z (List.mem_of_mem_take hz)
      have s5 : sg J5 516 0 cn.toNat = body := by rw [sg_row (f5.1 516 (by unfold cH; omega) (by decide)), s4]
      -- the TAG behind it
      refine zl_z.by (fun m y J' L' => (m : Int) = 8 - y ∧ 0 ≤ y ∧ L' = L2 ∧ J' = zcp J5 500 0 516 cn y) ?_ 8 0 J5 L2 ⟨by omega, by omega, rfl, by rw [zcp_0]⟩
      rintro m2 y J6 L6 K6 ⟨hm2, hy2, rfl, e6⟩ hK6
      refine ⟨⟨by omega, by omega⟩, ?_⟩
      by_cases cy2 : y < 8
      · rw [if_pos cy2]
        refine ⟨⟨hy2, by omega⟩, ⟨by omega, by omega⟩, fun J7 e7 => hK6 (m2 - 1) (y + 1) J7 L6 (by omega) ⟨by omega, by omega, rfl, ?_⟩⟩
        rw [e7, e6]
        have := zcp_succ2 (J := J5) (a := 500) (b := 516) (sp := 0) (dp := cn) hy2 (Or.inl (by decide))
        rw [Int.zero_add] at this
        exact this
      · rw [if_neg cy2]
        have hy8 : y = 8 := by omega
        subst hy8
        have r6 : ∀ a, a ≠ 516 → J6 a = J5 a := fun a ha => by rw [e6]; exact zcp_r J5 ha
        have own5 : J5 492 = J 492 := by rw [f5.1 492 (by unfold cH; omega) (by decide)]; exact own4
        have own6 : J6 492 = J 492 := by rw [r6 492 (by decide)]; exact own5
        have K6' : mK (zi J6) := mK_fr K4 (by rw [r6 495 (by decide)]; exact f5.1 495 (by unfold cH; omega) (by decide)) (by rw [r6 496 (by decide)]; exact f5.1 496 (by unfold cH; omega) (by decide))
        have t6 : sg J6 500 0 8 = tg := by rw [sg_row (r6 500 (by decide)), t5]
        have s6 : sg J6 516 0 (cn + 8).toNat = body ++ tg := by
          rw [show (cn + 8).toNat = cn.toNat + 8 by omega, sg_app, show (0 : Int) + (cn.toNat : Int) = cn by omega, e6, sg_zcp (by decide), t5, sg_fr (fun k k0 k1 => zcp_out J5 (by omega)), s5]
        refine s_maskM hat.1 (by omega) (by rw [sg_row own6, ← hmsk]; exact omsk) (by rw [t6]; exact otg) K6' (fun J7 h7 f7 => ?_)
        rw [sg_row own6, ← hmsk, t6] at h7
        obtain ⟨mm, hmm⟩ : ∃ mm, mm = mcI msk tg := ⟨_, rfl⟩
        rw [← hmm] at h7
        have omm : oct mm := by rw [hmm]; exact mcI_oct _ _
        have g0 : J7 500 0 = mm.getD 0 0 := by rw [← h7, sg_get (by decide)]; rfl
        have g1 : J7 500 1 = mm.getD 1 0 := by rw [← h7, sg_get (by decide)]; rfl
        have f7' : mF cRec tRec J1 J7 := by
          refine ⟨fun a ha hb => ?_, fun k hk => ?_⟩
          · unfold cRec cF cH at ha
            rw [f7.1 a (by unfold cF cH; omega) hb, r6 a (by omega), f5.1 a (by unfold cH; omega) hb, f4.1 a (by unfold cH; omega) hb, r3 a (by omega)]
          · unfold tRec at hk
            rw [f7.2 k (by omega), r6 491 (by decide), f5.2 k (by omega), f4.2 k (by omega), r3 491 (by decide)]
        have d7 : mMd J7 d := by
          refine d1.fr ?_ ?_
          · rw [f7.2 30 (by decide), r6 491 (by decide), f5.2 30 (by decide), f4.2 30 (by decide), r3 491 (by decide)]
          · rw [f7.1 513 (by unfold cF cH; omega) (by decide), r6 513 (by decide), f5.1 513 (by unfold cH; omega) (by decide), f4.1 513 (by unfold cH; omega) (by decide), r3 513 (by decide)]
        have n7 : J7 514 = J1 514 := by rw [f7.1 514 (by unfold cF cH; omega) (by decide), r6 514 (by decide), f5.1 514 (by unfold cH; omega) (by decide), f4.1 514 (by unfold cH; omega) (by decide), r3 514 (by decide)]
        have s7 : sg J7 516 0 (cn + 8).toNat = body ++ tg := by rw [sg_row (f7.1 516 (by unfold cF cH; omega) (by decide)), s6]
        have b0 := oct_get omm 0
        have b1 := oct_get omm 1
        refine s_mput1 d7 (by omega) (fun J8 d8 f8 => ?_)
        rw [f8.1 500 (by decide) (by decide), g0]
        refine s_mput1 d8 (by simp; omega) (fun J9 d9 f9 => ?_)
        rw [(f8.tr f9).1 500 (by decide) (by decide), g1]
        refine s_mput1 d9 (by simp; omega) (fun J10 d10 f10 => ?_)
        refine s_mput1 d10 (by simp; omega) (fun J11 d11 f11 => ?_)
        refine s_mput1 d11 (by simp; omega) (fun J12 d12 f12 => ?_)
        have f812 : mF c513 t30 J7 J12 := (((f8.tr f9).tr f10).tr f11).tr f12
        have s12 : sg J12 516 0 (cn + 8).toNat = body ++ tg := by rw [sg_row (f812.1 516 (by decide) (by decide)), s7]
        have hbt : (body ++ tg).length ≤ 300 := by
          rw [List.length_append, hbl, List.length_append, List.length_singleton, htg, List.length_take]
          omega
        refine putLoop (src := 516) (N := cn + 8) (Nf := fun _ => cn + 8) (by decide) (by omega) (fun _ _ => rfl) d12 (by simp; omega) (by rw [s12]; exact oct_app.mpr ⟨obody, otg⟩) (fun J13 d13 f13 => hQ J13 ?_ (f514 ?_) ((f1.tr f7').tr (up (f812.tr f13))))
        · rw [s12] at d13
          have e13 : d ++ [(32 + ep) % 256] ++ [zxor (zshr x 8) (mm.getD 0 0) % 256] ++ [zxor x (mm.getD 1 0) % 256] ++ [zshr (cn + 8) 8 % 256] ++ [(cn + 8) % 256] ++ (body ++ tg) = d ++ recI ep type x key msk content := by
            unfold recI
            rw [if_neg c, ← hbody, ← htg, ← hmm, zshr_n ⟨by omega, by omega⟩ (by decide), zshr_n ⟨by omega, by omega⟩ (by decide), show (2 : Int) ^ (8 : Int).toNat = 256 from rfl, show (32 + ep) % 256 = 32 + ep by omega, show cn + 8 = (content.length : Int) + 9 by omega, show ((content.length : Int) + 9) / 256 % 256 = ((content.length : Int) + 9) / 256 by omega]
            have z0 := zxor_oct (x := x / 256) (by omega) b0
            have z1 : zxor x (mm.getD 1 0) % 256 = zxor (x % 256) (mm.getD 1 0) := zxor_low hn2 b1
            rw [z1, show zxor (x / 256) (mm.getD 0 0) % 256 = zxor (x / 256) (mm.getD 0 0) by omega]
            simp
          rw [← e13]
          exact d13
        · rw [(f812.tr f13).1 514 (by decide) (by decide), n7]
