/-! ACKS come -/
def setR (lo n : Int) (ack : Int → Int) : Int → Int := fun i => if lo ≤ i ∧ i < lo + n then 1 else ack i
abbrev LGE : Type := Int × Int × Nat × Int × Int
def ackQ (B : Nat → List Int) (ep its : Int) (q : LGE) (ack : Int → Int) : Int → Int := if q.1 = ep ∧ q.2.1 = its then setR ((fs B q.2.2.1 : Int) + q.2.2.2.1) q.2.2.2.2 ack else ack
def ackOne (B : Nat → List Int) (ep its : Int) : LGT → (Int → Int) → Int → Int
  | [], ack => ack
  | q :: r, ack => ackOne B ep its r (ackQ B ep its q ack)
def ackAll (B : Nat → List Int) (lg : LGT) (ep : Int) : List Int → (Int → Int) → Int → Int
  | a :: b :: c :: r, ack => ackAll B lg ep r (if a ≤ ep then ackOne B a (256 * b + c) lg ack else ack)
  | [], ack => ack
  | [_], ack => ack
  | [_, _], ack => ack
def ackF (ep : Int) (c : List Int) (A : SA) : FLT := ((aF A).1, (aF A).2.1, (aF A).2.2.1, (aF A).2.2.2.1, ackAll (aF A).2.2.2.1 (aT A).2.2.2.2 ep c (aF A).2.2.2.2)
def ackE (ep : Int) (c : List Int) (A : SA) : SA := if c.length % 3 ≠ 0 then malA A else if aZ A 10 = 1 ∧ miss (ackF ep c A).2.2.2.2 (fs (aF A).2.2.2.1 (aF A).1) = 0 then uz 10 0 (uf (ackF ep c A) A) else uf (ackF ep c A) A
theorem ackQ_01 {B : Nat → List Int} {ep its : Int} {q : LGE} {ack : Int → Int} (h : ∀ i, ack i = 0 ∨ ack i = 1) : ∀ i, ackQ B ep its q ack i = 0 ∨ ackQ B ep its q ack i = 1 := by
  intro i
  unfold ackQ
  split
  · unfold setR
    split
    · exact Or.inr rfl
    · exact h i
  · exact h i
theorem ackOne_01 {B : Nat → List Int} {ep its : Int} : ∀ {lg : LGT} {ack : Int → Int}, (∀ i, ack i = 0 ∨ ack i = 1) → ∀ i, ackOne B ep its lg ack i = 0 ∨ ackOne B ep its lg ack i = 1 := by
  intro lg
  induction lg with
  | nil => intro ack h i; exact h i
  | cons q r ih => intro ack h i; exact ih (ackQ_01 h) i
theorem ackAll_01 {B : Nat → List Int} {lg : LGT} {ep : Int} : ∀ (n : Nat) (c : List Int) (ack : Int → Int), c.length ≤ n → (∀ i, ack i = 0 ∨ ack i = 1) → ∀ i, ackAll B lg ep c ack i = 0 ∨ ackAll B lg ep c ack i = 1 := by
  intro n
  induction n with
  | zero =>
    intro c ack hn h i
    have : c = [] := List.eq_nil_of_length_eq_zero (by omega)
    subst this
    exact h i
  | succ n ih =>
    intro c ack hn h i
    match c, hn with
    | [], _ => exact h i
    | [_], _ => exact h i
    | [_, _], _ => exact h i
    | a :: b :: d :: r, hn =>
      have hn : r.length + 1 + 1 + 1 ≤ n + 1 := hn
      refine ih r _ (by omega) (fun j => ?_) i
      by_cases q : a ≤ ep
      · simp only [q, if_true]; exact ackOne_01 h j
      · simp only [q, if_false]; exact h j
theorem drop_cons {α : Type} {l : List α} {x : Nat} {q : α} (h : l[x]? = some q) : l.drop x = q :: l.drop (x + 1) := by
  have hx := (List.getElem?_eq_some_iff.mp h)
  rw [List.drop_eq_getElem_cons hx.1]
  congr 1
  exact hx.2
theorem s_ackRecord {e many : Nat} {ep its : Int} {K N : Nat → Int} {B : Nat → List Int} {ack : Int → Int} {lg : LGT} {J : zM} {L : yM} {Q : zM → yM → Prop} (hF : XF e J many K N B ack) (hL : XL e J B lg) (hlo : logOk many B lg) (hl : lg.length ≤ 1836) (hep : 0 ≤ ep ∧ ep < 100) (hits : 0 ≤ its ∧ its < 65536) (hQ : ∀ J', XF e J' many K N B (ackOne B ep its lg ack) → zF (fun a => a = e + 10) J J' → Q J' L) : w_X2_ackRecord e ep its J L Q := by
  unfold w_X2_ackRecord
  rw [zor_65536 hep hits]
  intro x1 ex1
  have h204 := hF.2.2.2.2.1
  refine zl_z.by (fun m x J' L' => (m : Int) = (lg.length : Int) - x ∧ 0 ≤ x ∧ x ≤ (lg.length : Int) ∧ L' = L ∧ zF (fun a => a = e + 10) J J' ∧ ∃ ak, XF e J' many K N B ak ∧ ackOne B ep its (lg.drop x.toNat) ak = ackOne B ep its lg ack) ?_ lg.length 0 J L ⟨by omega, by omega, by omega, rfl, zF.rf, ack, hF, rfl⟩
  rintro m x J1 L1 KK ⟨hm, hx, hx2, rfl, f1, ak, g1, t1⟩ hKK
  have r1 : ∀ a, a ≠ e + 10 → J1 a = J a := fun a ha => f1 a ha
  rw [r1 (e + 8) (by omega), hL.1]
  refine ⟨⟨by omega, by omega⟩, ⟨by omega, by omega⟩, ?_⟩
  by_cases c : x < (lg.length : Int)
  · rw [if_pos c]
    refine ⟨⟨by omega, by omega⟩, fun K12 hK12 => ?_⟩
    have hlx : lg[x.toNat]? = some (lg[x.toNat]'(by omega)) := List.getElem?_eq_getElem (by omega)
    obtain ⟨q, hq⟩ : ∃ q, q = lg[x.toNat]'(by omega) := ⟨_, rfl⟩
    rw [← hq] at hlx
    have hv := hL.2 _ q hlx
    rw [show ((x.toNat : Nat) : Int) = x by omega] at hv
    have ho := hlo q (List.mem_of_getElem? hlx)
    rw [drop_cons hlx] at t1
    have next : ∀ J2 : zM, zF (fun a => a = e + 10) J1 J2 → XF e J2 many K N B (ackQ B ep its q ak) → K12 J2 L1 := fun J2 f2 g2 => hK12 J2 L1 (hKK (m - 1) (x + 1) J2 L1 (by omega) ⟨by omega, by omega, by omega, rfl, f1.tr f2, _, g2, by rw [show (x + 1).toNat = x.toNat + 1 by omega]; exact t1⟩)
    rw [r1 (e + 14) (by omega), hv.1]
    refine ⟨⟨by omega, by omega⟩, ⟨by omega, by omega⟩, ?_⟩
    by_cases d : q.1 = ep ∧ q.2.1 = its
    · rw [if_pos (by rw [ex1, d.1, d.2])]
      refine ⟨⟨by omega, by omega⟩, fun x17 e17 => ?_⟩
      rw [r1 (e + 15) (by omega), hv.2.1] at e17
      have hfs : fs B (q.2.2.1 + 1) = fs B q.2.2.1 + (B q.2.2.1).length := rfl
      have hmo := fs_mono (B := B) (f := q.2.2.1 + 1) (g := many) (by omega)
      unfold ackQ at next
      rw [if_pos d, ← e17] at next
      obtain ⟨cn, hcn⟩ : ∃ cn, cn = q.2.2.2.2 := ⟨_, rfl⟩
      rw [← hcn] at next hv ho
      refine zl_z.by (fun m2 y J' L' => (m2 : Int) = cn - (y - x17) ∧ x17 ≤ y ∧ y ≤ x17 + cn ∧ L' = L1 ∧ zF (fun a => a = e + 10) J1 J' ∧ XF e J' many K N B (setR x17 (y - x17) ak)) ?_ cn.toNat _ J1 L1 ⟨by omega, by omega, by omega, rfl, zF.rf, ?_⟩
      · rintro m2 y J2 L2 K2 ⟨hm2, hy, hy2, rfl, f2, g2⟩ hK2
        have r2 : ∀ a, a ≠ e + 10 → J2 a = J a := fun a ha => by rw [f2 a ha, r1 a ha]
        rw [r2 (e + 16) (by omega), hv.2.2, ← e17]
        refine ⟨⟨by omega, by omega⟩, ⟨by omega, by omega⟩, ⟨by omega, by omega⟩, ?_⟩
        by_cases dd : y < x17 + cn
        · rw [if_pos dd]
          refine ⟨⟨by omega, by omega⟩, fun J27 e27 => hK2 (m2 - 1) (y + 1) J27 L2 (by omega) ⟨by omega, by omega, by omega, rfl, f2.tr (by rw [e27]; exact zF.zs rfl), ?_⟩⟩
          have g3 := g2.fr (J' := zs J2 (e + 10) y 1)
          obtain ⟨x1', x2', x3', x4', x5', x6', x7'⟩ := g2
          have rr : ∀ a, a ≠ e + 10 → J27 a = J2 a := fun a ha => by rw [e27]; exact zs_r _ ha
          refine ⟨by rw [rr _ (by omega)]; exact x1', x2', fun f hf => by rw [rr _ (by omega), rr _ (by omega)]; exact x3' f hf, fun f hf => by rw [rr _ (by omega)]; exact x4' f hf, x5', fun f hf => by rw [sg_row (rr _ (by omega))]; exact x6' f hf, fun i i0 i1 => ?_⟩
          rw [e27]
          unfold setR
          by_cases u : i = y
          · rw [u, zs_s, if_pos (by omega)]
          · rw [zs_n _ (Or.inr u), x7' i i0 i1]
            unfold setR
            by_cases w : x17 ≤ i ∧ i < x17 + (y - x17)
            · rw [if_pos w, if_pos (by omega)]
            · rw [if_neg w, if_neg (by omega)]
        · rw [if_neg dd]
          refine next J2 f2 ?_
          have : y - x17 = cn := by omega
          rw [this] at g2
          exact g2
      · have : setR x17 (x17 - x17) ak = ak := funext fun i => if_neg (by omega)
        rw [this]
        exact g1
    · rw [if_neg (fun u => d (by rw [ex1] at u; omega))]
      refine next J1 zF.rf ?_
      unfold ackQ
      rw [if_neg d]
      exact g1
  · rw [if_neg c]
    have hxe : x = (lg.length : Int) := by omega
    subst hxe
    rw [Int.toNat_natCast, List.drop_length] at t1
    have t1 : ak = ackOne B ep its lg ack := t1
    rw [t1] at g1
    exact hQ J1 g1 f1
theorem s_notAcked {e many : Nat} {K N : Nat → Int} {B : Nat → List Int} {ack : Int → Int} {J : zM} {L : yM} {Q : Int → zM → yM → Prop} (h : XF e J many K N B ack) (hQ : Q (miss ack (fs B many)) J L) : w_X2_notAcked e J L Q := by
  have h204 := h.2.2.2.2.1
  unfold w_X2_notAcked
  refine zl_zz.by (fun m w x J' L' => (m : Int) = (fs B many : Int) - x ∧ 0 ≤ x ∧ x ≤ (fs B many : Int) ∧ J' = J ∧ L' = L ∧ w = miss ack x.toNat) ?_ (fs B many) 0 0 J L ⟨by omega, by omega, by omega, rfl, rfl, rfl⟩
  rintro m w x J1 L1 KK ⟨hm, hx, hx2, rfl, rfl, hw⟩ hKK
  refine s_end h ⟨⟨by omega, by omega⟩, ⟨by omega, by omega⟩, ?_⟩
  by_cases c : x < (fs B many : Int)
  · rw [if_pos c]
    refine ⟨⟨by omega, by omega⟩, fun x13 e13 => hKK (m - 1) x13 (x + 1) J1 L1 (by omega) ⟨by omega, by omega, by omega, rfl, rfl, ?_⟩⟩
    rw [h.2.2.2.2.2.2 x hx c] at e13
    rw [e13, hw, show (x + 1).toNat = x.toNat + 1 by omega]
    show _ = miss ack x.toNat + (1 - ack ((x.toNat : Nat) : Int))
    rw [show ((x.toNat : Nat) : Int) = x by omega]
  · rw [if_neg c]
    have : x = (fs B many : Int) := by omega
    subst this
    rw [Int.toNat_natCast] at hw
    rw [hw]
    exact hQ
theorem XS.acked {e : Nat} {s : Int} {ack : Int → Int} {A : SA} {J J' : zM} {L : yM} (he : iSide e) (h : XS e s J L A) (h1 : XF e J' (aF A).1 (aF A).2.1 (aF A).2.2.1 (aF A).2.2.2.1 ack) (f : zF (fun a => a = e + 10) J J') : XS e s J' L (uf ((aF A).1, (aF A).2.1, (aF A).2.2.1, (aF A).2.2.2.1, ack) A) ∧ XO e J L J' L := by
  have he2 : 139 ≤ e := by unfold iSide at he; omega
  have f' : ∀ a, a ≠ e + 10 → J' a = J a := fun a ha => f a ha
  obtain ⟨h0, h1', h2', h3, h4, h5, h6, h7, h8, h9, h10⟩ := h
  refine ⟨⟨h0.fr (f' _ (by omega)), h1'.fr (f' _ (by omega)) rfl, h2'.fr (fun x p q => f' x (by omega)), ⟨by rw [f' _ (by omega)]; exact h3.1, by rw [f' _ (by omega)]; exact h3.2.1, by rw [f' _ (by omega)]; exact h3.2.2.1, by rw [f' _ (by omega)]; exact h3.2.2.2.1, h1⟩, h4.fr (fun x p q => f' x (by omega)), h5.fr (fun x p q => f' x (by omega)), h6.fr (f' _ (by omega)), h7.fr he (fun x p q => f' x (by omega)), h8.fr (fun x p q => f' x (by omega)) (f' _ (by omega)), h9.fr (fun x p => f' x (nwy (c := 10) he p (by omega))) (by rw [f' _ (by omega)]), h10.fr (fun x p q => f' x (by omega)) (fun _ _ _ => rfl)⟩, fun x hx => f' x (fun q => hx (Or.inl (by omega))), fun _ _ => rfl⟩
theorem xs_hearAck {e : Nat} {bd s ep : Int} {c : List Int} {A : SA} {J : zM} {L : yM} {Q : Int → zM → yM → Prop} (he : iSide e) (h : XS e s J L A) (ai : AI bd s A) (hc : XC J ep c) (hep : ep3 ep) (h0 : c.length % 3 ≠ 0 → Q 0 J L) (h1 : ∀ J', c.length % 3 = 0 → XS e s J' L (ackE ep c A) → XO e J L J' L → Q 1 J' L) : w_X8_hearAck e J L Q := by
  have hl := hc.2.2.2.1
  have h7 := hc.2.2.1
  have he2 : 139 ≤ e := by unfold iSide at he; omega
  have hf := ai.2.2.2.1
  have hll := ai.ll
  obtain ⟨F, hF⟩ : ∃ F, F = aF A := ⟨_, rfl⟩
  have hX0 : XF e J (aF A).1 (aF A).2.1 (aF A).2.2.1 (aF A).2.2.2.1 (aF A).2.2.2.2 := h.2.2.2.1.2.2.2.2
  have hL0 : XL e J (aF A).2.2.2.1 (aT A).2.2.2.2 := h.2.2.2.2.2.2.2.2.2.1.2.2.2.2.2.2
  unfold w_X8_hearAck
  rw [hc.2.1, zrem_n ⟨by omega, by omega⟩ (by decide)]
  by_cases c3 : c.length % 3 = 0
  · rw [if_pos (by omega)]
    have h1 := h1
    unfold ackE at h1
    rw [if_neg (fun q => q c3)] at h1
    refine zl_z.by (fun m x J' L' => (m : Int) = (c.length : Int) - x ∧ 0 ≤ x ∧ x ≤ (c.length : Int) ∧ x % 3 = 0 ∧ L' = L ∧ zF (fun a => a = e + 10) J J' ∧ ∃ ak, XF e J' (aF A).1 (aF A).2.1 (aF A).2.2.1 (aF A).2.2.2.1 ak ∧ ackAll (aF A).2.2.2.1 (aT A).2.2.2.2 ep (c.drop x.toNat) ak = (ackF ep c A).2.2.2.2) ?_ c.length 0 J L ⟨by omega, by omega, by omega, by omega, rfl, zF.rf, _, hX0, rfl⟩
    rintro m x J1 L1 KK ⟨hm, hx, hx2, hx3, rfl, f1, ak, g1, t1⟩ hKK
    have r1 : ∀ a, a ≠ e + 10 → J1 a = J a := fun a ha => f1 a ha
    have hc1 : XC J1 ep c := hc.fr (r1 3 (by omega)) (r1 4 (by omega))
    rw [hc1.2.1]
    refine ⟨⟨by omega, by omega⟩, ⟨by omega, by omega⟩, ?_⟩
    by_cases d : x < (c.length : Int)
    · rw [if_pos d]
      refine x_octet hc1 ⟨hx, d⟩ ?_
      intro K22 hK22
      have gx : ∀ j : Nat, j < 3 → c[x.toNat + j]? = some (c.getD (x.toNat + j) 0) := fun j hj => by rw [List.getD_eq_getElem?_getD, List.getElem?_eq_getElem (by omega)]; rfl
      have gx0 : c[x.toNat]? = some (c.getD x.toNat 0) := gx 0 (by decide)
      rw [drop_cons gx0, drop_cons (gx 1 (by decide)), drop_cons (gx 2 (by decide))] at t1
      have o0 := oct1 hc.2.2.2.2.2 x.toNat
      have o1 := oct1 hc.2.2.2.2.2 (x.toNat + 1)
      have o2 := oct1 hc.2.2.2.2.2 (x.toNat + 2)
      have next : ∀ J2 : zM, zF (fun a => a = e + 10) J1 J2 → XF e J2 (aF A).1 (aF A).2.1 (aF A).2.2.1 (aF A).2.2.2.1 (if c.getD x.toNat 0 ≤ ep then ackOne (aF A).2.2.2.1 (c.getD x.toNat 0) (256 * c.getD (x.toNat + 1) 0 + c.getD (x.toNat + 2) 0) (aT A).2.2.2.2 ak else ak) → K22 J2 L1 := fun J2 f2 g2 => hK22 J2 L1 (hKK (m - 3) (x + 3) J2 L1 (by omega) ⟨by omega, by omega, by omega, by omega, rfl, f1.tr f2, _, g2, by rw [show (x + 3).toNat = x.toNat + 2 + 1 by omega]; exact t1⟩)
      rw [hc1.1]
      refine ⟨⟨by omega, by omega⟩, ⟨by omega, by omega⟩, ?_⟩
      by_cases dd : ep < c.getD x.toNat 0
      · rw [if_pos dd]
        refine next J1 zF.rf ?_
        rw [if_neg (by omega)]
        exact g1
      · rw [if_neg dd]
        refine x_octet hc1 (by omega) (x_octet hc1 (by omega) ?_)
        rw [show (x + 1).toNat = x.toNat + 1 by omega, show (x + 2).toNat = x.toNat + 2 by omega, zor_256 (by omega) (by omega)]
        have hL1 : XL e J1 (aF A).2.2.2.1 (aT A).2.2.2.2 := hL0.fr (by rw [r1 _ (by omega)]) (fun a p q => r1 a (by omega))
        refine s_ackRecord g1 hL1 hf.2.2.1 hll (by omega) (by omega) (fun J2 g2 f2 => next J2 f2 ?_)
        rw [if_pos (by omega), show 256 * c.getD (x.toNat + 1) 0 + c.getD (x.toNat + 2) 0 = c.getD (x.toNat + 1) 0 * 256 + c.getD (x.toNat + 2) 0 by omega]
        exact g2
    · rw [if_neg d]
      have : x = (c.length : Int) := by omega
      subst this
      rw [Int.toNat_natCast, List.drop_length] at t1
      have t1 : ak = (ackF ep c A).2.2.2.2 := t1
      rw [t1] at g1
      have gA : XS e s J1 L1 (uf (ackF ep c A) A) ∧ XO e J L1 J1 L1 := h.acked he g1 f1
      have v13 : J1 (e + 8) 13 = aZ A 10 := gA.1.2.2.2.1.2.2.2.1
      have b10 := ai.b10
      rw [v13]
      refine ⟨⟨by omega, by omega⟩, ?_⟩
      by_cases z : aZ A 10 = 0
      · rw [if_pos z]
        rw [if_neg (by omega)] at h1
        exact h1 J1 c3 gA.1 gA.2
      · rw [if_neg z]
        have h204 := hf.1.2.2
        have a01 := ackAll_01 (B := (aF A).2.2.2.1) (lg := (aT A).2.2.2.2) (ep := ep) c.length c (aF A).2.2.2.2 (Nat.le_refl _) hf.2.1
        have mn := miss_nn (n := fs (aF A).2.2.2.1 (aF A).1) a01
        have ml := miss_le (n := fs (aF A).2.2.2.1 (aF A).1) a01
        refine s_notAcked g1 ⟨?_, ?_⟩
        · show R32 (miss (ackAll (aF A).2.2.2.1 (aT A).2.2.2.2 ep c (aF A).2.2.2.2) (fs (aF A).2.2.2.1 (aF A).1))
          exact ⟨by omega, by omega⟩
        · by_cases w : miss (ackF ep c A).2.2.2.2 (fs (aF A).2.2.2.1 (aF A).1) = 0
          · rw [if_pos w]
            rw [if_pos ⟨by omega, w⟩] at h1
            intro J16 e16
            have g := XS_z10 he gA.1 0
            rw [← e16] at g
            refine h1 J16 c3 g (gA.2.tr ?_)
            rw [e16]
            exact XO.zs (Or.inl (by omega))
          · rw [if_neg w]
            rw [if_neg (fun q => w q.2)] at h1
            exact h1 J1 c3 gA.1 gA.2
  · rw [if_neg (by omega)]
    exact h0 c3
theorem AI_ackE {bd s ep : Int} {c : List Int} {A : SA} (ai : AI bd s A) : AI bd s (ackE ep c A) := by
  have hf := ai.2.2.2.1
  have a01 := ackAll_01 (B := (aF A).2.2.2.1) (lg := (aT A).2.2.2.2) (ep := ep) c.length c (aF A).2.2.2.2 (Nat.le_refl _) hf.2.1
  have key : AI bd s (uf (ackF ep c A) A) := ⟨ai.1, ai.2.1, ai.2.2.1, ⟨hf.1, a01, hf.2.2⟩, ai.2.2.2.2⟩
  unfold ackE
  split
  · exact AI_cnt ai (by decide)
  · split
    · exact AI_z10 key
    · exact key
