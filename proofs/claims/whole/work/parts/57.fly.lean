/-! a FLIGHT is sent: what is sent, in which datagrams, by which records -/
def frI (kind len num fr cnt : Int) (part : List Int) : List Int := [kind, len / 256, len % 256, num, fr / 256, fr % 256, cnt / 256, cnt % 256] ++ part
def epK (kind : Int) : Int := if kind = 8 ∨ kind = 20 then 2 else 0
def hdI (ep : Int) : Int := if ep = 0 then 14 else 22
/-- net, sent, numbers of the records, the datagram that is begun, the log: EPOCH, number, MESSAGE, from, how many -/
abbrev FS : Type := List (List Int) × Int × (Int → Int) × List Int × List (Int × Int × Nat × Int × Int)
def flushS (t : FS) : FS := if t.2.2.2.1 = [] then t else (putN t.1 t.2.2.2.1, t.2.1 + 1, t.2.2.1, [], t.2.2.2.2)
def putS (kf mf : Int → List Int) (ep type : Int) (content : List Int) (t : FS) : FS := if 65535 < t.2.2.1 ep then t else (t.1, t.2.1, fun i => if i = ep then t.2.2.1 ep + 1 else t.2.2.1 i, t.2.2.2.1 ++ recI ep type (t.2.2.1 ep) (kf ep) (mf ep) content, t.2.2.2.2)
def fidx (B : Nat → List Int) (at_ : Int) : Nat := if at_ < (fs B 1 : Int) then 0 else if at_ < (fs B 2 : Int) then 1 else 2
def logS (t t2 : FS) (ep : Int) (f : Nat) (fr cnt : Int) : FS := if 65535 < t.2.2.1 ep then t2 else (t2.1, t2.2.1, t2.2.2.1, t2.2.2.2.1, t2.2.2.2.2 ++ [(ep, t.2.2.1 ep, f, fr, cnt)])
def partI (b : List Int) (fr cnt : Nat) : List Int := (b.drop fr).take cnt
def fragS (kf mf : Int → List Int) (K N : Nat → Int) (B : Nat → List Int) (f : Nat) (at_ cnt : Int) (t : FS) : FS :=
  logS t (putS kf mf (epK (K f)) 22 (frI (K f) ((B f).length : Int) (N f) (at_ - (fs B f : Int)) cnt (partI (B f) (at_ - (fs B f : Int)).toNat cnt.toNat)) t) (epK (K f)) f (at_ - (fs B f : Int)) cnt
def flyR (mtu : Int) (kf mf : Int → List Int) (many : Nat) (K N : Nat → Int) (B : Nat → List Int) (ack : Int → Int) : Nat → Int → FS → FS
  | 0, _, t => t
  | n + 1, at_, t =>
    if (fs B many : Int) ≤ at_ then t
    else if ack at_ ≠ 0 then flyR mtu kf mf many K N B ack n (at_ + 1) t
    else
      let t1 := if mtu - (t.2.2.2.1.length : Int) - hdI (epK (K (fidx B at_))) < 1 then flushS t else t
      let c := runL ack at_ (min ((fs B (fidx B at_ + 1) : Int) - at_) (mtu - (t1.2.2.2.1.length : Int) - hdI (epK (K (fidx B at_))))).toNat
      flyR mtu kf mf many K N B ack n (at_ + (c : Int)) (fragS kf mf K N B (fidx B at_) at_ (c : Int) t1)
theorem fidx_of {B : Nat → List Int} {f : Nat} {at_ : Int} (hf : f < 3) (h0 : (fs B f : Int) ≤ at_) (h1 : at_ < (fs B (f + 1) : Int)) : fidx B at_ = f := by
  have m1 : fs B 1 ≤ fs B 2 := fs_mono (by decide)
  have hf3 : f = 0 ∨ f = 1 ∨ f = 2 := by omega
  unfold fidx
  rcases hf3 with rfl | rfl | rfl
  · rw [if_pos h1]
  · rw [if_neg (by omega), if_pos h1]
  · rw [if_neg (by omega), if_neg (by omega)]
section FLY
variable {mtu : Int} {kf mf : Int → List Int} {many : Nat} {K N : Nat → Int} {B : Nat → List Int} {ack : Int → Int}
theorem flyR_end {n : Nat} {at_ : Int} {t : FS} (h : (fs B many : Int) ≤ at_) : flyR mtu kf mf many K N B ack n at_ t = t := by
  cases n with
  | zero => rfl
  | succ n => unfold flyR; rw [if_pos h]
theorem flyR_skip {n : Nat} {at_ : Int} {t : FS} (h : at_ < (fs B many : Int)) (ha : ack at_ ≠ 0) : flyR mtu kf mf many K N B ack (n + 1) at_ t = flyR mtu kf mf many K N B ack n (at_ + 1) t := by
  conv => lhs; unfold flyR
  rw [if_neg (by omega), if_pos ha]
theorem flyR_put {n f : Nat} {at_ : Int} {t : FS} (hf : f < 3) (h0 : (fs B f : Int) ≤ at_) (h1 : at_ < (fs B (f + 1) : Int)) (h : at_ < (fs B many : Int)) (ha : ack at_ = 0) (hs : ¬ mtu - (t.2.2.2.1.length : Int) - hdI (epK (K f)) < 1) : flyR mtu kf mf many K N B ack (n + 1) at_ t = flyR mtu kf mf many K N B ack n (at_ + (runL ack at_ (min ((fs B (f + 1) : Int) - at_) (mtu - (t.2.2.2.1.length : Int) - hdI (epK (K f)))).toNat : Int)) (fragS kf mf K N B f at_ (runL ack at_ (min ((fs B (f + 1) : Int) - at_) (mtu - (t.2.2.2.1.length : Int) - hdI (epK (K f)))).toNat : Int) t) := by
  have e := fidx_of hf h0 h1
  conv => lhs; unfold flyR
  rw [if_neg (by omega), if_neg (by rw [ha]; decide)]
  simp only [e]
  rw [if_neg hs]
theorem flyR_flush {n f : Nat} {at_ : Int} {t : FS} (hm : 100 ≤ mtu) (hf : f < 3) (h0 : (fs B f : Int) ≤ at_) (h1 : at_ < (fs B (f + 1) : Int)) (h : at_ < (fs B many : Int)) (ha : ack at_ = 0) (hs : mtu - (t.2.2.2.1.length : Int) - hdI (epK (K f)) < 1) : flyR mtu kf mf many K N B ack (n + 1) at_ t = flyR mtu kf mf many K N B ack (n + 1) at_ (flushS t) := by
  have e := fidx_of hf h0 h1
  have hh : hdI (epK (K f)) ≤ 22 := by unfold hdI; split <;> decide
  have hd : (flushS t).2.2.2.1 = [] := by
    unfold flushS
    by_cases q : t.2.2.2.1 = []
    · rw [if_pos q]; exact q
    · rw [if_neg q]
  have hs2 : ¬ mtu - ((flushS t).2.2.2.1.length : Int) - hdI (epK (K f)) < 1 := by rw [hd]; simp; omega
  rw [flyR_put hf h0 h1 h ha hs2]
  conv => lhs; unfold flyR
  rw [if_neg (by omega), if_neg (by rw [ha]; decide)]
  simp only [e]
  rw [if_pos hs]
end FLY
/-- the content of a FRAGMENT in the class -/
theorem s_fragHead {e : Nat} {k l n fr c : Int} {J : zM} {L : yM} {Q : zM → yM → Prop} (hl : 0 ≤ l ∧ l < 65536) (hf : 0 ≤ fr ∧ fr < 65536) (hc : 0 ≤ c ∧ c < 65536) (hQ : Q (zw J (e + 170) 0 [k, l / 256, l % 256, n, fr / 256, fr % 256, c / 256, c % 256]) L) : w_X8_putFragmentHead e k l n fr c J L Q := by
  unfold w_X8_putFragmentHead
  rw [zush_n ⟨hl.1, by omega⟩ (by decide), zush_n ⟨hf.1, by omega⟩ (by decide), zush_n ⟨hc.1, by omega⟩ (by decide), zand255, zand255, zand255, show (2 : Int) ^ (8 : Int).toNat = 256 from rfl]
  intro J1 e1 J2 e2 J3 e3 J4 e4 J5 e5 J6 e6 J7 e7 J8 e8
  have h1 := zw_snoc J (e + 170) 0 [] k
  have h2 := zw_snoc J (e + 170) 0 [k] (l / 256)
  have h3 := zw_snoc J (e + 170) 0 [k, l / 256] (l % 256)
  have h4 := zw_snoc J (e + 170) 0 [k, l / 256, l % 256] n
  have h5 := zw_snoc J (e + 170) 0 [k, l / 256, l % 256, n] (fr / 256)
  have h6 := zw_snoc J (e + 170) 0 [k, l / 256, l % 256, n, fr / 256] (fr % 256)
  have h7 := zw_snoc J (e + 170) 0 [k, l / 256, l % 256, n, fr / 256, fr % 256] (c / 256)
  have h8 := zw_snoc J (e + 170) 0 [k, l / 256, l % 256, n, fr / 256, fr % 256, c / 256] (c % 256)
  rw [zw_nil] at h1
  simp only [List.length_nil, List.length_cons, List.nil_append, List.cons_append] at h1 h2 h3 h4 h5 h6 h7 h8
  have g1 : J1 = _ := e1.trans h1
  rw [g1] at e2
  have g2 : J2 = _ := e2.trans h2
  rw [g2] at e3
  have g3 : J3 = _ := e3.trans h3
  rw [g3] at e4
  have g4 : J4 = _ := e4.trans h4
  rw [g4] at e5
  have g5 : J5 = _ := e5.trans h5
  rw [g5] at e6
  have g6 : J6 = _ := e6.trans h6
  rw [g6] at e7
  have g7 : J7 = _ := e7.trans h7
  rw [g7] at e8
  have g8 : J8 = _ := e8.trans h8
  rw [g8]
  exact hQ
theorem sg_part {J : zM} {a : Nat} {i : Int} {b : List Int} (h : sg J a i b.length = b) (fr cnt : Nat) (hf : fr + cnt ≤ b.length) : sg J a (i + (fr : Int)) cnt = partI b fr cnt := by
  unfold partI
  apply List.ext_getElem?
  intro j
  by_cases q : j < cnt
  · have h1 : (sg J a (i + (fr : Int)) cnt)[j]? = some (J a (i + (fr : Int) + (j : Int))) := by simp [sg, q]
    have h2 : b[fr + j]? = some (J a (i + ((fr + j : Nat) : Int))) := by
      rw [← h]
      simp [sg, show fr + j < b.length by omega]
    rw [h1, List.getElem?_take, if_pos q, List.getElem?_drop, h2]
    congr 2
    omega
  · rw [List.getElem?_eq_none (by rw [sg_len]; omega), List.getElem?_take, if_neg q]
theorem s_putFragment {e f : Nat} {at_ c : Int} {J : zM} {L : yM} {many : Nat} {K N : Nat → Int} {B : Nat → List Int} {ack : Int → Int} {Q : zM → yM → Prop} (he : iSide e) (h : XF e J many K N B ack) (hf : f < many) (h0 : (fs B f : Int) ≤ at_) (hc : 0 ≤ c) (h1 : at_ + c ≤ (fs B (f + 1) : Int)) (hQ : ∀ J', sg J' (e + 170) 0 (8 + c.toNat) = frI (K f) ((B f).length : Int) (N f) (at_ - (fs B f : Int)) c (partI (B f) (at_ - (fs B f : Int)).toNat c.toNat) → zF (fun a => a = e + 170) J J' → Q J' L) : w_X8_putFragment e (f : Int) at_ c J L Q := by
  obtain ⟨g1, g2, g3, g4, g5, g6, g7⟩ := h
  have hm : fs B (f + 1) ≤ fs B many := fs_mono (by omega)
  have e0 := g4 f (by omega)
  have e1 := g4 (f + 1) (by omega)
  have eb : fs B (f + 1) = fs B f + (B f).length := rfl
  rw [show ((f + 1 : Nat) : Int) = (f : Int) + 1 by omega] at e1
  unfold w_X8_putFragment
  refine ⟨by omega, fun x ex => ⟨by omega, fun y ey => ⟨by omega, by omega, ?_⟩⟩⟩
  rw [e0] at ex
  rw [e1, ex] at ey
  have ey2 : y = ((B f).length : Int) := by omega
  rw [(g3 f hf).1, (g3 f hf).2, ex, ey2]
  refine s_fragHead (by omega) (by omega) (by omega) ⟨⟨by omega, by omega, by omega, by omega, by omega⟩, fun J2 e2 => hQ J2 ?_ ?_⟩
  · rw [sg_app]
    unfold frI
    congr 1
    · rw [e2, sg_fr (fun k k0 k1 => zcp_out _ (by omega))]
      exact zw_sg J (e + 170) 0 [K f, ((B f).length : Int) / 256, ((B f).length : Int) % 256, N f, (at_ - (fs B f : Int)) / 256, (at_ - (fs B f : Int)) % 256, c / 256, c % 256]
    · rw [show (0 : Int) + ((8 : Nat) : Int) = 8 from rfl, e2, sg_zcp (by omega), sg_row (zw_r J (by omega))]
      have := sg_part (g6 f hf).1 (at_ - (fs B f : Int)).toNat c.toNat (by omega)
      rw [show ((fs B f : Nat) : Int) + ((at_ - (fs B f : Int)).toNat : Int) = at_ by omega] at this
      exact this
  · rw [e2]
    exact zF.tr (S := fun a => a = e + 170) (zF.zw (S := fun a => a = e + 170) rfl) (zF.zcp (S := fun a => a = e + 170) rfl)
