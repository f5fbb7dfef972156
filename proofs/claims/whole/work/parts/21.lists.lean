/-! octets as lists -/
def oL (f : Nat → Int32) (c : Nat) : List Int32 := (List.range c).map f
theorem oL_len (f : Nat → Int32) (c : Nat) : (oL f c).length = c := by simp [oL]
theorem oL_get {f : Nat → Int32} {c j : Nat} (h : j < c) : (oL f c).getD j 0 = f j := by simp [oL, h]
theorem oL_succ (f : Nat → Int32) (c : Nat) : oL f (c + 1) = oL f c ++ [f c] := by simp [oL, List.range_succ]
theorem oL_congr {f g : Nat → Int32} {c : Nat} (h : ∀ j, j < c → f j = g j) : oL f c = oL g c := by
  unfold oL
  exact List.map_congr_left (fun j hj => h j (List.mem_range.mp hj))
theorem oL_app (f : Nat → Int32) (a : Nat) : ∀ b, oL f (a + b) = oL f a ++ oL (fun j => f (a + j)) b := by
  intro b
  induction b with
  | zero => simp [oL]
  | succ b ih => rw [← Nat.add_assoc, oL_succ, ih, oL_succ, List.append_assoc]
theorem oL_inj {f g : Nat → Int32} {c : Nat} (h : oL f c = oL g c) {j : Nat} (hj : j < c) : f j = g j := by
  rw [← oL_get (f := f) hj, h, oL_get hj]
theorem oL_self (l : List Int32) : oL (fun j => l.getD j 0) l.length = l := by
  apply List.ext_getElem?
  intro i
  by_cases h : i < l.length
  · simp [oL, h]
  · rw [List.getElem?_eq_none (by rw [oL_len]; omega), List.getElem?_eq_none (by omega)]
theorem oL_of {f : Nat → Int32} {l : List Int32} (h : ∀ j, j < l.length → f j = l.getD j 0) : oL f l.length = l := (oL_congr h).trans (oL_self l)
def HS (l : List Int32) : List Int32 := oL (hsh (fun j => l.getD j 0) l.length) 32
def MC (k l : List Int32) : List Int32 := oL (hmac (fun j => k.getD j 0) k.length (fun j => l.getD j 0) l.length) 32
theorem HS_of {f : Nat → Int32} {c : Nat} {l : List Int32} (h : oL f c = l) : oL (hsh f c) 32 = HS l := by
  subst h
  unfold HS
  refine oL_congr (fun j hj => ?_)
  rw [oL_len]
  exact hsh_congr (fun i hi => (oL_get hi).symm) hj
theorem MC_of {k f : Nat → Int32} {kl c : Nat} {K l : List Int32} (hk : oL k kl = K) (h : oL f c = l) : oL (hmac k kl f c) 32 = MC K l := by
  subst h; subst hk
  unfold MC
  refine oL_congr (fun j hj => ?_)
  rw [oL_len, oL_len]
  exact hmac_congr (fun i hi => (oL_get hi).symm) (fun i hi => (oL_get hi).symm) hj
/-- a key with 0s behind it -/
theorem hmac_pad {k k' f : Nat → Int32} {kl len : Nat} (hkl : kl ≤ 64) (hk : ∀ j, j < 64 → k' j = if j < kl then k j else 0) {i : Nat} (hi : i < 32) : hmac k' 64 f len i = hmac k kl f len i := by
  have hy : ∀ z : Int32, ∀ j, j < 64 → hky k' 64 z j = hky k kl z j := by
    intro z j hj
    unfold hky
    rw [if_pos hj, hk j hj]
    by_cases e : j < kl
    · rw [if_pos e, if_pos e]
    · rw [if_neg e, if_neg e]
      apply b_ext
      intro i _
      rw [b_xor, b_0]
      simp
  refine hsh_congr (fun j hj => ?_) hi
  unfold hcat
  by_cases e : j < 64
  · rw [if_pos e, if_pos e, hy _ j e]
  · rw [if_neg e, if_neg e]
    refine hsh_congr (fun q hq => ?_) (by omega)
    by_cases e2 : q < 64
    · rw [if_pos e2, if_pos e2, hy _ q e2]
    · rw [if_neg e2, if_neg e2]
/-- a contract says less -/
theorem xCn.imp {G : xG} {l : Launch} {me : xMe} {As : List Value} {al : Bool} {M : xM} {mc ms : Nat} {Qv Qv' : Option Value → xM → Prop} {Qx Qx' : String → xM → Prop} (h : xCn G l me As al M mc ms Qv Qx) (hv : ∀ v M, Qv v M → Qv' v M) (hx : ∀ E M, Qx E M → Qx' E M) : xCn G l me As al M mc ms Qv' Qx' := by
  intro p e ha hc hk s m args below hf happ hP hK
  obtain ⟨k, o, h1, h2, h3, h4⟩ := h p e ha hc hk s m args below hf happ hP hK
  refine ⟨k, o, h1, h2, h3, ?_⟩
  rcases h4 with ⟨⟨⟨v, M', e1, e2, e3, e4⟩, e5⟩, h4⟩ | ⟨q, e1, E, ce, L', ⟨⟨M', e2, e3⟩, e4⟩, h4⟩
  · exact Or.inl ⟨⟨⟨v, M', e1, hv v M' e2, e3, e4⟩, e5⟩, h4⟩
  · exact Or.inr ⟨q, e1, E, ce, L', ⟨⟨M', hx E M' e2, e3⟩, e4⟩, h4⟩
/-- what was put into the class's Sha -/
def cB (I : Nat → Nat → Int32) (l : List Int32) : Prop := I 6 4 = nI l.length ∧ oL (fun j => I 7 (64 + j)) l.length = l ∧ l.length ≤ 568
theorem cB.fr {S : List Nat} {T : List (Nat × Nat)} {I I' : Nat → Nat → Int32} {l : List Int32} (h : cB I l) (hF : xFr S T I I') (h6 : 6 ∉ S) (h7 : 7 ∉ S) (h64 : (6, 4) ∉ T) (hT7 : ∀ q ∈ T, q.1 ≠ 7) : cB I' l :=
  ⟨by rw [hF 6 4 h6 h64]; exact h.1, by rw [hF.row h7 hT7]; exact h.2.1, h.2.2⟩
theorem c_clearL {b : Nat} {dC : Nat → ClassId} {dI : Nat → Nat → Nat} {cA : Nat → ClassId} {ts : Nat → Nat} {l : Launch} {al : Bool} {n : Nat} {R : Nat → Nat → Option Nat} {L : Nat → Nat → Int64} (hn : 491 ≤ n) (hR : xRk R) {I : Nat → Nat → Int32} : xCn (xGm b dC dI cA ts) l mX7_clear [.ref 6] al (n, R, I, L) 0 0 (fun v M => v = none ∧ ∃ I' : Nat → Nat → Int32, M = (n, R, I', L) ∧ cB I' [] ∧ xFr [] [(6, 4)] I I') (fun _ _ => False) :=
  (c_clear hn hR).imp (fun v M h => by
    obtain ⟨rfl, I', rfl, rfl⟩ := h
    exact ⟨rfl, _, rfl, ⟨by rw [xu_s]; rfl, rfl, by simp⟩, xFr.u (Or.inr (by simp))⟩) (fun _ _ h => h)
theorem c_putL {b : Nat} {dC : Nat → ClassId} {dI : Nat → Nat → Nat} {cA : Nat → ClassId} {ts : Nat → Nat} {l : Launch} {al : Bool} {n : Nat} {R : Nat → Nat → Option Nat} {L : Nat → Nat → Int64} (hn : 491 ≤ n) (hR : xRk R) {I : Nat → Nat → Int32} {v : Int32} {q : List Int32} (hB : cB I q) (hq : q.length < 568) : xCn (xGm b dC dI cA ts) l mX7_put [.ref 6, .int v] al (n, R, I, L) 0 0 (fun r M => r = none ∧ ∃ I' : Nat → Nat → Int32, M = (n, R, I', L) ∧ cB I' (q ++ [v &&& 255]) ∧ xFr [7] [(6, 4)] I I') (fun _ _ => False) :=
  (c_put hn hR hB.1 hq).imp (fun v M h => by
    obtain ⟨rfl, I', rfl, rfl⟩ := h
    refine ⟨rfl, _, rfl, ⟨by rw [xu_s]; simp, ?_, by simp; omega⟩, (xFr.u (Or.inl (by simp))).tr (xFr.u (Or.inr (by simp)))⟩
    rw [xu_r _ _ (by decide), xu_up, List.length_append, List.length_singleton, oL_succ]
    rw [pk_us, oL_congr (fun j hj => pk_un (by omega)), hB.2.1]) (fun _ _ h => h)
theorem c_putShortL {b : Nat} {dC : Nat → ClassId} {dI : Nat → Nat → Nat} {cA : Nat → ClassId} {ts : Nat → Nat} {l : Launch} {al : Bool} {n : Nat} {R : Nat → Nat → Option Nat} {L : Nat → Nat → Int64} (hn : 491 ≤ n) (hR : xRk R) {I : Nat → Nat → Int32} {v : Int32} {q : List Int32} (hB : cB I q) (hq : q.length < 567) : xCn (xGm b dC dI cA ts) l mX7_putShort [.ref 6, .int v] al (n, R, I, L) 0 0 (fun r M => r = none ∧ ∃ I' : Nat → Nat → Int32, M = (n, R, I', L) ∧ cB I' (q ++ [us v 8 &&& 255, v &&& 255]) ∧ xFr [7] [(6, 4)] I I') (fun _ _ => False) :=
  (c_putShort hn hR hB.1 hq).imp (fun v M h => by
    obtain ⟨rfl, I', rfl, rfl⟩ := h
    refine ⟨rfl, _, rfl, ⟨by rw [xu_s]; simp, ?_, by simp; omega⟩, (((xFr.u (Or.inl (by simp))).tr (xFr.u (Or.inr (by simp)))).tr (xFr.u (Or.inl (by simp)))).tr (xFr.u (Or.inr (by simp)))⟩
    rw [xu_r _ _ (by decide), xu_up, xu_r _ _ (by decide), xu_up, show (q ++ [us v 8 &&& 255, v &&& 255]).length = q.length + 1 + 1 by simp, oL_succ, oL_succ]
    rw [pk_us, pk_un (by omega), pk_us, oL_congr (fun j hj => by rw [pk_un (by omega), pk_un (by omega)]), hB.2.1]
    simp) (fun _ _ h => h)
theorem c_putAllL {b : Nat} {dC : Nat → ClassId} {dI : Nat → Nat → Nat} {cA : Nat → ClassId} {ts : Nat → Nat} {l : Launch} {al : Bool} {n : Nat} {R : Nat → Nat → Option Nat} {L : Nat → Nat → Int64} (hn : 491 ≤ n) (hR : xRk R) {I : Nat → Nat → Int32} {K NK p c : Nat} (hK : K < n) (hkK : kd0 K = 13) (hlK : ln0 K = NK) (hNK : NK < 100000) {q : List Int32} (hB : cB I q) (hp : p + c ≤ NK) (hq : q.length + c ≤ 568) : xCn (xGm b dC dI cA ts) l mX7_putAll [.ref 6, .ref K, .int (nI p), .int (nI c)] al (n, R, I, L) 0 0 (fun v M => v = none ∧ ∃ I' : Nat → Nat → Int32, M = (n, R, I', L) ∧ cB I' (q ++ oL (fun j => I K (p + j)) c) ∧ xFr [7] [(6, 4)] I I') (fun _ _ => False) :=
  (c_putAll hn hR hK hkK hlK hNK hB.1 hp hq).imp (fun v M h => by
    obtain ⟨rfl, I', rfl, rfl⟩ := h
    refine ⟨rfl, _, rfl, ⟨by rw [xu_s]; simp [oL_len], ?_, by simp [oL_len]; omega⟩, (xFr.up (by simp)).tr (xFr.u (Or.inr (by simp)))⟩
    rw [xu_r _ _ (by decide), va_up_self, List.length_append, oL_len, oL_app]
    rw [oL_congr (g := fun j => I 7 (64 + j)) (fun j hj => pk_cpy_out (by omega)), hB.2.1, oL_congr (g := fun j => I K (p + j)) (fun j hj => by rw [pk_cpy_in (by omega) (by omega), show 64 + (q.length + j) - (64 + q.length) = j by omega])]) (fun _ _ h => h)
theorem c_hashL {b : Nat} {dC : Nat → ClassId} {dI : Nat → Nat → Nat} {cA : Nat → ClassId} {ts : Nat → Nat} {l : Launch} {al : Bool} {n : Nat} {R : Nat → Nat → Option Nat} {L : Nat → Nat → Int64} (hn : 491 ≤ n) (hR : xRk R) {I : Nat → Nat → Int32} {K NK : Nat} (hK : K < n) (hkK : kd0 K = 13) (hlK : ln0 K = NK) (hNK : NK < 100000) (hNK2 : 32 ≤ NK) (hK7 : K ≠ 7) (hK9 : K ≠ 9) (hK10 : K ≠ 10) {q : List Int32} (hB : cB I q) : xCn (xGm b dC dI cA ts) l mX7_hashInto [.ref 6, .ref K] al (n, R, I, L) 0 0 (fun v M => v = none ∧ ∃ I' : Nat → Nat → Int32, M = (n, R, I', L) ∧ xFr [7, 9, 10, K] [] I I' ∧ oL (I' K) 32 = HS q ∧ ∀ j, 32 ≤ j → I' K j = I K j) (fun _ _ => False) :=
  (c_hashInto hn hR hK hkK hlK hNK hNK2 hK7 hK9 hK10 hB.1 hB.2.2).imp (fun v M h => by
    obtain ⟨rfl, I', rfl, h1, h2, h3⟩ := h
    exact ⟨rfl, _, rfl, h1, (oL_congr h2).trans (HS_of hB.2.1), h3⟩) (fun _ _ h => h)
theorem c_macL {b : Nat} {dC : Nat → ClassId} {dI : Nat → Nat → Nat} {cA : Nat → ClassId} {ts : Nat → Nat} {l : Launch} {al : Bool} {n : Nat} {R : Nat → Nat → Option Nat} {L : Nat → Nat → Int64} (hn : 491 ≤ n) (hR : xRk R) {I : Nat → Nat → Int32} {K NK O NO : Nat} (hK : K < n) (hkK : kd0 K = 13) (hlK : ln0 K = NK) (hNK : NK < 100000) (hK7 : K ≠ 7) (hK8 : K ≠ 8) (hK9 : K ≠ 9) (hK10 : K ≠ 10) (hO : O < n) (hkO : kd0 O = 13) (hlO : ln0 O = NO) (hNO : NO < 100000) (hNO2 : 32 ≤ NO) (hO7 : O ≠ 7) (hO8 : O ≠ 8) (hO9 : O ≠ 9) (hO10 : O ≠ 10) {q : List Int32} (hB : cB I q) : xCn (xGm b dC dI cA ts) l mX7_macInto [.ref 6, .ref K, .ref O] al (n, R, I, L) 0 0 (fun v M => v = none ∧ ∃ I' : Nat → Nat → Int32, M = (n, R, I', L) ∧ xFr [7, 8, 9, 10, O] [] I I' ∧ oL (I' O) 32 = MC (oL (I K) NK) q ∧ ∀ j, 32 ≤ j → I' O j = I O j) (fun _ _ => False) :=
  (c_macInto hn hR hK hkK hlK hNK hK7 hK8 hK9 hK10 hO hkO hlO hNO hNO2 hO7 hO8 hO9 hO10 hB.1 hB.2.2).imp (fun v M h => by
    obtain ⟨rfl, I', rfl, h1, h2, h3⟩ := h
    exact ⟨rfl, _, rfl, h1, (oL_congr h2).trans (MC_of rfl hB.2.1), h3⟩) (fun _ _ h => h)
