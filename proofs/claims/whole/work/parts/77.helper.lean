/-! writing lists into the memory -/
theorem gd_al {l1 l2 : List Int} {n : Nat} (h : n < l1.length) : (l1 ++ l2).getD n 0 = l1.getD n 0 := by rw [List.getD_eq_getElem?_getD, List.getD_eq_getElem?_getD, List.getElem?_append_left h]
theorem gd_ar {l1 l2 : List Int} {n : Nat} (h : l1.length ≤ n) : (l1 ++ l2).getD n 0 = l2.getD (n - l1.length) 0 := by rw [List.getD_eq_getElem?_getD, List.getD_eq_getElem?_getD, List.getElem?_append_right h]
theorem zs_zw (J : zM) (a : Nat) (p v : Int) : zs J a p v = zw J a p [v] := by
  have := zw_snoc J a p [] v
  rw [zw_nil] at this
  rw [← List.nil_append [v], ← this]
  show zs J a p v = zs J a (p + ((0 : Nat) : Int)) v
  rw [show p + ((0 : Nat) : Int) = p by omega]
theorem zw_app (J : zM) (a : Nat) (p q : Int) (l1 l2 : List Int) (h : q = p + (l1.length : Int)) : zw (zw J a p l1) a q l2 = zw J a p (l1 ++ l2) := by
  subst h
  funext c i
  unfold zw
  rw [List.length_append]
  by_cases hc : c = a
  · subst hc
    by_cases h2 : p + (l1.length : Int) ≤ i ∧ i < p + (l1.length : Int) + (l2.length : Int)
    · rw [if_pos ⟨rfl, h2⟩, if_pos ⟨rfl, by omega, by omega⟩, gd_ar (by omega)]
      congr 1
      omega
    · rw [if_neg (fun q => h2 q.2)]
      by_cases h1 : p ≤ i ∧ i < p + (l1.length : Int)
      · rw [if_pos ⟨rfl, h1⟩, if_pos ⟨rfl, by omega, by omega⟩, gd_al (by omega)]
      · rw [if_neg (fun q => h1 q.2), if_neg (fun q => by omega)]
  · rw [if_neg (fun q => hc q.1), if_neg (fun q => hc q.1), if_neg (fun q => hc q.1)]
theorem zcp_zw (J : zM) (a : Nat) (sp : Int) (b : Nat) (dp n : Int) (hn : 0 ≤ n) : zcp J a sp b dp n = zw J b dp (sg J a sp n.toNat) := by
  funext c i
  unfold zcp zw
  rw [sg_len]
  by_cases h : c = b ∧ dp ≤ i ∧ i < dp + n
  · rw [if_pos h, if_pos ⟨h.1, h.2.1, by omega⟩, sg_get (by omega)]
    congr 1
    omega
  · rw [if_neg h, if_neg (fun q => h ⟨q.1, q.2.1, by omega⟩)]
theorem zw_in (J : zM) (a : Nat) (p : Int) (l : List Int) (i : Int) (h : p ≤ i ∧ i < p + (l.length : Int)) : zw J a p l a i = l.getD (i - p).toNat 0 := by
  unfold zw
  rw [if_pos ⟨rfl, h⟩]
theorem zw_sg2 (J : zM) (a : Nat) (p : Int) (l1 l2 : List Int) : sg (zw J a p (l1 ++ l2)) a p l1.length = l1 := by
  have h := zw_sg J a p (l1 ++ l2)
  rw [List.length_append, sg_app] at h
  exact (List.append_inj h (by rw [sg_len])).1
theorem zw_sgm (J : zM) (a : Nat) (p q : Int) (l1 l2 l3 : List Int) (h : q = p + (l1.length : Int)) : sg (zw J a p (l1 ++ (l2 ++ l3))) a q l2.length = l2 := by
  rw [← zw_app J a p q l1 (l2 ++ l3) h]
  exact zw_sg2 _ _ _ _ _
theorem mMs.fr2 {J J' : zM} {at_ : Int} {m : List Int} (h : mMs J at_ m) (hf : ∀ k, at_ ≤ k → k < at_ + (m.length : Int) → J' 492 k = J 492 k) : mMs J' at_ m := by
  obtain ⟨h1, h2⟩ := h
  refine ⟨?_, h2⟩
  rw [sg_fr hf]
  exact h1
theorem mMs_mk {J : zM} {at_ kind : Int} {body : List Int} (h : sg J 492 at_ (3 + body.length) = msgI kind body) (hk : 0 ≤ kind ∧ kind < 256) (ho : oct body) (hl : body.length ≤ 157) : mMs J at_ (msgI kind body) := by
  refine ⟨by rw [msgI_len]; exact h, ?_, by rw [msgI_len]; omega, ?_, by rw [msgI_len]; omega⟩
  · unfold msgI
    simp only [oct_cons]
    exact ⟨hk, by omega, by omega, ho⟩
  · rw [msgI_len]
    show 3 + 256 * ((body.length : Int) / 256) + (body.length : Int) % 256 = _
    omega
/-! copies within own -/
theorem ownLoop {sp dp N : Int} {Rest : zM → yM → Prop} {J : zM} {L : yM} (hN : 0 ≤ N ∧ N ≤ 2048) (h1 : 0 ≤ sp ∧ sp + N ≤ 2048) (h2 : 0 ≤ dp ∧ dp + N ≤ 2048) (hd : sp + N ≤ dp ∨ dp + N ≤ sp) (hQ : Rest (zw J 492 dp (sg J 492 sp N.toNat)) L) :
    zl_z (fun K x J' L' => R32 x ∧ (if x < N then ((0 : Int) ≤ (sp + x) ∧ (sp + x) < 2048) ∧ ((0 : Int) ≤ (dp + x) ∧ (dp + x) < 2048) ∧ ∀ J'' : zM, J'' = zs J' 492 (dp + x) (J' 492 (sp + x)) → K (x + 1) J'' L' else Rest J' L')) 0 J L := by
  refine zl_z.by (fun m x J' L' => (m : Int) = N - x ∧ 0 ≤ x ∧ L' = L ∧ J' = zcp J 492 sp 492 dp x) ?_ N.toNat 0 J L ⟨by omega, by omega, rfl, (zcp_0 J 492 492 sp dp).symm⟩
  rintro m x J1 L1 K ⟨hm, hx, rfl, e1⟩ hK
  refine ⟨⟨by omega, by omega⟩, ?_⟩
  by_cases c : x < N
  · rw [if_pos c]
    refine ⟨⟨by omega, by omega⟩, ⟨by omega, by omega⟩, fun J2 e2 => hK (m - 1) (x + 1) J2 L1 (by omega) ⟨by omega, by omega, rfl, ?_⟩⟩
    rw [e2, e1]
    exact zcp_succ2 hx (Or.inr (by omega))
  · rw [if_neg c]
    have : x = N := by omega
    subst this
    rw [e1, zcp_zw _ _ _ _ _ _ hx]
    exact hQ
theorem ownLoopV {sp dp N : Int} {Rest : zM → yM → Prop} {J : zM} {L : yM} (hN : 0 ≤ N ∧ N ≤ 2048) (h1 : 0 ≤ sp ∧ sp + N ≤ 2048) (h2 : 0 ≤ dp ∧ dp + N ≤ 2048) (hd : sp + N ≤ dp ∨ dp + N ≤ sp) (hQ : Rest (zw J 492 dp (sg J 492 sp N.toNat)) L) :
    zl_z (fun K x J' L' => R32 x ∧ R32 N ∧ (if x < N then ((0 : Int) ≤ (sp + x) ∧ (sp + x) < 2048) ∧ ((0 : Int) ≤ (dp + x) ∧ (dp + x) < 2048) ∧ ∀ J'' : zM, J'' = zs J' 492 (dp + x) (J' 492 (sp + x)) → K (x + 1) J'' L' else Rest J' L')) 0 J L := by
  refine zl_z.by (fun m x J' L' => (m : Int) = N - x ∧ 0 ≤ x ∧ L' = L ∧ J' = zcp J 492 sp 492 dp x) ?_ N.toNat 0 J L ⟨by omega, by omega, rfl, (zcp_0 J 492 492 sp dp).symm⟩
  rintro m x J1 L1 K ⟨hm, hx, rfl, e1⟩ hK
  refine ⟨⟨by omega, by omega⟩, ⟨by omega, by omega⟩, ?_⟩
  by_cases c : x < N
  · rw [if_pos c]
    refine ⟨⟨by omega, by omega⟩, ⟨by omega, by omega⟩, fun J2 e2 => hK (m - 1) (x + 1) J2 L1 (by omega) ⟨by omega, by omega, rfl, ?_⟩⟩
    rw [e2, e1]
    exact zcp_succ2 hx (Or.inr (by omega))
  · rw [if_neg c]
    have : x = N := by omega
    subst this
    rw [e1, zcp_zw _ _ _ _ _ _ hx]
    exact hQ
theorem s_putMessage {at_ k n : Int} {J : zM} {L : yM} {Q : zM → yM → Prop} (h0 : 0 ≤ at_ ∧ at_ + 3 ≤ 2048) (hn : 0 ≤ n ∧ n < 65536) (hQ : Q (zw J 492 at_ [k, n / 256, n % 256]) L) : w_X12_putMessage at_ k n J L Q := by
  unfold w_X12_putMessage
  refine ⟨by omega, fun J2 e2 => ⟨by omega, fun J4 e4 => ⟨by omega, fun J6 e6 => ?_⟩⟩⟩
  have e : J6 = zw J 492 at_ [k, n / 256, n % 256] := by
    rw [e6, e4, e2, zshr_n ⟨by omega, by omega⟩ (by decide), zand255, zs_zw J, zs_zw (zw J 492 at_ [k]), zw_app _ _ _ _ _ _ (show at_ + 1 = at_ + (([k].length : Nat) : Int) from rfl), zs_zw, zw_app _ _ _ _ _ _ (show at_ + 2 = at_ + ((([k] ++ [n / 2 ^ (8 : Int).toNat]).length : Nat) : Int) from rfl)]
    rfl
  rw [e]
  exact hQ
/-! the HELLO -/
def helB0 (A : SA) : List Int := aY A 4 ++ ([((aY A 5).length : Int)] ++ (aY A 5 ++ (nb 4 (aZ A 15) ++ aY A 1)))
def helB (A : SA) : List Int := helB0 A ++ bindI (aY A 0) (msgI 1 (helB0 A ++ Z32))
theorem helB0_len {A : SA} (hy : AIy (aY A)) : (helB0 A).length = 29 + (aY A 5).length := by
  unfold helB0
  rw [List.length_append, List.length_append, List.length_append, List.length_append, nb_len, hy.2.2.2.2.1.1, hy.2.1.1]
  show 16 + (1 + _) = _
  omega
theorem bind_j (key b j j' : List Int) (hj : j.length = 32) (hj' : j'.length = 32) : bindI key (msgI 1 (b ++ j)) = bindI key (msgI 1 (b ++ j')) := by
  unfold bindI
  have e : ∀ u : List Int, u.length = 32 → (msgI 1 (b ++ u)).take ((msgI 1 (b ++ u)).length - 32) = 1 :: (((b.length + 32 : Nat) : Int) / 256) :: (((b.length + 32 : Nat) : Int) % 256) :: b := by
    intro u hu
    rw [msgI_len, List.length_append, hu, show 3 + (b.length + 32) - 32 = b.length + 1 + 1 + 1 by omega]
    unfold msgI
    rw [List.take_succ_cons, List.take_succ_cons, List.take_succ_cons, List.length_append, hu, List.take_left]
  rw [e j hj, e j' hj']
theorem helB_len {A : SA} (hy : AIy (aY A)) : (helB A).length = 61 + (aY A 5).length := by
  unfold helB bindI
  rw [List.length_append, helB0_len hy, mcI_len]
  omega
theorem helB_oct {A : SA} (hy : AIy (aY A)) : oct (helB A) := by
  unfold helB bindI helB0
  have h16 := hy.2.2.2.2.2.1.1
  refine oct_app.mpr ⟨oct_app.mpr ⟨hy.2.2.2.2.1.2, oct_app.mpr ⟨?_, oct_app.mpr ⟨hy.2.2.2.2.2.1.2, oct_app.mpr ⟨nb_oct _ _, hy.2.1.2⟩⟩⟩⟩, mcI_oct _ _⟩
  simp only [oct_cons]
  exact ⟨by omega, oct_nil⟩
def uT (a b c d : List Int) (A : SA) : SA := uy 6 a (uy 7 b (uy 8 c (uy 9 d A)))
def helF (n : Int) (b : List Int) : FLT := (1, fun _ => 1, fun _ => n, fun _ => b, fun _ => 0)
/-- the HELLO with number n is sent -/
def helloA (n : Int) (A : SA) : SA := flyA 0 (newA (helF n (helB A)) (uz 12 n (uT (msgI 1 (helB A)) [] [] [] A)))
