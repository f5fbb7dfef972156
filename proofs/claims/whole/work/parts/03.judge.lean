def xF8 : List Int32 := [1779033703, (-1150833019), 1013904242, (-1521486534), 1359893119, (-1694144372), 528734635, 1541459225]
def xK64 : List Int32 := [1116352408, 1899447441, (-1245643825), (-373957723), 961987163, 1508970993, (-1841331548), (-1424204075), (-670586216), 310598401, 607225278, 1426881987, 1925078388, (-2132889090), (-1680079193), (-1046744716), (-459576895), (-272742522), 264347078, 604807628, 770255983, 1249150122, 1555081692, 1996064986, (-1740746414), (-1473132947), (-1341970488), (-1084653625), (-958395405), (-710438585), 113926993, 338241895, 666307205, 773529912, 1294757372, 1396182291, 1695183700, 1986661051, (-2117940946), (-1838011259), (-1564481375), (-1474664885), (-1035236496), (-949202525), (-778901479), (-694614492), (-200395387), 275423344, 430227734, 506948616, 659060556, 883997877, 958139571, 1322822218, 1537002063, 1747873779, 1955562222, 2024104815, (-2067236844), (-1933114872), (-1866530822), (-1538233109), (-1090935817), (-965641998)]
/-- the String constants: class, entry, text -/
def xSs : List (String × Nat × String) := [("LossyPair", 46, "wants is 0 to 7"), ("LossyPair", 51, "mtu is 100 to 500"), ("LossyPair", 254, "a side is 0 or 1"), ("LossyPair", 260, "the client has begun, or is DEAD"), ("LossyPair", 79, "n is 1 to 8"), ("LossyPair", 85, "THE DRAFT has at most 500 octets"), ("LossyPair", 87, "a GREETING has at most 150 octets"), ("LossyPair$Schedule", 96, "binder"), ("LossyPair", 263, "the side is not OPEN"), ("LossyPair", 125, "a writing has 1 to 60 octets"), ("LossyPair", 256, "no such datagram"), ("LossyPair", 192, "no such octet"), ("LossyPair$Schedule", 105, "derived"), ("LossyPair$Schedule", 110, "chs"), ("LossyPair$Schedule", 115, "shs"), ("LossyPair$Schedule", 117, "key"), ("LossyPair$Schedule", 119, "sn"), ("LossyPair$Schedule", 125, "finished"), ("LossyPair$Schedule", 121, "cap"), ("LossyPair$Schedule", 123, "sap"), ("LossyPair", 178, "times is 0 to 100"), ("LossyPair", 189, "no such writing"), ("LossyPair", 194, "no such octet of a SECRET"), ("LossyPair", 209, "nothing such is told")]
def xSl : List Nat := [15, 17, 16, 32, 11, 32, 33, 6, 20, 28, 16, 13, 7, 3, 3, 3, 2, 8, 3, 3, 17, 15, 25, 20]
def xSb : List (List Int32) := [[119, 97, 110, 116, 115, 32, 105, 115, 32, 48, 32, 116, 111, 32, 55], [109, 116, 117, 32, 105, 115, 32, 49, 48, 48, 32, 116, 111, 32, 53, 48, 48], [97, 32, 115, 105, 100, 101, 32, 105, 115, 32, 48, 32, 111, 114, 32, 49], [116, 104, 101, 32, 99, 108, 105, 101, 110, 116, 32, 104, 97, 115, 32, 98, 101, 103, 117, 110, 44, 32, 111, 114, 32, 105, 115, 32, 68, 69, 65, 68], [110, 32, 105, 115, 32, 49, 32, 116, 111, 32, 56], [84, 72, 69, 32, 68, 82, 65, 70, 84, 32, 104, 97, 115, 32, 97, 116, 32, 109, 111, 115, 116, 32, 53, 48, 48, 32, 111, 99, 116, 101, 116, 115], [97, 32, 71, 82, 69, 69, 84, 73, 78, 71, 32, 104, 97, 115, 32, 97, 116, 32, 109, 111, 115, 116, 32, 49, 53, 48, 32, 111, 99, 116, 101, 116, 115], [98, 105, 110, 100, 101, 114], [116, 104, 101, 32, 115, 105, 100, 101, 32, 105, 115, 32, 110, 111, 116, 32, 79, 80, 69, 78], [97, 32, 119, 114, 105, 116, 105, 110, 103, 32, 104, 97, 115, 32, 49, 32, 116, 111, 32, 54, 48, 32, 111, 99, 116, 101, 116, 115], [110, 111, 32, 115, 117, 99, 104, 32, 100, 97, 116, 97, 103, 114, 97, 109], [110, 111, 32, 115, 117, 99, 104, 32, 111, 99, 116, 101, 116], [100, 101, 114, 105, 118, 101, 100], [99, 104, 115], [115, 104, 115], [107, 101, 121], [115, 110], [102, 105, 110, 105, 115, 104, 101, 100], [99, 97, 112], [115, 97, 112], [116, 105, 109, 101, 115, 32, 105, 115, 32, 48, 32, 116, 111, 32, 49, 48, 48], [110, 111, 32, 115, 117, 99, 104, 32, 119, 114, 105, 116, 105, 110, 103], [110, 111, 32, 115, 117, 99, 104, 32, 111, 99, 116, 101, 116, 32, 111, 102, 32, 97, 32, 83, 69, 67, 82, 69, 84], [110, 111, 116, 104, 105, 110, 103, 32, 115, 117, 99, 104, 32, 105, 115, 32, 116, 111, 108, 100]]
/-- words of the tables that a call does not carry by itself -/
def xnw : List Cond := [
  (Jvm.Cond.methodLinkNest "LossyPair" (23 : Nat) ({ cls := "LossyPair$Arrival", name := "<init>", desc := "()V" } : Jvm.MethodName) "LossyPair"),
  (Jvm.Cond.methodLinkNest "LossyPair" (34 : Nat) ({ cls := "LossyPair$Sha", name := "<init>", desc := "()V" } : Jvm.MethodName) "LossyPair"),
  (Jvm.Cond.methodLinkNest "LossyPair$Side" (11 : Nat) ({ cls := "LossyPair$Traits", name := "<init>", desc := "()V" } : Jvm.MethodName) "LossyPair"),
  (Jvm.Cond.methodLinkNest "LossyPair$Side" (20 : Nat) ({ cls := "LossyPair$Flight", name := "<init>", desc := "()V" } : Jvm.MethodName) "LossyPair"),
  (Jvm.Cond.methodLinkNest "LossyPair$Side" (27 : Nat) ({ cls := "LossyPair$Kept", name := "<init>", desc := "()V" } : Jvm.MethodName) "LossyPair"),
  (Jvm.Cond.methodLinkNest "LossyPair$Side" (34 : Nat) ({ cls := "LossyPair$AckList", name := "<init>", desc := "()V" } : Jvm.MethodName) "LossyPair"),
  (Jvm.Cond.methodLinkNest "LossyPair$Side" (86 : Nat) ({ cls := "LossyPair$Window", name := "<init>", desc := "()V" } : Jvm.MethodName) "LossyPair"),
  (Jvm.Cond.methodLinkNest "LossyPair$Traits" (41 : Nat) ({ cls := "LossyPair", name := "putLong", desc := "(J[II)V" } : Jvm.MethodName) "LossyPair"),
  (Jvm.Cond.fieldLinkNest "LossyPair$Sha" (66 : Nat) "LossyPair" "FIRST_WORDS" "[I" "LossyPair"),
  (Jvm.Cond.fieldLinkNest "LossyPair$Sha" (69 : Nat) "LossyPair" "ROUND_WORDS" "[I" "LossyPair"),
  (Jvm.Cond.methodLinkNest "LossyPair$Side" (293 : Nat) ({ cls := "LossyPair", name := "epochOfKind", desc := "(I)I" } : Jvm.MethodName) "LossyPair"),
  (Jvm.Cond.castable "java/lang/IllegalArgumentException" "java/lang/IllegalArgumentException"),
  (Jvm.Cond.declares ({ cls := "java/lang/RuntimeException", name := "<init>", desc := "()V" } : Jvm.MethodName)),
  (Jvm.Cond.declares ({ cls := "java/lang/RuntimeException", name := "<init>", desc := "(Ljava/lang/String;)V" } : Jvm.MethodName)),
  (Jvm.Cond.declares ({ cls := "java/lang/Exception", name := "<init>", desc := "()V" } : Jvm.MethodName)),
  (Jvm.Cond.declares ({ cls := "java/lang/Exception", name := "<init>", desc := "(Ljava/lang/String;)V" } : Jvm.MethodName)),
  (Jvm.Cond.declares ({ cls := "java/lang/Throwable", name := "<init>", desc := "()V" } : Jvm.MethodName)),
  (Jvm.Cond.declares ({ cls := "java/lang/Throwable", name := "<init>", desc := "(Ljava/lang/String;)V" } : Jvm.MethodName)),
  (Jvm.Cond.castable "java/lang/IndexOutOfBoundsException" "java/lang/IndexOutOfBoundsException"),
  (Jvm.Cond.castable "java/lang/IllegalStateException" "java/lang/IllegalStateException"),
  (Jvm.Cond.methodLinkNest "LossyPair$Traits" (90 : Nat) ({ cls := "LossyPair", name := "wordAt", desc := "([II)J" } : Jvm.MethodName) "LossyPair"),
  (Jvm.Cond.methodLinkNest "LossyPair$Traits" (98 : Nat) ({ cls := "LossyPair", name := "power", desc := "(JJ)J" } : Jvm.MethodName) "LossyPair"),
  (Jvm.Cond.methodLinkNest "LossyPair$Side" (412 : Nat) ({ cls := "LossyPair", name := "putWord", desc := "(I[II)V" } : Jvm.MethodName) "LossyPair"),
  (Jvm.Cond.methodLinkNest "LossyPair$Side" (220 : Nat) ({ cls := "LossyPair", name := "sameOctets", desc := "([II[III)Z" } : Jvm.MethodName) "LossyPair"),
  (Jvm.Cond.methodLinkNest "LossyPair$Side" (384 : Nat) ({ cls := "LossyPair", name := "wordAt", desc := "([II)J" } : Jvm.MethodName) "LossyPair"),
  (Jvm.Cond.methodLinkNest "LossyPair$Side" (405 : Nat) ({ cls := "LossyPair", name := "power", desc := "(JJ)J" } : Jvm.MethodName) "LossyPair")]
/-- such a word stays as the machine warms up -/
def xnk (w : Cond) : Prop := ∀ (s U : State), s.WarmedH U.vm → va_Nw w s → va_Nw w U
theorem xnk_F {a : String} {i : Nat} {b n d h : String} : xnk (.fieldLinkNest a i b n d h) := fun _ _ hW hZ => va_Nw.warmF hW hZ
theorem xnk_M {a : String} {i : Nat} {x : MethodName} {h : String} : xnk (.methodLinkNest a i x h) := fun _ _ hW hZ => va_Nw.warmM hW hZ
theorem xnk_C {a b : String} : xnk (.castable a b) := fun _ _ hW hZ => va_Nw.warmC hW hZ
theorem xnk_D {x : MethodName} : xnk (.declares x) := fun _ _ hW hZ => va_Nw.warmD hW hZ
def xao : List FieldType := [.object "LossyPair$Rows", .object "LossyPair$Side", .object "LossyPair$Window", .array .int]
theorem xao_w {ty : FieldType} {s U : State} (hW : s.vm.Alike U.vm) (h : (Cond.arrayOver ty).before #[] s = true) : (Cond.arrayOver ty).before #[] U = true := by
  have h1 := Cond.arrayOver_setVmC (args := #[]) (vm' := U.vm) hW ty
  rw [h] at h1
  exact h1
theorem xnw_k : ∀ w ∈ xnw, xnk w := by
  unfold xnw
  repeat' (refine List.forall_mem_cons.mpr ⟨by first | exact xnk_F | exact xnk_M | exact xnk_C | exact xnk_D, ?_⟩)
  exact fun _ h => absurd h List.not_mem_nil
theorem xnw_t : ∀ w ∈ xnw, w.onTables = true := by
  unfold xnw
  repeat' (refine List.forall_mem_cons.mpr ⟨rfl, ?_⟩)
  exact fun _ h => absurd h List.not_mem_nil
/-- exceptions of which none is another -/
def xnc : List (String × String) := [("java/lang/IllegalArgumentException", "java/lang/IllegalStateException"), ("java/lang/IllegalArgumentException", "java/lang/IndexOutOfBoundsException"), ("java/lang/IllegalStateException", "java/lang/IllegalArgumentException"), ("java/lang/IllegalStateException", "java/lang/IndexOutOfBoundsException"), ("java/lang/IndexOutOfBoundsException", "java/lang/IllegalArgumentException"), ("java/lang/IndexOutOfBoundsException", "java/lang/IllegalStateException")]
/-- the law's script -/
def xsc (G : xG) (j : Nat) : Int32 := Int32.ofNat (xts G (1000 + j))
/-- what was there before the law began, and stays: the tables of the hash, the texts, two references of Throwable's -/
def xSt (G : xG) (U : State) (H : Heap) : Prop :=
  xb G ≤ H.size ∧
  (va_Z "LossyPair" "FIRST_WORDS" "[I" (.ref (xts G 0)) (xA G) U H ∧ va_T .int (xts G 0) 8 (fun j => .int (xF8.getD j 0)) (xA G) U H) ∧
  (va_Z "LossyPair" "ROUND_WORDS" "[I" (.ref (xts G 1)) (xA G) U H ∧ va_T .int (xts G 1) 64 (fun j => .int (xK64.getD j 0)) (xA G) U H) ∧
  (vx_Zq Bundle.tN "UNASSIGNED_STACK" Bundle.steD (xA G) U H ∧ vx_Zq Bundle.tN "SUPPRESSED_SENTINEL" Bundle.listD (xA G) U H) ∧
  ((va_Z "java/lang/String" "COMPACT_STRINGS" "Z" (.int 1) (xA G) U H ∧ (va_Z "jdk/internal/util/Preconditions" "SIOOBE_FORMATTER" "Ljava/util/function/BiFunction;" .null (xA G) U H ∨ va_Z "jdk/internal/util/Preconditions" "SIOOBE_FORMATTER" "Ljava/util/function/BiFunction;" (.ref (xts G 70)) (xA G) U H) ∧ (xts G 90 < xb G ∧ va_X (xts G 90) (xts G 91) (xsc G) U H) ∧ ∀ q ∈ xnc, va_Nc q.1 q.2 U) ∧ vk_S 24 xSl xSb (fun i => xts G (2 + i)) (fun i => xts G (100 + i)) (xA G) U H ∧
    ∀ i : Nat, i < 24 → vk_R (xSs.getD i ("", 0, "")).1 (xSs.getD i ("", 0, "")).2.1 (xSs.getD i ("", 0, "")).2.2 (xts G (2 + i)) U) ∧
  (∀ w ∈ xnw, va_Nw w U) ∧ ∀ ty ∈ xao, (Cond.arrayOver ty).before #[] U = true
theorem xSt.goes {G : xG} {s U : State} {H H1 : Heap} (h : xSt G s H) (hW : s.WarmedH U.vm) (hz : H.size ≤ H1.size) (hq : ∀ a : Nat, a < H.size → ¬ xA G a → H1[a]? = H[a]?) : xSt G U H1 := by
  obtain ⟨h0, ⟨h1, h2⟩, ⟨h3, h4⟩, ⟨h5, h6⟩, ⟨h7, h8, h9⟩, hn, ho⟩ := h
  have ha := hW.alike
  exact ⟨Nat.le_trans h0 hz, ⟨(h1.moved ha).kept hq, (h2.moved ha).kept hq⟩, ⟨(h3.moved ha).kept hq, (h4.moved ha).kept hq⟩, ⟨(h5.moved ha).kept hq, (h6.moved ha).kept hq⟩, ⟨⟨(h7.1.moved ha).kept hq, h7.2.1.imp (fun z => (z.moved ha).kept hq) (fun z => (z.moved ha).kept hq), ⟨h7.2.2.1.1, (h7.2.2.1.2.moved ha).kept (hq _ (Nat.lt_of_lt_of_le h7.2.2.1.1 h0) (fun z => absurd h7.2.2.1.1 (Nat.not_lt.mpr z)))⟩, fun q hz => (h7.2.2.2 q hz).moved ha⟩, (h8.moved ha).kept hq, fun i hi => (h9 i hi).warm hW⟩, fun w hw => xnw_k w hw s U hW (hn w hw), fun ty h => xao_w ha (ho ty h)⟩
theorem xSt.same {G : xG} {s U : State} {H : Heap} (h : xSt G s H) (hv : U.vm = s.vm) : xSt G U H := by
  obtain ⟨h0, ⟨h1, h2⟩, ⟨h3, h4⟩, ⟨h5, h6⟩, ⟨h7, h8, h9⟩, hn, ho⟩ := h
  have ha : s.vm.Alike U.vm := by rw [hv]; exact Vm.Alike.refl _
  exact ⟨h0, ⟨h1.moved ha, h2.moved ha⟩, ⟨h3.moved ha, h4.moved ha⟩, ⟨h5.moved ha, h6.moved ha⟩, ⟨⟨h7.1.moved ha, h7.2.1.imp (fun z => z.moved ha) (fun z => z.moved ha), ⟨h7.2.2.1.1, h7.2.2.1.2.moved ha⟩, fun q hz => (h7.2.2.2 q hz).moved ha⟩, h8.moved ha, fun i hi => (h9 i hi).same hv⟩, fun w hw => va_Nw.same (xnw_t w hw) hv.symm (hn w hw), fun ty h => xao_w ha (ho ty h)⟩
/-- a method: name, code, its locals, what it answers; the frames and words that its calls need -/
abbrev xMe : Type := MethodName × ByteArray × Nat × Option FieldType × Nat × Nat
abbrev xM : Type := Nat × (Nat → Nat → Option Nat) × (Nat → Nat → Int32) × (Nat → Nat → Int64)
def xws : List Cond := lw_tbl.filter goodWord
theorem xmem {i : Nat} {w : Cond} (h : lw_tbl[i]? = some w) (hg : goodWord w = true) : w ∈ xws := List.mem_filter.mpr ⟨List.mem_of_getElem? h, hg⟩
abbrev xwm (me : xMe) : List Cond := Cond.code me.1 me.2.1 me.2.2.1 me.2.2.2.1 :: xws
abbrev xrm (me : xMe) (mc ms : Nat) : Room := { frames := me.2.2.2.2.1, cells := mc, slots := ms, locals := me.2.2.2.2.2 }
/-- the heap holds the memory -/
def xH (G : xG) (n : Nat) (R : Nat → Nat → Option Nat) (I : Nat → Nat → Int32) (L : Nat → Nat → Int64) (H : Heap) : Prop := va_P (xD G) vwCl (xp G n R I L) H ∧ n ≤ 1000000
abbrev xHm (G : xG) (M : xM) (H : Heap) : Prop := xH G M.1 M.2.1 M.2.2.1 M.2.2.2 H
/-- al: while the objects are made, nothing but the memory lies above b -/
def xPc (G : xG) (As : List Value) (al : Bool) (M : xM) : Array Value → State → Prop := fun a U => a = (As.map (xtr G)).toArray ∧ xHm G M U.heap ∧ (al = true → U.heap.size = xb G + M.1) ∧ va_K (xD G) vwCl (xtys G) U ∧ xSt G U U.heap
def xQc (G : xG) (al : Bool) (mc : Nat) (Qv : Option Value → xM → Prop) : Array Value → State → Outcome → State → Prop := fun _ st o t => (∃ (v : Option Value) (M : xM), o = .returned (v.map (xtr G)) ∧ Qv v M ∧ xHm G M t.heap ∧ (al = true → st.heap.size + mc = xb G + M.1)) ∧ va_F (xA G) st t
def xXc (G : xG) (Qx : String → xM → Prop) : String → State → State → Prop := fun E st t => (∃ M : xM, Qx E M ∧ xHm G M t.heap) ∧ va_F (xA G) st t
/-- THE CONTRACT: called with As over the memory M, the method returns v with Qv, or throws E with Qx; it makes at most mc cells of ms slots (while al: just mc) -/
def xCn (G : xG) (l : Launch) (me : xMe) (As : List Value) (al : Bool) (M : xM) (mc ms : Nat) (Qv : Option Value → xM → Prop) (Qx : String → xM → Prop) : Prop :=
  vx_Met l me.1 (xwm me) (xrm me mc ms) (xPc G As al M) (xQc G al mc Qv) (xXc G Qx) mc ms (xA G)
/-- what holds in the whole of a method's body -/
def xCx (G : xG) (me : xMe) (p : Program) (s : State) (m : MethodId) (args : Array Value) (meth : Method) (c : Code) : Prop :=
  p.tables.exec = Jvm.exec ∧ c.code = me.2.1 ∧ c.maxLocals = me.2.2.1 ∧ meth.sig.returnType = me.2.2.2.1 ∧ meth.locks = false ∧ (∀ x ∈ c.exceptionTable.toList, False) ∧ s.vm.findClass me.1.cls = some m.cls ∧ (∀ w ∈ xws, w.before args s = true) ∧ va_K (xD G) vwCl (xtys G) s ∧ xSt G s s.heap ∧ meth.name = me.1.name
def xtl (G : xG) (ls : List (Nat × Value)) : List (Nat × Value) := ls.map (fun q => (q.1, xtr G q.2))
/-- THE JUDGEMENT: at pc, with these locals, this operand stack and this memory, the method comes to its end as its contract says -/
def xJ (G : xG) (l : Launch) (me : xMe) (mc ms : Nat) (Qv : Option Value → xM → Prop) (Qx : String → xM → Prop) (cells slots pc : Nat) (ls : List (Nat × Value)) (st : List Value) (al : Bool) (n : Nat) (R : Nat → Nat → Option Nat) (I : Nat → Nat → Int32) (L : Nat → Nat → Int64) : Prop :=
  ∀ (p : Program) (e : Env) (s : State) (m : MethodId) (args : Array Value) (below : List Frame) (meth : Method) (c : Code) (H : Heap) (locs : List Loc) (lsA : Array Slot),
    xCx G me p s m args meth c → (xH G n R I L H ∧ (al = true → s.heap.size + cells = xb G + n)) → va_S (xA G) s.heap H locs → lv_has lsA me.2.2.1 (xtl G ls) →
    W p l e (xrm me mc ms) s m args below meth c H locs cells slots (vx_MQ below (xQc G al mc Qv) (xXc G Qx) args s mc ms (xA G)) (F0 m pc lsA (st.map (xtr G)))
theorem xtr_cat (G : xG) (v : Value) : (xtr G v).category = v.category := by cases v <;> rfl
theorem xtl_args (G : xG) : ∀ (As : List Value) (k : Nat), lv_args k (As.map (xtr G)) = xtl G (lv_args k As) := by
  intro As
  induction As with
  | nil => intro k; rfl
  | cons a As ih =>
    intro k
    simp only [List.map_cons, lv_args, xtl, xtr_cat]
    rw [ih]
    rfl
theorem xtl_sl (G : xG) (As : List Value) : (lg_sl (As.map (xtr G))).length = (lg_sl As).length := by
  induction As with
  | nil => rfl
  | cons a As ih =>
    cases a <;> simp_all [lg_sl, xtr, List.flatMap, Value.category]
theorem xCn.ofJ {G : xG} {l : Launch} {me : xMe} {As : List Value} {mc ms : Nat} {Qv : Option Value → xM → Prop} {Qx : String → xM → Prop} {al : Bool} {n : Nat} {R : Nat → Nat → Option Nat} {I : Nat → Nat → Int32} {L : Nat → Nat → Int64} (hy : plainName me.1.cls = true) (hlen : (lg_sl As).length ≤ me.2.2.1)
    (h : xJ G l me mc ms Qv Qx 0 0 0 (lv_args 0 As) [] al n R I L) : xCn G l me As al (n, R, I, L) mc ms Qv Qx := by
  refine vx_ofW (cc := me.2.1) (maxL := me.2.2.1) (ret := me.2.2.2.1) hy rfl ?_
  intro p e s m args below meth c s₁ B hml ht hv
  obtain ⟨rfl, hH, hal, hK, hSt⟩ := hv
  have hl := lv_entry (As.map (xtr G)) (n := me.2.2.1) (by rw [xtl_sl]; exact hlen)
  rw [lg_entry_eq]
  rw [xtl_args] at hl
  exact h p e s m _ below meth c s.heap [] _ ⟨B.exec, B.bytes, hml, B.returns, B.notSynchronized, ht, findClass_of_methodNamed B.named, fun w hw => atoms_spec (ws := xwm me) B.pre w (List.mem_cons_of_mem _ hw), hK, hSt, (name_of_methodNamed B.named B.method).1⟩ ⟨hH, hal⟩ va_S.rf hl
theorem xtl_at {G : xG} {ls : List (Nat × Value)} {j i : Nat} {v : Value} (h : ls[j]? = some (i, v)) : (xtl G ls)[j]? = some (i, xtr G v) := by
  simp [xtl, h]
/-- insert by place -/
def xin (i : Nat) (v : Value) : List (Nat × Value) → List (Nat × Value)
  | [] => [(i, v)]
  | q :: l => if i < q.1 then (i, v) :: q :: l else q :: xin i v l
theorem xin_mem {i : Nat} {v : Value} {q : Nat × Value} : ∀ {l : List (Nat × Value)}, q ∈ xin i v l → q = (i, v) ∨ q ∈ l := by
  intro l
  induction l with
  | nil => intro h; simp [xin] at h; exact Or.inl h
  | cons a l ih =>
    intro h
    unfold xin at h
    split at h
    · rcases List.mem_cons.mp h with h | h
      · exact Or.inl h
      · exact Or.inr h
    · rcases List.mem_cons.mp h with h | h
      · exact Or.inr (List.mem_cons.mpr (Or.inl h))
      · rcases ih h with h | h
        · exact Or.inl h
        · exact Or.inr (List.mem_cons_of_mem _ h)
def xs1 (i : Nat) (v : Value) (ls : List (Nat × Value)) : List (Nat × Value) := xin i v (ls.filter (fun q => !(q.1 == i) && !(q.1 + 1 == i && q.2.category == 2)))
def xs2 (i : Nat) (v : Value) (ls : List (Nat × Value)) : List (Nat × Value) := xin i v (ls.filter (fun q => !(q.1 == i) && (!(q.1 == i + 1) && !(q.1 + 1 == i && q.2.category == 2))))
theorem xs1_has {G : xG} {A : Array Slot} {nL i : Nat} {v : Value} {ls : List (Nat × Value)} (h : lv_has A nL ((i, xtr G v) :: (xtl G ls).filter (fun q => !(q.1 == i) && !(q.1 + 1 == i && q.2.category == 2)))) : lv_has A nL (xtl G (xs1 i v ls)) := by
  refine ⟨h.1, h.2.1, fun q hq => h.2.2 q ?_⟩
  obtain ⟨q0, h0, rfl⟩ := List.mem_map.mp hq
  rcases xin_mem h0 with rfl | h1
  · exact List.mem_cons_self
  · obtain ⟨h2, h3⟩ := List.mem_filter.mp h1
    refine List.mem_cons_of_mem _ (List.mem_filter.mpr ⟨List.mem_map.mpr ⟨q0, h2, rfl⟩, ?_⟩)
    simpa [xtr_cat] using h3
theorem xs2_has {G : xG} {A : Array Slot} {nL i : Nat} {v : Value} {ls : List (Nat × Value)} (h : lv_has A nL ((i, xtr G v) :: (xtl G ls).filter (fun q => !(q.1 == i) && (!(q.1 == i + 1) && !(q.1 + 1 == i && q.2.category == 2))))) : lv_has A nL (xtl G (xs2 i v ls)) := by
  refine ⟨h.1, h.2.1, fun q hq => h.2.2 q ?_⟩
  obtain ⟨q0, h0, rfl⟩ := List.mem_map.mp hq
  rcases xin_mem h0 with rfl | h1
  · exact List.mem_cons_self
  · obtain ⟨h2, h3⟩ := List.mem_filter.mp h1
    refine List.mem_cons_of_mem _ (List.mem_filter.mpr ⟨List.mem_map.mpr ⟨q0, h2, rfl⟩, ?_⟩)
    simpa [xtr_cat] using h3
/-- fewer locals -/
theorem xJ.sub {G : xG} {l : Launch} {me : xMe} {mc ms : Nat} {Qv : Option Value → xM → Prop} {Qx : String → xM → Prop} {cells slots pc : Nat} {ls : List (Nat × Value)} {st : List Value} {al : Bool} {n : Nat} {R : Nat → Nat → Option Nat} {I : Nat → Nat → Int32} {L : Nat → Nat → Int64} (ls' : List (Nat × Value)) (hs : ∀ q ∈ ls', q ∈ ls) (h : xJ G l me mc ms Qv Qx cells slots pc ls' st al n R I L) : xJ G l me mc ms Qv Qx cells slots pc ls st al n R I L := by
  intro p e s m args below meth c H locs lsA C hH hS hl
  refine h p e s m args below meth c H locs lsA C hH hS ⟨hl.1, hl.2.1, fun q hq => hl.2.2 q ?_⟩
  obtain ⟨q0, h0, rfl⟩ := List.mem_map.mp hq
  exact List.mem_map.mpr ⟨q0, hs q0 h0, rfl⟩

