/-! THE ENGINE: a frame's walk over the cells of a world, told by their places -/
/-- the String constants: the class's three, the law's two; their places in the pools, their texts, lengths and bytes -/
def txS : List String := ["channel 5 10 3;ship ann 20 3 4;ship bob 12 0 9;ship cid 30 5 2;ship dot 15 2 7;", "channel", "ship", "channel ", "ship s"]
def ixX : List Nat := [72, 391, 407]
def ixL : List Nat := [36, 52]
def bySn : List (List Nat) := [[99, 104, 97, 110, 110, 101, 108, 32, 53, 32, 49, 48, 32, 51, 59, 115, 104, 105, 112, 32, 97, 110, 110, 32, 50, 48, 32, 51, 32, 52, 59, 115, 104, 105, 112, 32, 98, 111, 98, 32, 49, 50, 32, 48, 32, 57, 59, 115, 104, 105, 112, 32, 99, 105, 100, 32, 51, 48, 32, 53, 32, 50, 59, 115, 104, 105, 112, 32, 100, 111, 116, 32, 49, 53, 32, 50, 32, 55, 59], [99, 104, 97, 110, 110, 101, 108], [115, 104, 105, 112], [99, 104, 97, 110, 110, 101, 108, 32], [115, 104, 105, 112, 32, 115]]
def byS : List (List Int32) := bySn.map (fun l => l.map nI)
def leS : List Nat := bySn.map List.length
/-- what stays as it is, outside: constants, statics, the script -/
def SF (G : GT) (U : State) (H : Heap) : Prop :=
  va_Z "java/lang/String" "COMPACT_STRINGS" "Z" (.int 1) (gR G) U H ∧ va_Zq "jdk/internal/util/Preconditions" "SIOOBE_FORMATTER" "Ljava/util/function/BiFunction;" (gR G) U H ∧
  (va_Z "java/lang/Integer" "DigitOnes" "[B" (.ref (gDo G)) (gR G) U H ∧ va_Z "java/lang/Integer" "DigitTens" "[B" (.ref (gDt G)) (gR G) U H ∧ va_T .byte (gDo G) 100 (fun j => .int (iI ((48 + j % 10 : Nat) : Int))) (gR G) U H ∧ va_T .byte (gDt G) 100 (fun j => .int (iI ((48 + j / 10 : Nat) : Int))) (gR G) U H) ∧
  vk_S 5 leS byS (gK G) (gV G) (gR G) U H ∧
  (∀ i : Nat, i < 3 → vk_R "ChannelSchedule" (ixX.getD i 0) (txS.getD i "") (gK G i) U) ∧ (∀ i : Nat, i < 2 → vk_R "ChannelScheduleLaw" (ixL.getD i 0) (txS.getD (3 + i) "") (gK G (3 + i)) U) ∧
  (va_X (gSa G) (gSl G) (gSx G) U H ∧ ¬ gR G (gSa G) ∧ gSl G ≤ 260) ∧ va_Nw (.methodLinkNest "ChannelScheduleLaw$Own" 87 ⟨"ChannelScheduleLaw", "conflict", "(LChannelSchedule;ZIIZII)Z"⟩ "ChannelScheduleLaw") U ∧ (va_AO R4 U ∧ va_AO R1 U) ∧ va_Nw (.castable "[B" "java/lang/Cloneable") U
theorem cast_moved {a b : String} {u U : State} (hvm : u.vm.Alike U.vm) (h : va_Nw (.castable a b) u) : va_Nw (.castable a b) U :=
  va_tabs rfl (rfl : (u.setVm U.vm).vm = U.vm) (by rw [Cond.castable_setVm hvm]; exact h)
theorem va_X.lt {b L : Nat} {xs : Nat → Int32} {U : State} {H : Heap} (h : va_X b L xs U H) : b < H.size := by
  obtain ⟨scr, h1, -⟩ := h
  exact (Array.getElem?_eq_some_iff.mp h1).1
theorem SF.kept {G : GT} {U : State} {H H1 : Heap} (h : SF G U H) (hq : ∀ a : Nat, a < H.size → ¬ gR G a → H1[a]? = H[a]?) : SF G U H1 :=
  ⟨h.1.kept hq, h.2.1.kept hq, ⟨h.2.2.1.1.kept hq, h.2.2.1.2.1.kept hq, h.2.2.1.2.2.1.kept hq, h.2.2.1.2.2.2.kept hq⟩, h.2.2.2.1.kept hq, h.2.2.2.2.1, h.2.2.2.2.2.1, ⟨h.2.2.2.2.2.2.1.1.kept (hq _ h.2.2.2.2.2.2.1.1.lt h.2.2.2.2.2.2.1.2.1), h.2.2.2.2.2.2.1.2⟩, h.2.2.2.2.2.2.2⟩
theorem SF.moved {G : GT} {u U : State} {H : Heap} (hw : u.WarmedH U.vm) (h : SF G u H) : SF G U H :=
  ⟨h.1.moved hw.alike, h.2.1.moved hw.alike, ⟨h.2.2.1.1.moved hw.alike, h.2.2.1.2.1.moved hw.alike, h.2.2.1.2.2.1.moved hw.alike, h.2.2.1.2.2.2.moved hw.alike⟩, h.2.2.2.1.moved hw.alike, fun i hi => (h.2.2.2.2.1 i hi).warm hw, fun i hi => (h.2.2.2.2.2.1 i hi).warm hw, ⟨h.2.2.2.2.2.2.1.1.moved hw.alike, h.2.2.2.2.2.2.1.2⟩, h.2.2.2.2.2.2.2.1.warmM hw, ⟨h.2.2.2.2.2.2.2.2.1.1.moved hw.alike, h.2.2.2.2.2.2.2.2.1.2.moved hw.alike⟩, cast_moved hw.alike h.2.2.2.2.2.2.2.2.2⟩
/-- a frame's fixed things -/
abbrev CT : Type := Program × Launch × Env × Room × State × MethodId × Array Value × List Frame × Method × Code × (State → Prop) × Nat
/-- the locals: of two with one number the first counts -/
def lh (ls : Array Slot) (nL : Nat) (lv : List (Nat × Value)) : Prop := ls.size = nL ∧ lv_wf ls ∧ ∀ (i : Nat) (v : Value), lv.lookup i = some v → ls[i]? = some (.val v) ∧ v.category = 1
theorem lh_st {ls : Array Slot} {nL : Nat} {lv : List (Nat × Value)} {i : Nat} {v : Value} (h : lh ls nL lv) (hi : i < nL) (hc : v.category = 1) : ∃ ls', storeLocals ls i v = some ls' ∧ lh ls' nL ((i, v) :: lv) := by
  obtain ⟨h1, h2, h3⟩ := h
  obtain ⟨ls', e', g⟩ := lv_store1 (l := []) (v := v) ⟨h1, h2, fun q hq => absurd hq List.not_mem_nil⟩ hi hc
  refine ⟨ls', e', g.1, g.2.1, fun j w hj => ?_⟩
  rw [List.lookup_cons] at hj
  by_cases hji : j = i
  · subst hji
    simp at hj
    subst hj
    exact ⟨g.2.2 _ List.mem_cons_self, hc⟩
  · have hb : (j == i) = false := by simp [hji]
    rw [hb] at hj
    obtain ⟨w1, w2⟩ := h3 j w hj
    obtain ⟨ls2, e2, g2⟩ := lv_store1 (l := [(j, w)]) (v := v) ⟨h1, h2, fun q hq => by rw [List.mem_singleton.mp hq]; exact w1⟩ hi hc
    have e3 : ls2 = ls' := Option.some.inj (e2.symm.trans e')
    subst e3
    refine ⟨g2.2.2 (j, w) ?_, w2⟩
    simp [hji, w2]
theorem lh_w {ls : Array Slot} {nL : Nat} {lv lw : List (Nat × Value)} (h : lh ls nL lv) (hw : ∀ q ∈ lw, lv.lookup q.1 = some q.2) : lh ls nL lw := by
  refine ⟨h.1, h.2.1, fun i v hi => ?_⟩
  have hm : (i, v) ∈ lw := by
    clear hw h
    induction lw with
    | nil => simp at hi
    | cons a l ih =>
      rw [List.lookup_cons] at hi
      by_cases e : i = a.1
      · subst e
        simp at hi
        subst hi
        exact List.mem_cons_self
      · have hb : (i == a.1) = false := by simp [e]
        rw [hb] at hi
        exact List.mem_cons_of_mem _ (ih hi)
  exact h.2.2 i v (hw _ hm)
def AtH (G : GT) (X : CT) (cells slots pc : Nat) (lv : List (Nat × Value)) (st : List Value) (N : Nat) (h : HT) : Prop :=
  match X with
  | (p, l, e, R, s, m, args, below, meth, c, Q, nL) => ∀ (H : Heap) (locs : List Loc) (ls : Array Slot), Wd G N h H → va_S (gR G) s.heap H locs → lh ls nL lv → W p l e R s m args below meth c H locs cells slots Q (F0 m pc ls st)
abbrev At (G : GT) (X : CT) (cells slots pc : Nat) (lv : List (Nat × Value)) (st : List Value) (V : VV) : Prop := AtH G X cells slots pc lv st (gN G) (hV G V)
def Cx (G : GT) (X : CT) (own : String) (cc : ByteArray) : Prop :=
  match X with
  | (p, l, e, R, s, m, args, below, meth, c, Q, nL) => p.tables.exec = Jvm.exec ∧ c.code = cc ∧ c.maxLocals = nL ∧ s.vm.findClass own = some m.cls ∧ (∀ w ∈ LW, w.before args s = true) ∧ va_K (gD G) cls7 (tysG G) s ∧ SF G s s.heap ∧ meth.locks = false ∧ l.stackTraces = false ∧ gB G ≤ s.heap.size
def rmD (d mc ms : Nat) : Room := { frames := d, cells := mc, slots := ms, locals := 40 * d }
def PH (G : GT) (av : List Value) (N : Nat) (h : HT) : Array Value → State → Prop := fun a U => a = av.toArray ∧ Wd G N h U.heap ∧ va_K (gD G) cls7 (tysG G) U ∧ SF G U U.heap
def QH (G : GT) (post : Option Value → Nat → HT → Prop) : Array Value → State → Outcome → State → Prop := fun _ st o t => ∃ (v : Option Value) (N' : Nat) (h' : HT), o = .returned v ∧ post v N' h' ∧ Wd G N' h' t.heap ∧ va_F (gR G) st t
def XH (G : GT) (postX : String → Nat → HT → Prop) : String → State → State → Prop := fun E st t => ∃ (N' : Nat) (h' : HT), postX E N' h' ∧ Wd G N' h' t.heap ∧ va_F (gR G) st t
def EvH (G : GT) (l : Launch) (y : MethodName) (cc : ByteArray) (nL : Nat) (ret : Option FieldType) (d mc ms : Nat) (av : List Value) (N : Nat) (h : HT) (post : Option Value → Nat → HT → Prop) (postX : String → Nat → HT → Prop) : Prop :=
  vx_Met l y (.code y cc nL ret :: LW) (rmD d mc ms) (PH G av N h) (QH G post) (XH G postX) mc ms (gR G)
def vP (G : GT) (post : Option Value → VV → Prop) : Option Value → Nat → HT → Prop := fun v N' h' => N' = gN G ∧ ∃ V', h' = hV G V' ∧ post v V'
def vX (G : GT) (postX : String → VV → Prop) : String → Nat → HT → Prop := fun E N' h' => N' = gN G ∧ ∃ V', h' = hV G V' ∧ postX E V'
abbrev Ev (G : GT) (l : Launch) (y : MethodName) (cc : ByteArray) (nL : Nat) (ret : Option FieldType) (d mc ms : Nat) (av : List Value) (V : VV) (post : Option Value → VV → Prop) (postX : String → VV → Prop) : Prop :=
  EvH G l y cc nL ret d mc ms av (gN G) (hV G V) (vP G post) (vX G postX)
def noX : String → VV → Prop := fun _ _ => False
def noH : String → Nat → HT → Prop := fun _ _ _ => False
/-- what the end of a body owes -/
def Mx (G : GT) (X : CT) (d mc ms : Nat) (ret : Option FieldType) (post : Option Value → Nat → HT → Prop) (postX : String → Nat → HT → Prop) : Prop :=
  match X with
  | (p, l, e, R, s, m, args, below, meth, c, Q, nL) => R = rmD d mc ms ∧ Q = vx_MQ below (QH G post) (XH G postX) args s mc ms (gR G) ∧ meth.sig.returnType = ret ∧ ∀ x ∈ c.exceptionTable.toList, False
abbrev xl (X : CT) : Launch := X.2.1
abbrev xR (X : CT) : Room := X.2.2.2.1
abbrev xN (X : CT) : Nat := X.2.2.2.2.2.2.2.2.2.2.2
/-- the words of a method that is called -/
def YV (y : MethodName) (cc : ByteArray) (nL : Nat) (ret : Option FieldType) (n : Nat) : Prop :=
  .instanceMethod y ∈ LW ∧ .selects y.cls y y ∈ LW ∧ .initialized y.cls ∈ LW ∧ .code y cc nL ret ∈ LW ∧ (y.cls ≠ "java/lang/invoke/MethodHandle" ∧ y.cls ≠ "java/lang/invoke/VarHandle") ∧ (parseMethodDescriptor y.desc).map (fun d => d.parameters.length) = some n
def YS (y : MethodName) (cc : ByteArray) (nL : Nat) (ret : Option FieldType) (n : Nat) : Prop :=
  .static y ∈ LW ∧ .initialized y.cls ∈ LW ∧ .code y cc nL ret ∈ LW ∧ (y.cls ≠ "java/lang/invoke/MethodHandle" ∧ y.cls ≠ "java/lang/invoke/VarHandle") ∧ (parseMethodDescriptor y.desc).map (fun d => d.parameters.length) = some n
def YI (y : MethodName) (cc : ByteArray) (nL : Nat) (n : Nat) : Prop :=
  .instanceMethod y ∈ LW ∧ .initialized y.cls ∈ LW ∧ .code y cc nL none ∈ LW ∧ (y.cls ≠ "java/lang/invoke/MethodHandle" ∧ y.cls ≠ "java/lang/invoke/VarHandle") ∧ (parseMethodDescriptor y.desc).map (fun d => d.parameters.length) = some n ∧ y.name = "<init>"
theorem LW_callB {R : Room} {s : State} {args : Array Value} {own : String} {index : Nat} {y : MethodName} {cc : ByteArray} {nL n d mc ms : Nat} {ret : Option FieldType} (hts : ∀ w ∈ LW, w.before args s = true) (hl : .methodLink own index y ∈ LW) (hi : .initialized y.cls ∈ LW) (hc : .code y cc nL ret ∈ LW) (hy : y.cls ≠ "java/lang/invoke/MethodHandle" ∧ y.cls ≠ "java/lang/invoke/VarHandle") (hn : (parseMethodDescriptor y.desc).map (fun d => d.parameters.length) = some n)
    (h1 : d + 1 ≤ R.frames) (h2 : 8 + (nL + 11) + 40 * d ≤ R.locals) : CallB R s args own index y cc nL ret (.code y cc nL ret :: LW) (rmD d mc ms) mc ms n := by
  refine ⟨rfl, rfl, h1, h2, ?_, List.mem_cons_self, hts _ hc, hts _ hi, hy, fun sig h => ?_, hts _ hl⟩
  · intro w hw a' U hW
    have hm : w ∈ LW := by
      rcases List.mem_cons.mp hw with e | e
      · rw [e]; exact hc
      · exact e
    exact word_at hW (LW_good hm) (hts w hm)
  · rw [h] at hn
    exact (Option.some.inj hn).symm
theorem PH_blind {G : GT} {av : List Value} {N : Nat} {h : HT} : FrameBlind (PH G av N h) := by
  intro a U g mk q
  obtain ⟨q0, q1, q2, q3⟩ := q
  exact ⟨q0, q1, va_K.moved (u := U) (U := U.calling g mk a) (Vm.Alike.refl U.vm) q2, SF.moved (u := U) (U := U.calling g mk a) (State.WarmedH.refl U) q3⟩
section
variable {G : GT} {X : CT} {cells slots pc N : Nat} {lv : List (Nat × Value)} {st : List Value} {h : HT} {own : String} {cc : ByteArray}
/-- fewer locals told -/
theorem AtH.w {lw : List (Nat × Value)} (hw : ∀ q ∈ lw, lv.lookup q.1 = some q.2) (k : AtH G X cells slots pc lw st N h) : AtH G X cells slots pc lv st N h := by
  obtain ⟨p, l, e, R, s, m, args, below, meth, c, Q, nL⟩ := X
  intro H locs ls hW hS hl
  exact k H locs ls hW hS (lh_w hl hw)
theorem AtH.e {h' : HT} (he : ∀ k, k < N → h k = h' k) (k : AtH G X cells slots pc lv st N h') : AtH G X cells slots pc lv st N h := by
  obtain ⟨p, l, e, R, s, m, args, below, meth, c, Q, nL⟩ := X
  intro H locs ls hW hS hl
  exact k H locs ls ⟨hW.1, hW.2.1, by rw [← wsO_ext he]; exact hW.2.2⟩ hS hl
theorem r_aload_n {i : Fin 4} {a : Nat} (C : Cx G X own cc) (d : decode cc pc = .ok (.aload_n i, 1)) (hl : lv.lookup (i : Nat) = some (.ref a)) (k : AtH G X cells slots (pc + 1) lv (.ref a :: st) N h) : AtH G X cells slots pc lv st N h := by
  obtain ⟨p, l, e, R, s, m, args, below, meth, c, Q, nL⟩ := X
  intro H locs ls hW hS hls
  exact lv_aload_n C.1 C.2.1 d rfl (hls.2.2 _ _ hl).1 (k H locs ls hW hS hls)
theorem r_aload {i a : Nat} (C : Cx G X own cc) (d : decode cc pc = .ok (.aload i, 2)) (hl : lv.lookup i = some (.ref a)) (k : AtH G X cells slots (pc + 2) lv (.ref a :: st) N h) : AtH G X cells slots pc lv st N h := by
  obtain ⟨p, l, e, R, s, m, args, below, meth, c, Q, nL⟩ := X
  intro H locs ls hW hS hls
  exact lv_aload C.1 C.2.1 d (hls.2.2 _ _ hl).1 (k H locs ls hW hS hls)
theorem r_iload_n {i : Fin 4} {z : Int} (C : Cx G X own cc) (d : decode cc pc = .ok (.iload_n i, 1)) (hl : lv.lookup (i : Nat) = some (vI z)) (k : AtH G X cells slots (pc + 1) lv (vI z :: st) N h) : AtH G X cells slots pc lv st N h := by
  obtain ⟨p, l, e, R, s, m, args, below, meth, c, Q, nL⟩ := X
  intro H locs ls hW hS hls
  exact lv_iload_n C.1 C.2.1 d rfl (hls.2.2 _ _ hl).1 (k H locs ls hW hS hls)
theorem r_iload {i : Nat} {z : Int} (C : Cx G X own cc) (d : decode cc pc = .ok (.iload i, 2)) (hl : lv.lookup i = some (vI z)) (k : AtH G X cells slots (pc + 2) lv (vI z :: st) N h) : AtH G X cells slots pc lv st N h := by
  obtain ⟨p, l, e, R, s, m, args, below, meth, c, Q, nL⟩ := X
  intro H locs ls hW hS hls
  exact lv_iload C.1 C.2.1 d (hls.2.2 _ _ hl).1 (k H locs ls hW hS hls)
theorem r_istore_n {i : Fin 4} {z : Int} (C : Cx G X own cc) (d : decode cc pc = .ok (.istore_n i, 1)) (hn : (i : Nat) < xN X) (k : AtH G X cells slots (pc + 1) (((i : Nat), vI z) :: lv) st N h) : AtH G X cells slots pc lv (vI z :: st) N h := by
  obtain ⟨p, l, e, R, s, m, args, below, meth, c, Q, nL⟩ := X
  intro H locs ls hW hS hls
  obtain ⟨hexec, hb, -⟩ := C
  obtain ⟨ls', e', g⟩ := lh_st (v := vI z) hls hn rfl
  intro T hT X0
  obtain ⟨t, a1, b1⟩ := k H locs ls' hW hS g T hT X0
  refine ⟨t, ?_, b1⟩
  jvm_step X0.here [X0.here.top, ↓top_set X0.here.top, hexec, hb, d, e']
  exact a1
theorem r_istore {i : Nat} {z : Int} (C : Cx G X own cc) (d : decode cc pc = .ok (.istore i, 2)) (hn : i < xN X) (k : AtH G X cells slots (pc + 2) ((i, vI z) :: lv) st N h) : AtH G X cells slots pc lv (vI z :: st) N h := by
  obtain ⟨p, l, e, R, s, m, args, below, meth, c, Q, nL⟩ := X
  intro H locs ls hW hS hls
  obtain ⟨hexec, hb, -⟩ := C
  obtain ⟨ls', e', g⟩ := lh_st (v := vI z) hls hn rfl
  intro T hT X0
  obtain ⟨t, a1, b1⟩ := k H locs ls' hW hS g T hT X0
  refine ⟨t, ?_, b1⟩
  jvm_step X0.here [X0.here.top, ↓top_set X0.here.top, hexec, hb, d, e']
  exact a1
theorem r_astore_n {i : Fin 4} {a : Nat} (C : Cx G X own cc) (d : decode cc pc = .ok (.astore_n i, 1)) (hn : (i : Nat) < xN X) (k : AtH G X cells slots (pc + 1) (((i : Nat), .ref a) :: lv) st N h) : AtH G X cells slots pc lv (.ref a :: st) N h := by
  obtain ⟨p, l, e, R, s, m, args, below, meth, c, Q, nL⟩ := X
  intro H locs ls hW hS hls
  obtain ⟨hexec, hb, -⟩ := C
  obtain ⟨ls', e', g⟩ := lh_st (v := .ref a) hls hn rfl
  intro T hT X0
  obtain ⟨t, a1, b1⟩ := k H locs ls' hW hS g T hT X0
  refine ⟨t, ?_, b1⟩
  jvm_step X0.here [X0.here.top, ↓top_set X0.here.top, hexec, hb, d, e', Value.isRef]
  exact a1
theorem r_astore {i : Nat} {a : Nat} (C : Cx G X own cc) (d : decode cc pc = .ok (.astore i, 2)) (hn : i < xN X) (k : AtH G X cells slots (pc + 2) ((i, .ref a) :: lv) st N h) : AtH G X cells slots pc lv (.ref a :: st) N h := by
  obtain ⟨p, l, e, R, s, m, args, below, meth, c, Q, nL⟩ := X
  intro H locs ls hW hS hls
  obtain ⟨hexec, hb, -⟩ := C
  obtain ⟨ls', e', g⟩ := lh_st (v := .ref a) hls hn rfl
  intro T hT X0
  obtain ⟨t, a1, b1⟩ := k H locs ls' hW hS g T hT X0
  refine ⟨t, ?_, b1⟩
  jvm_step X0.here [X0.here.top, ↓top_set X0.here.top, hexec, hb, d, e', Value.isRef]
  exact a1
theorem r_iinc {i : Nat} {n z : Int} (C : Cx G X own cc) (d : decode cc pc = .ok (.iinc i n, 3)) (hl : lv.lookup i = some (vI z)) (hn : i < xN X) (k : AtH G X cells slots (pc + 3) ((i, vI (z + n)) :: lv) st N h) : AtH G X cells slots pc lv st N h := by
  obtain ⟨p, l, e, R, s, m, args, below, meth, c, Q, nL⟩ := X
  intro H locs ls hW hS hls
  obtain ⟨hexec, hb, -⟩ := C
  have hg := (hls.2.2 _ _ hl).1
  obtain ⟨ls', e', g⟩ := lh_st (v := vI (z + n)) hls hn rfl
  have e2 : iI z + Int32.ofInt n = iI (z + n) := iI_add z n
  have e' : storeLocals ls i (.int (iI z + Int32.ofInt n)) = some ls' := by rw [e2]; exact e'
  intro T hT X0
  obtain ⟨t, a1, b1⟩ := k H locs ls' hW hS g T hT X0
  refine ⟨t, ?_, b1⟩
  jvm_step X0.here [X0.here.top, ↓top_set X0.here.top, hexec, hb, d, hg, e']
  exact a1
theorem r_iconst {n : Int} (C : Cx G X own cc) (d : decode cc pc = .ok (.iconst n, 1)) (k : AtH G X cells slots (pc + 1) lv (vI n :: st) N h) : AtH G X cells slots pc lv st N h := by
  obtain ⟨p, l, e, R, s, m, args, below, meth, c, Q, nL⟩ := X
  intro H locs ls hW hS hls
  exact lv_iconst C.1 C.2.1 d rfl (k H locs ls hW hS hls)
theorem r_bipush {n : Int} (C : Cx G X own cc) (d : decode cc pc = .ok (.bipush n, 2)) (hn : (Int8.ofInt n).toInt32 = iI n) (k : AtH G X cells slots (pc + 2) lv (vI n :: st) N h) : AtH G X cells slots pc lv st N h := by
  obtain ⟨p, l, e, R, s, m, args, below, meth, c, Q, nL⟩ := X
  intro H locs ls hW hS hls
  exact lv_bipush C.1 C.2.1 d hn (k H locs ls hW hS hls)
theorem r_sipush {n : Int} (C : Cx G X own cc) (d : decode cc pc = .ok (.sipush n, 3)) (hn : (Int16.ofInt n).toInt32 = iI n) (k : AtH G X cells slots (pc + 3) lv (vI n :: st) N h) : AtH G X cells slots pc lv st N h := by
  obtain ⟨p, l, e, R, s, m, args, below, meth, c, Q, nL⟩ := X
  intro H locs ls hW hS hls
  exact lv_sipush C.1 C.2.1 d hn (k H locs ls hW hS hls)
theorem r_iadd {x y : Int} (C : Cx G X own cc) (d : decode cc pc = .ok (.iadd, 1)) (k : AtH G X cells slots (pc + 1) lv (vI (x + y) :: st) N h) : AtH G X cells slots pc lv (vI y :: vI x :: st) N h := by
  obtain ⟨p, l, e, R, s, m, args, below, meth, c, Q, nL⟩ := X
  intro H locs ls hW hS hls
  refine lv_iadd C.1 C.2.1 d ?_
  rw [iI_add]
  exact k H locs ls hW hS hls
theorem r_isub {x y : Int} (C : Cx G X own cc) (d : decode cc pc = .ok (.isub, 1)) (k : AtH G X cells slots (pc + 1) lv (vI (x - y) :: st) N h) : AtH G X cells slots pc lv (vI y :: vI x :: st) N h := by
  obtain ⟨p, l, e, R, s, m, args, below, meth, c, Q, nL⟩ := X
  intro H locs ls hW hS hls
  refine lv_isub C.1 C.2.1 d ?_
  rw [iI_sub]
  exact k H locs ls hW hS hls
theorem r_imul {x y : Int} (C : Cx G X own cc) (d : decode cc pc = .ok (.imul, 1)) (k : AtH G X cells slots (pc + 1) lv (vI (x * y) :: st) N h) : AtH G X cells slots pc lv (vI y :: vI x :: st) N h := by
  obtain ⟨p, l, e, R, s, m, args, below, meth, c, Q, nL⟩ := X
  intro H locs ls hW hS hls
  refine lv_imul C.1 C.2.1 d ?_
  rw [iI_mul]
  exact k H locs ls hW hS hls
theorem r_ineg {x : Int} (C : Cx G X own cc) (d : decode cc pc = .ok (.ineg, 1)) (k : AtH G X cells slots (pc + 1) lv (vI (-x) :: st) N h) : AtH G X cells slots pc lv (vI x :: st) N h := by
  obtain ⟨p, l, e, R, s, m, args, below, meth, c, Q, nL⟩ := X
  intro H locs ls hW hS hls
  refine lv_ineg C.1 C.2.1 d ?_
  rw [iI_neg]
  exact k H locs ls hW hS hls
theorem r_idiv {x y : Int} (C : Cx G X own cc) (d : decode cc pc = .ok (.idiv, 1)) (hx : rg x) (hy : rg y) (h0 : 0 < y) (k : AtH G X cells slots (pc + 1) lv (vI (x.tdiv y) :: st) N h) : AtH G X cells slots pc lv (vI y :: vI x :: st) N h := by
  obtain ⟨p, l, e, R, s, m, args, below, meth, c, Q, nL⟩ := X
  intro H locs ls hW hS hls
  refine lv_idiv C.1 C.2.1 d (fun e9 => ?_) ?_
  · have := (iI_eq hy ⟨by omega, by omega⟩).mp (e9.trans iI_zero.symm)
    omega
  · rw [iI_div hx hy (by omega)]
    exact k H locs ls hW hS hls
theorem r_irem {x y : Int} (C : Cx G X own cc) (d : decode cc pc = .ok (.irem, 1)) (hx : rg x) (hy : rg y) (h0 : 0 < y) (k : AtH G X cells slots (pc + 1) lv (vI (x.tmod y) :: st) N h) : AtH G X cells slots pc lv (vI y :: vI x :: st) N h := by
  obtain ⟨p, l, e, R, s, m, args, below, meth, c, Q, nL⟩ := X
  intro H locs ls hW hS hls
  refine lv_irem C.1 C.2.1 d (fun e9 => ?_) ?_
  · have := (iI_eq hy ⟨by omega, by omega⟩).mp (e9.trans iI_zero.symm)
    omega
  · rw [iI_rem hx hy (by omega)]
    exact k H locs ls hW hS hls
theorem r_i2b {x : Int} (C : Cx G X own cc) (d : decode cc pc = .ok (.i2b, 1)) (k : AtH G X cells slots (pc + 1) lv (vI (wB x) :: st) N h) : AtH G X cells slots pc lv (vI x :: st) N h := by
  obtain ⟨p, l, e, R, s, m, args, below, meth, c, Q, nL⟩ := X
  intro H locs ls hW hS hls
  exact lv_i2b C.1 C.2.1 d (iI_i2b x) (k H locs ls hW hS hls)
theorem r_iand {x y z : Int} (C : Cx G X own cc) (d : decode cc pc = .ok (.iand, 1)) (hz : iI x &&& iI y = iI z) (k : AtH G X cells slots (pc + 1) lv (vI z :: st) N h) : AtH G X cells slots pc lv (vI y :: vI x :: st) N h := by
  obtain ⟨p, l, e, R, s, m, args, below, meth, c, Q, nL⟩ := X
  intro H locs ls hW hS hls
  refine lv_iand C.1 C.2.1 d ?_
  rw [hz]
  exact k H locs ls hW hS hls
theorem r_ior {x y z : Int} (C : Cx G X own cc) (d : decode cc pc = .ok (.ior, 1)) (hz : iI x ||| iI y = iI z) (k : AtH G X cells slots (pc + 1) lv (vI z :: st) N h) : AtH G X cells slots pc lv (vI y :: vI x :: st) N h := by
  obtain ⟨p, l, e, R, s, m, args, below, meth, c, Q, nL⟩ := X
  intro H locs ls hW hS hls
  refine lv_ior C.1 C.2.1 d ?_
  rw [hz]
  exact k H locs ls hW hS hls
theorem r_ixor {x y z : Int} (C : Cx G X own cc) (d : decode cc pc = .ok (.ixor, 1)) (hz : iI x ^^^ iI y = iI z) (k : AtH G X cells slots (pc + 1) lv (vI z :: st) N h) : AtH G X cells slots pc lv (vI y :: vI x :: st) N h := by
  obtain ⟨p, l, e, R, s, m, args, below, meth, c, Q, nL⟩ := X
  intro H locs ls hW hS hls
  refine lv_ixor C.1 C.2.1 d ?_
  rw [hz]
  exact k H locs ls hW hS hls
theorem r_ishl {x y z : Int} (C : Cx G X own cc) (d : decode cc pc = .ok (.ishl, 1)) (hz : iI x <<< (iI y &&& 31) = iI z) (k : AtH G X cells slots (pc + 1) lv (vI z :: st) N h) : AtH G X cells slots pc lv (vI y :: vI x :: st) N h := by
  obtain ⟨p, l, e, R, s, m, args, below, meth, c, Q, nL⟩ := X
  intro H locs ls hW hS hls
  refine lv_ishl C.1 C.2.1 d ?_
  rw [hz]
  exact k H locs ls hW hS hls
theorem r_ishr {x y z : Int} (C : Cx G X own cc) (d : decode cc pc = .ok (.ishr, 1)) (hz : iI x >>> (iI y &&& 31) = iI z) (k : AtH G X cells slots (pc + 1) lv (vI z :: st) N h) : AtH G X cells slots pc lv (vI y :: vI x :: st) N h := by
  obtain ⟨p, l, e, R, s, m, args, below, meth, c, Q, nL⟩ := X
  intro H locs ls hW hS hls
  refine lv_ishr C.1 C.2.1 d ?_
  rw [hz]
  exact k H locs ls hW hS hls
theorem r_iushr {x y z : Int} (C : Cx G X own cc) (d : decode cc pc = .ok (.iushr, 1)) (hz : ((iI x).toUInt32 >>> ((iI y).toUInt32 &&& Int32.toUInt32 31)).toInt32 = iI z) (k : AtH G X cells slots (pc + 1) lv (vI z :: st) N h) : AtH G X cells slots pc lv (vI y :: vI x :: st) N h := by
  obtain ⟨p, l, e, R, s, m, args, below, meth, c, Q, nL⟩ := X
  intro H locs ls hW hS hls
  exact lv_iushr C.1 C.2.1 d hz (k H locs ls hW hS hls)
theorem r_dup {v : Value} (C : Cx G X own cc) (d : decode cc pc = .ok (.dup, 1)) (hv : v.category = 1) (k : AtH G X cells slots (pc + 1) lv (v :: v :: st) N h) : AtH G X cells slots pc lv (v :: st) N h := by
  obtain ⟨p, l, e, R, s, m, args, below, meth, c, Q, nL⟩ := X
  intro H locs ls hW hS hls
  exact lv_dup C.1 C.2.1 d hv (k H locs ls hW hS hls)
theorem r_dup2 {v w : Value} (C : Cx G X own cc) (d : decode cc pc = .ok (.dup2, 1)) (hv : v.category = 1) (hw : w.category = 1) (k : AtH G X cells slots (pc + 1) lv (v :: w :: v :: w :: st) N h) : AtH G X cells slots pc lv (v :: w :: st) N h := by
  obtain ⟨p, l, e, R, s, m, args, below, meth, c, Q, nL⟩ := X
  intro H locs ls hW hS hls
  exact lv_dup2_11 C.1 C.2.1 d hv hw (k H locs ls hW hS hls)
theorem r_pop {v : Value} (C : Cx G X own cc) (d : decode cc pc = .ok (.pop, 1)) (hv : v.category = 1) (k : AtH G X cells slots (pc + 1) lv st N h) : AtH G X cells slots pc lv (v :: st) N h := by
  obtain ⟨p, l, e, R, s, m, args, below, meth, c, Q, nL⟩ := X
  intro H locs ls hW hS hls
  exact lv_pop C.1 C.2.1 d hv (k H locs ls hW hS hls)
theorem r_goto {off : Int} {tgt : Nat} (C : Cx G X own cc) (d : decode cc pc = .ok (.goto off, 3)) (ht : (pc : Int) + off = (tgt : Int)) (k : AtH G X cells slots tgt lv st N h) : AtH G X cells slots pc lv st N h := by
  obtain ⟨p, l, e, R, s, m, args, below, meth, c, Q, nL⟩ := X
  intro H locs ls hW hS hls
  exact lv_goto C.1 C.2.1 d ht (k H locs ls hW hS hls)
theorem r_ifeq {z off : Int} {tgt : Nat} (C : Cx G X own cc) (d : decode cc pc = .ok (.ifCond .eq off, 3)) (ht : (pc : Int) + off = (tgt : Int)) (hz : rg z) (k1 : z = 0 → AtH G X cells slots tgt lv st N h) (k2 : z ≠ 0 → AtH G X cells slots (pc + 3) lv st N h) : AtH G X cells slots pc lv (vI z :: st) N h := by
  obtain ⟨p, l, e, R, s, m, args, below, meth, c, Q, nL⟩ := X
  intro H locs ls hW hS hls
  have e9 : iI z = 0 ↔ z = 0 := iI_eq (b := 0) hz ⟨by omega, by omega⟩
  exact lv_if_eq C.1 C.2.1 d ht (fun q => k1 (e9.mp q) H locs ls hW hS hls) (fun q => k2 (fun z => q (e9.mpr z)) H locs ls hW hS hls)
theorem r_ifne {z off : Int} {tgt : Nat} (C : Cx G X own cc) (d : decode cc pc = .ok (.ifCond .ne off, 3)) (ht : (pc : Int) + off = (tgt : Int)) (hz : rg z) (k1 : z ≠ 0 → AtH G X cells slots tgt lv st N h) (k2 : z = 0 → AtH G X cells slots (pc + 3) lv st N h) : AtH G X cells slots pc lv (vI z :: st) N h := by
  obtain ⟨p, l, e, R, s, m, args, below, meth, c, Q, nL⟩ := X
  intro H locs ls hW hS hls
  have e9 : iI z = 0 ↔ z = 0 := iI_eq (b := 0) hz ⟨by omega, by omega⟩
  exact lv_if_ne C.1 C.2.1 d ht (fun q => k1 (fun z => q (e9.mpr z)) H locs ls hW hS hls) (fun q => k2 (e9.mp q) H locs ls hW hS hls)
theorem r_iflt {z off : Int} {tgt : Nat} (C : Cx G X own cc) (d : decode cc pc = .ok (.ifCond .lt off, 3)) (ht : (pc : Int) + off = (tgt : Int)) (hz : rg z) (k1 : z < 0 → AtH G X cells slots tgt lv st N h) (k2 : ¬ z < 0 → AtH G X cells slots (pc + 3) lv st N h) : AtH G X cells slots pc lv (vI z :: st) N h := by
  obtain ⟨p, l, e, R, s, m, args, below, meth, c, Q, nL⟩ := X
  intro H locs ls hW hS hls
  have e9 : iI z < 0 ↔ z < 0 := iI_lt (b := 0) hz ⟨by omega, by omega⟩
  exact lv_if_lt C.1 C.2.1 d ht (fun q => k1 (e9.mp q) H locs ls hW hS hls) (fun q => k2 (fun z => q (e9.mpr z)) H locs ls hW hS hls)
theorem r_ifge {z off : Int} {tgt : Nat} (C : Cx G X own cc) (d : decode cc pc = .ok (.ifCond .ge off, 3)) (ht : (pc : Int) + off = (tgt : Int)) (hz : rg z) (k1 : 0 ≤ z → AtH G X cells slots tgt lv st N h) (k2 : ¬ 0 ≤ z → AtH G X cells slots (pc + 3) lv st N h) : AtH G X cells slots pc lv (vI z :: st) N h := by
  obtain ⟨p, l, e, R, s, m, args, below, meth, c, Q, nL⟩ := X
  intro H locs ls hW hS hls
  have e9 : 0 ≤ iI z ↔ 0 ≤ z := iI_le (a := 0) ⟨by omega, by omega⟩ hz
  exact lv_if_ge C.1 C.2.1 d ht (fun q => k1 (e9.mp q) H locs ls hW hS hls) (fun q => k2 (fun z => q (e9.mpr z)) H locs ls hW hS hls)
theorem r_ifgt {z off : Int} {tgt : Nat} (C : Cx G X own cc) (d : decode cc pc = .ok (.ifCond .gt off, 3)) (ht : (pc : Int) + off = (tgt : Int)) (hz : rg z) (k1 : 0 < z → AtH G X cells slots tgt lv st N h) (k2 : ¬ 0 < z → AtH G X cells slots (pc + 3) lv st N h) : AtH G X cells slots pc lv (vI z :: st) N h := by
  obtain ⟨p, l, e, R, s, m, args, below, meth, c, Q, nL⟩ := X
  intro H locs ls hW hS hls
  have e9 : 0 < iI z ↔ 0 < z := iI_lt (a := 0) ⟨by omega, by omega⟩ hz
  exact lv_if_gt C.1 C.2.1 d ht (fun q => k1 (e9.mp q) H locs ls hW hS hls) (fun q => k2 (fun z => q (e9.mpr z)) H locs ls hW hS hls)
theorem r_ifle {z off : Int} {tgt : Nat} (C : Cx G X own cc) (d : decode cc pc = .ok (.ifCond .le off, 3)) (ht : (pc : Int) + off = (tgt : Int)) (hz : rg z) (k1 : z ≤ 0 → AtH G X cells slots tgt lv st N h) (k2 : ¬ z ≤ 0 → AtH G X cells slots (pc + 3) lv st N h) : AtH G X cells slots pc lv (vI z :: st) N h := by
  obtain ⟨p, l, e, R, s, m, args, below, meth, c, Q, nL⟩ := X
  intro H locs ls hW hS hls
  have e9 : iI z ≤ 0 ↔ z ≤ 0 := iI_le (b := 0) hz ⟨by omega, by omega⟩
  exact lv_if_le C.1 C.2.1 d ht (fun q => k1 (e9.mp q) H locs ls hW hS hls) (fun q => k2 (fun z => q (e9.mpr z)) H locs ls hW hS hls)
theorem r_icmpeq {x y off : Int} {tgt : Nat} (C : Cx G X own cc) (d : decode cc pc = .ok (.if_icmp .eq off, 3)) (ht : (pc : Int) + off = (tgt : Int)) (hx : rg x) (hy : rg y) (k1 : x = y → AtH G X cells slots tgt lv st N h) (k2 : x ≠ y → AtH G X cells slots (pc + 3) lv st N h) : AtH G X cells slots pc lv (vI y :: vI x :: st) N h := by
  obtain ⟨p, l, e, R, s, m, args, below, meth, c, Q, nL⟩ := X
  intro H locs ls hW hS hls
  have e9 := iI_eq hx hy
  exact lv_icmp_eq C.1 C.2.1 d ht (fun q => k1 (e9.mp q) H locs ls hW hS hls) (fun q => k2 (fun z => q (e9.mpr z)) H locs ls hW hS hls)
theorem r_icmpne {x y off : Int} {tgt : Nat} (C : Cx G X own cc) (d : decode cc pc = .ok (.if_icmp .ne off, 3)) (ht : (pc : Int) + off = (tgt : Int)) (hx : rg x) (hy : rg y) (k1 : x ≠ y → AtH G X cells slots tgt lv st N h) (k2 : x = y → AtH G X cells slots (pc + 3) lv st N h) : AtH G X cells slots pc lv (vI y :: vI x :: st) N h := by
  obtain ⟨p, l, e, R, s, m, args, below, meth, c, Q, nL⟩ := X
  intro H locs ls hW hS hls
  have e9 := iI_eq hx hy
  exact lv_icmp_ne C.1 C.2.1 d ht (fun q => k1 (fun z => q (e9.mpr z)) H locs ls hW hS hls) (fun q => k2 (e9.mp q) H locs ls hW hS hls)
theorem r_icmplt {x y off : Int} {tgt : Nat} (C : Cx G X own cc) (d : decode cc pc = .ok (.if_icmp .lt off, 3)) (ht : (pc : Int) + off = (tgt : Int)) (hx : rg x) (hy : rg y) (k1 : x < y → AtH G X cells slots tgt lv st N h) (k2 : ¬ x < y → AtH G X cells slots (pc + 3) lv st N h) : AtH G X cells slots pc lv (vI y :: vI x :: st) N h := by
  obtain ⟨p, l, e, R, s, m, args, below, meth, c, Q, nL⟩ := X
  intro H locs ls hW hS hls
  have e9 := iI_lt hx hy
  exact lv_icmp_lt C.1 C.2.1 d ht (fun q => k1 (e9.mp q) H locs ls hW hS hls) (fun q => k2 (fun z => q (e9.mpr z)) H locs ls hW hS hls)
theorem r_icmpge {x y off : Int} {tgt : Nat} (C : Cx G X own cc) (d : decode cc pc = .ok (.if_icmp .ge off, 3)) (ht : (pc : Int) + off = (tgt : Int)) (hx : rg x) (hy : rg y) (k1 : y ≤ x → AtH G X cells slots tgt lv st N h) (k2 : ¬ y ≤ x → AtH G X cells slots (pc + 3) lv st N h) : AtH G X cells slots pc lv (vI y :: vI x :: st) N h := by
  obtain ⟨p, l, e, R, s, m, args, below, meth, c, Q, nL⟩ := X
  intro H locs ls hW hS hls
  have e9 := iI_le hy hx
  exact lv_icmp_ge C.1 C.2.1 d ht (fun q => k1 (e9.mp q) H locs ls hW hS hls) (fun q => k2 (fun z => q (e9.mpr z)) H locs ls hW hS hls)
theorem r_icmpgt {x y off : Int} {tgt : Nat} (C : Cx G X own cc) (d : decode cc pc = .ok (.if_icmp .gt off, 3)) (ht : (pc : Int) + off = (tgt : Int)) (hx : rg x) (hy : rg y) (k1 : y < x → AtH G X cells slots tgt lv st N h) (k2 : ¬ y < x → AtH G X cells slots (pc + 3) lv st N h) : AtH G X cells slots pc lv (vI y :: vI x :: st) N h := by
  obtain ⟨p, l, e, R, s, m, args, below, meth, c, Q, nL⟩ := X
  intro H locs ls hW hS hls
  have e9 := iI_lt hy hx
  exact lv_icmp_gt C.1 C.2.1 d ht (fun q => k1 (e9.mp q) H locs ls hW hS hls) (fun q => k2 (fun z => q (e9.mpr z)) H locs ls hW hS hls)
theorem r_icmple {x y off : Int} {tgt : Nat} (C : Cx G X own cc) (d : decode cc pc = .ok (.if_icmp .le off, 3)) (ht : (pc : Int) + off = (tgt : Int)) (hx : rg x) (hy : rg y) (k1 : x ≤ y → AtH G X cells slots tgt lv st N h) (k2 : ¬ x ≤ y → AtH G X cells slots (pc + 3) lv st N h) : AtH G X cells slots pc lv (vI y :: vI x :: st) N h := by
  obtain ⟨p, l, e, R, s, m, args, below, meth, c, Q, nL⟩ := X
  intro H locs ls hW hS hls
  have e9 := iI_le hx hy
  exact lv_icmp_le C.1 C.2.1 d ht (fun q => k1 (e9.mp q) H locs ls hW hS hls) (fun q => k2 (fun z => q (e9.mpr z)) H locs ls hW hS hls)
/-- the same number, in other words -/
theorem r_top {z y : Int} (e : z = y) (k : AtH G X cells slots pc lv (vI y :: st) N h) : AtH G X cells slots pc lv (vI z :: st) N h := e ▸ k
end
