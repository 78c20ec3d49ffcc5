section
-- ===== PART A: goes FIRST, ahead of the names: the tables' words, and 'selects' of the private methods out of them =====
/-- a private method of a class that the tables say can be made, by its rows of tables_1 -/
def lw_okq (q : MethodName × Nat) : Prop := (q.1.cls ≠ "java/lang/invoke/MethodHandle" ∧ q.1.cls ≠ "java/lang/invoke/VarHandle") ∧ Cond.instantiable q.1.cls q.2 ∈ tables_1 ∧ Cond.privateMethod q.1 ∈ tables_1 ∧ Cond.instanceMethod q.1 ∈ tables_1
theorem lw_p0 : lw_okq (⟨"ChannelSchedule", "readSetup", "()Z"⟩, 14) := ⟨⟨by decide +kernel, by decide +kernel⟩, List.mem_of_getElem? (i := 27) (by decide +kernel), List.mem_of_getElem? (i := 274) (by decide +kernel), List.mem_of_getElem? (i := 275) (by decide +kernel)⟩
theorem lw_p1 : lw_okq (⟨"ChannelSchedule", "readSettings", "()Z"⟩, 14) := ⟨⟨by decide +kernel, by decide +kernel⟩, List.mem_of_getElem? (i := 27) (by decide +kernel), List.mem_of_getElem? (i := 293) (by decide +kernel), List.mem_of_getElem? (i := 294) (by decide +kernel)⟩
theorem lw_p2 : lw_okq (⟨"ChannelSchedule", "readShip", "()Z"⟩, 14) := ⟨⟨by decide +kernel, by decide +kernel⟩, List.mem_of_getElem? (i := 27) (by decide +kernel), List.mem_of_getElem? (i := 320) (by decide +kernel), List.mem_of_getElem? (i := 321) (by decide +kernel)⟩
theorem lw_p3 : lw_okq (⟨"ChannelSchedule", "readNewName", "(LChannelSchedule$Ship;)Z"⟩, 14) := ⟨⟨by decide +kernel, by decide +kernel⟩, List.mem_of_getElem? (i := 27) (by decide +kernel), List.mem_of_getElem? (i := 327) (by decide +kernel), List.mem_of_getElem? (i := 328) (by decide +kernel)⟩
theorem lw_p4 : lw_okq (⟨"ChannelSchedule", "startWithDraft", "()V"⟩, 14) := ⟨⟨by decide +kernel, by decide +kernel⟩, List.mem_of_getElem? (i := 27) (by decide +kernel), List.mem_of_getElem? (i := 344) (by decide +kernel), List.mem_of_getElem? (i := 345) (by decide +kernel)⟩
theorem lw_p5 : lw_okq (⟨"java/lang/Throwable", "fillInStackTrace", "(I)Ljava/lang/Throwable;"⟩, 6) := ⟨⟨by decide +kernel, by decide +kernel⟩, List.mem_of_getElem? (i := 440) (by decide +kernel), List.mem_of_getElem? (i := 438) (by decide +kernel), List.mem_of_getElem? (i := 439) (by decide +kernel)⟩
theorem lw_p6 : lw_okq (⟨"ChannelSchedule", "isShip", "(I)Z"⟩, 14) := ⟨⟨by decide +kernel, by decide +kernel⟩, List.mem_of_getElem? (i := 27) (by decide +kernel), List.mem_of_getElem? (i := 473) (by decide +kernel), List.mem_of_getElem? (i := 474) (by decide +kernel)⟩
theorem lw_p7 : lw_okq (⟨"ChannelSchedule", "transitOf", "(I)I"⟩, 14) := ⟨⟨by decide +kernel, by decide +kernel⟩, List.mem_of_getElem? (i := 27) (by decide +kernel), List.mem_of_getElem? (i := 498) (by decide +kernel), List.mem_of_getElem? (i := 499) (by decide +kernel)⟩
theorem lw_p8 : lw_okq (⟨"ChannelSchedule", "isBooking", "(I)Z"⟩, 14) := ⟨⟨by decide +kernel, by decide +kernel⟩, List.mem_of_getElem? (i := 27) (by decide +kernel), List.mem_of_getElem? (i := 510) (by decide +kernel), List.mem_of_getElem? (i := 511) (by decide +kernel)⟩
theorem lw_p9 : lw_okq (⟨"ChannelSchedule", "clashes", "(IZII)Z"⟩, 14) := ⟨⟨by decide +kernel, by decide +kernel⟩, List.mem_of_getElem? (i := 27) (by decide +kernel), List.mem_of_getElem? (i := 521) (by decide +kernel), List.mem_of_getElem? (i := 522) (by decide +kernel)⟩
theorem lw_p10 : lw_okq (⟨"ChannelSchedule", "freeBefore", "(IIZI)I"⟩, 14) := ⟨⟨by decide +kernel, by decide +kernel⟩, List.mem_of_getElem? (i := 27) (by decide +kernel), List.mem_of_getElem? (i := 525) (by decide +kernel), List.mem_of_getElem? (i := 526) (by decide +kernel)⟩
theorem lw_p11 : lw_okq (⟨"ChannelSchedule", "freeAfter", "(IIZI)I"⟩, 14) := ⟨⟨by decide +kernel, by decide +kernel⟩, List.mem_of_getElem? (i := 27) (by decide +kernel), List.mem_of_getElem? (i := 529) (by decide +kernel), List.mem_of_getElem? (i := 530) (by decide +kernel)⟩
theorem lw_p12 : lw_okq (⟨"ChannelSchedule", "bookFault", "(IZI)I"⟩, 14) := ⟨⟨by decide +kernel, by decide +kernel⟩, List.mem_of_getElem? (i := 27) (by decide +kernel), List.mem_of_getElem? (i := 541) (by decide +kernel), List.mem_of_getElem? (i := 542) (by decide +kernel)⟩
theorem lw_p13 : lw_okq (⟨"ChannelSchedule", "firstClash", "(ZIII)I"⟩, 14) := ⟨⟨by decide +kernel, by decide +kernel⟩, List.mem_of_getElem? (i := 27) (by decide +kernel), List.mem_of_getElem? (i := 545) (by decide +kernel), List.mem_of_getElem? (i := 546) (by decide +kernel)⟩
theorem lw_p14 : lw_okq (⟨"ChannelSchedule", "remember", "()V"⟩, 14) := ⟨⟨by decide +kernel, by decide +kernel⟩, List.mem_of_getElem? (i := 27) (by decide +kernel), List.mem_of_getElem? (i := 570) (by decide +kernel), List.mem_of_getElem? (i := 571) (by decide +kernel)⟩
theorem lw_p15 : lw_okq (⟨"ChannelSchedule", "bookNow", "(IZI)I"⟩, 14) := ⟨⟨by decide +kernel, by decide +kernel⟩, List.mem_of_getElem? (i := 27) (by decide +kernel), List.mem_of_getElem? (i := 586) (by decide +kernel), List.mem_of_getElem? (i := 587) (by decide +kernel)⟩
def lw_privs_1 : List (MethodName × Nat) := [(⟨"ChannelSchedule", "readSetup", "()Z"⟩, 14), (⟨"ChannelSchedule", "readSettings", "()Z"⟩, 14), (⟨"ChannelSchedule", "readShip", "()Z"⟩, 14), (⟨"ChannelSchedule", "readNewName", "(LChannelSchedule$Ship;)Z"⟩, 14), (⟨"ChannelSchedule", "startWithDraft", "()V"⟩, 14), (⟨"java/lang/Throwable", "fillInStackTrace", "(I)Ljava/lang/Throwable;"⟩, 6), (⟨"ChannelSchedule", "isShip", "(I)Z"⟩, 14), (⟨"ChannelSchedule", "transitOf", "(I)I"⟩, 14), (⟨"ChannelSchedule", "isBooking", "(I)Z"⟩, 14), (⟨"ChannelSchedule", "clashes", "(IZII)Z"⟩, 14), (⟨"ChannelSchedule", "freeBefore", "(IIZI)I"⟩, 14), (⟨"ChannelSchedule", "freeAfter", "(IIZI)I"⟩, 14), (⟨"ChannelSchedule", "bookFault", "(IZI)I"⟩, 14), (⟨"ChannelSchedule", "firstClash", "(ZIII)I"⟩, 14), (⟨"ChannelSchedule", "remember", "()V"⟩, 14), (⟨"ChannelSchedule", "bookNow", "(IZI)I"⟩, 14)]
theorem lw_r1 : ∀ q ∈ lw_privs_1, lw_okq q := List.forall_mem_cons.mpr ⟨lw_p0, List.forall_mem_cons.mpr ⟨lw_p1, List.forall_mem_cons.mpr ⟨lw_p2, List.forall_mem_cons.mpr ⟨lw_p3, List.forall_mem_cons.mpr ⟨lw_p4, List.forall_mem_cons.mpr ⟨lw_p5, List.forall_mem_cons.mpr ⟨lw_p6, List.forall_mem_cons.mpr ⟨lw_p7, List.forall_mem_cons.mpr ⟨lw_p8, List.forall_mem_cons.mpr ⟨lw_p9, List.forall_mem_cons.mpr ⟨lw_p10, List.forall_mem_cons.mpr ⟨lw_p11, List.forall_mem_cons.mpr ⟨lw_p12, List.forall_mem_cons.mpr ⟨lw_p13, List.forall_mem_cons.mpr ⟨lw_p14, List.forall_mem_cons.mpr ⟨lw_p15, fun _ h => absurd h List.not_mem_nil⟩⟩⟩⟩⟩⟩⟩⟩⟩⟩⟩⟩⟩⟩⟩⟩
theorem lw_p16 : lw_okq (⟨"ChannelSchedule", "requestFault", "(IZII)I"⟩, 14) := ⟨⟨by decide +kernel, by decide +kernel⟩, List.mem_of_getElem? (i := 27) (by decide +kernel), List.mem_of_getElem? (i := 598) (by decide +kernel), List.mem_of_getElem? (i := 599) (by decide +kernel)⟩
theorem lw_p17 : lw_okq (⟨"ChannelSchedule", "startToServe", "(IZII)I"⟩, 14) := ⟨⟨by decide +kernel, by decide +kernel⟩, List.mem_of_getElem? (i := 27) (by decide +kernel), List.mem_of_getElem? (i := 602) (by decide +kernel), List.mem_of_getElem? (i := 603) (by decide +kernel)⟩
theorem lw_p18 : lw_okq (⟨"ChannelSchedule", "leastFreeStart", "(ZIIII)I"⟩, 14) := ⟨⟨by decide +kernel, by decide +kernel⟩, List.mem_of_getElem? (i := 27) (by decide +kernel), List.mem_of_getElem? (i := 606) (by decide +kernel), List.mem_of_getElem? (i := 607) (by decide +kernel)⟩
theorem lw_p19 : lw_okq (⟨"ChannelSchedule", "requestNow", "(IZII)I"⟩, 14) := ⟨⟨by decide +kernel, by decide +kernel⟩, List.mem_of_getElem? (i := 27) (by decide +kernel), List.mem_of_getElem? (i := 610) (by decide +kernel), List.mem_of_getElem? (i := 611) (by decide +kernel)⟩
theorem lw_p20 : lw_okq (⟨"ChannelSchedule", "cancelFault", "(I)I"⟩, 14) := ⟨⟨by decide +kernel, by decide +kernel⟩, List.mem_of_getElem? (i := 27) (by decide +kernel), List.mem_of_getElem? (i := 622) (by decide +kernel), List.mem_of_getElem? (i := 623) (by decide +kernel)⟩
theorem lw_p21 : lw_okq (⟨"ChannelSchedule", "cancelNow", "(I)I"⟩, 14) := ⟨⟨by decide +kernel, by decide +kernel⟩, List.mem_of_getElem? (i := 27) (by decide +kernel), List.mem_of_getElem? (i := 626) (by decide +kernel), List.mem_of_getElem? (i := 627) (by decide +kernel)⟩
theorem lw_p22 : lw_okq (⟨"ChannelSchedule", "serveWaiting", "()I"⟩, 14) := ⟨⟨by decide +kernel, by decide +kernel⟩, List.mem_of_getElem? (i := 27) (by decide +kernel), List.mem_of_getElem? (i := 634) (by decide +kernel), List.mem_of_getElem? (i := 635) (by decide +kernel)⟩
theorem lw_p23 : lw_okq (⟨"ChannelSchedule", "isRequest", "(I)Z"⟩, 14) := ⟨⟨by decide +kernel, by decide +kernel⟩, List.mem_of_getElem? (i := 27) (by decide +kernel), List.mem_of_getElem? (i := 721) (by decide +kernel), List.mem_of_getElem? (i := 722) (by decide +kernel)⟩
theorem lw_p24 : lw_okq (⟨"ChannelSchedule", "freezeNow", "(I)I"⟩, 14) := ⟨⟨by decide +kernel, by decide +kernel⟩, List.mem_of_getElem? (i := 27) (by decide +kernel), List.mem_of_getElem? (i := 1059) (by decide +kernel), List.mem_of_getElem? (i := 1060) (by decide +kernel)⟩
theorem lw_p25 : lw_okq (⟨"ChannelSchedule", "advanceFault", "(I)I"⟩, 14) := ⟨⟨by decide +kernel, by decide +kernel⟩, List.mem_of_getElem? (i := 27) (by decide +kernel), List.mem_of_getElem? (i := 1067) (by decide +kernel), List.mem_of_getElem? (i := 1068) (by decide +kernel)⟩
theorem lw_p26 : lw_okq (⟨"ChannelSchedule", "advanceNow", "(I)I"⟩, 14) := ⟨⟨by decide +kernel, by decide +kernel⟩, List.mem_of_getElem? (i := 27) (by decide +kernel), List.mem_of_getElem? (i := 1071) (by decide +kernel), List.mem_of_getElem? (i := 1072) (by decide +kernel)⟩
def lw_privs_2 : List (MethodName × Nat) := [(⟨"ChannelSchedule", "requestFault", "(IZII)I"⟩, 14), (⟨"ChannelSchedule", "startToServe", "(IZII)I"⟩, 14), (⟨"ChannelSchedule", "leastFreeStart", "(ZIIII)I"⟩, 14), (⟨"ChannelSchedule", "requestNow", "(IZII)I"⟩, 14), (⟨"ChannelSchedule", "cancelFault", "(I)I"⟩, 14), (⟨"ChannelSchedule", "cancelNow", "(I)I"⟩, 14), (⟨"ChannelSchedule", "serveWaiting", "()I"⟩, 14), (⟨"ChannelSchedule", "isRequest", "(I)Z"⟩, 14), (⟨"ChannelSchedule", "freezeNow", "(I)I"⟩, 14), (⟨"ChannelSchedule", "advanceFault", "(I)I"⟩, 14), (⟨"ChannelSchedule", "advanceNow", "(I)I"⟩, 14)]
theorem lw_r2 : ∀ q ∈ lw_privs_2, lw_okq q := List.forall_mem_cons.mpr ⟨lw_p16, List.forall_mem_cons.mpr ⟨lw_p17, List.forall_mem_cons.mpr ⟨lw_p18, List.forall_mem_cons.mpr ⟨lw_p19, List.forall_mem_cons.mpr ⟨lw_p20, List.forall_mem_cons.mpr ⟨lw_p21, List.forall_mem_cons.mpr ⟨lw_p22, List.forall_mem_cons.mpr ⟨lw_p23, List.forall_mem_cons.mpr ⟨lw_p24, List.forall_mem_cons.mpr ⟨lw_p25, List.forall_mem_cons.mpr ⟨lw_p26, fun _ h => absurd h List.not_mem_nil⟩⟩⟩⟩⟩⟩⟩⟩⟩⟩⟩
def lw_privs : List (MethodName × Nat) := lw_privs_1 ++ (lw_privs_2)
def lw_tbl : List Cond := k2_sels lw_privs ++ tables_1
theorem lw_privs_ok : ∀ q ∈ lw_privs, lw_okq q := by
  show ∀ q ∈ lw_privs_1 ++ (lw_privs_2), lw_okq q
  exact List.forall_mem_append.mpr ⟨lw_r1, lw_r2⟩
/-! ===== BEGIN words of one list among another's, by their places ===== -/
theorem goodIn_r {big : List Cond} (ws : List Cond) (ps : List Nat) (hp : ws = ps.filterMap (fun i => big[i]?)) (h : ws.all goodWord = true) : GoodIn big ws := by
  intro w hw
  have h1 := List.all_eq_true.mp h w hw
  rw [hp] at hw
  obtain ⟨i, -, hi⟩ := List.mem_filterMap.mp hw
  have hm : w ∈ big := by first | exact List.mem_of_getElem? hi | exact List.getElem?_mem hi
  exact ⟨hm, good_of_word h1⟩
theorem goodIn_app {big a b : List Cond} (ha : GoodIn big a) (hb : GoodIn big b) : GoodIn big (a ++ b) := fun w h => (List.mem_append.mp h).elim (ha w) (hb w)
theorem goodIn_ca {big a b : List Cond} {c : Cond} (ha : GoodIn big (c :: a)) (hb : GoodIn big b) : GoodIn big (c :: (a ++ b)) := fun w h => (List.mem_cons.mp h).elim (fun e => ha w (List.mem_cons.mpr (Or.inl e))) (fun h => (List.mem_append.mp h).elim (fun h => ha w (List.mem_cons.mpr (Or.inr h))) (hb w))
theorem goodIn_sub {big ws : List Cond} (hm : ∀ w ∈ ws, w ∈ big) (h : ws.all goodWord = true) : GoodIn big ws := fun w hw => ⟨hm w hw, good_of_word (List.all_eq_true.mp h w hw)⟩
/-! ===== END ===== -/
/-! ===== BEGIN exceptions that leave a method, and their catching by the caller (launches without stack traces) ===== -/
section VXA
/-! The laws vx_back, vx_callV, vx_callS, vx_callSW, vx_throw0, vx_throwS follow proofs of the library, with one case more: JvmDerived/Free/Laws.lean (Back.of_free), Shelf42/LK1.lean (callV, callS), Shelf/KitTraced.lean (throwNew0V, throwNewS). -/
/-- where a method has thrown q: the class by its name, the cell, what was written, the world -/
def vx_T (XC : String → State → State → Prop) (st : State) (q : Addr) (t : State) (mc ms : Nat) (free : Addr → Prop) : Prop :=
  ∃ (E : String) (ce : Cell) (L : List Loc), XC E st t ∧ t.heap[q]? = some ce ∧ ce.vm = .none ∧ st.vm.findClass E = some ce.cls ∧ st.WarmedH t.vm ∧ st.sameButNew ({ t with vm := st.vm } : State) L mc ms ∧ ∀ z ∈ L, free z.base
def vx_Q (Qc : Array Value → State → Outcome → State → Prop) (XC : String → State → State → Prop) (mc ms : Nat) (free : Addr → Prop) : Array Value → State → Outcome → State → Prop := fun a st o t =>
  (Qc a st o t ∧ ∃ L, FrameEnd st o t L mc ms ∧ ∀ q ∈ L, free q.base) ∨ ∃ q, o = .threw q ∧ vx_T XC st q t mc ms free
/-- a callee that returns or throws -/
def vx_Met (l : Launch) (y : MethodName) (ws : List Cond) (rm : Room) (Pc : Array Value → State → Prop) (Qc : Array Value → State → Outcome → State → Prop) (XC : String → State → State → Prop) (mc ms : Nat) (free : Addr → Prop) : Prop :=
  MetFree l y (headSpec ws rm) Pc (fun _ _ _ _ _ => True) (vx_Q Qc XC mc ms free)
def vx_Post (XC : String → State → State → Prop) (mc ms : Nat) (free : Addr → Prop) : Pt → Array Value → Addr → Pt → Prop := fun A a q B =>
  ∃ (g : JFrame) (mk : MethodId) (t : State) (L : List Loc) (E : String) (ce : Cell), B.U.heap = t.heap ∧ B.U.vm = t.vm ∧ XC E (A.U.calling g mk a) t ∧ t.heap[q]? = some ce ∧ ce.vm = .none ∧ A.U.vm.findClass E = some ce.cls ∧ B.locs = A.locs ++ L ∧ (∀ z ∈ L, free z.base) ∧ B.cells = A.cells + mc ∧ B.slots = A.slots + ms
def vx_Back (l : Launch) (R : Room) (p : Program) (e : Env) (below : List Frame) (s : State) (sargs : Array Value) (y : MethodName) (len W9 : Nat)
    (Pre : Pt → Array Value → Prop) (Post : Pt → Array Value → Option Value → Pt → Prop) (PostX : Pt → Array Value → Addr → Pt → Prop) : Prop :=
  ∀ (m : MethodId) (meth : Method) (c : Code) (A : Pt) (g : JFrame) (ig : Instr) (mk : MethodId) (a : Array Value),
    Stand p l e R s m sargs below meth c A.U A.locs A.cells A.slots → g.method = m → g.locals.size = c.maxLocals → decode c.code g.pc = .ok (ig, len) →
    2 * g.monitorRoom + (g.stack.map fun v => v.category).sum ≤ W9 → A.U.methodNamed? y = some mk → Pre A a →
    (∃ (v : Option Value) (B : Pt), Stand p l e R s m sargs below meth c B.U B.locs B.cells B.slots ∧ Post A a v B ∧
      Steps p.tables e below (doInvoke e (A.U.setTop g) [] mk a).1 (B.U.setTop { g with pc := g.pc + len, stack := v.toList ++ g.stack })) ∨
    (∃ (q : Addr) (B : Pt), Stand p l e R s m sargs below meth c B.U B.locs B.cells B.slots ∧ PostX A a q B ∧
      Steps p.tables e below (doInvoke e (A.U.setTop g) [] mk a).1 ((B.U.setTop g).pushFrame (.throwing q)))
section Payer
variable {l : Launch} {R : Room} {p : Program} {e : Env} {below : List Frame} {s : State} {sargs : Array Value} {y : MethodName} {len W9 : Nat}
theorem vx_back {ws : List Cond} {rm : Room} {Pc : Array Value → State → Prop} {Qc : Array Value → State → Outcome → State → Prop} {XC : String → State → State → Prop} {mc ms : Nat} {free : Addr → Prop} {bytes : ByteArray} {maxL : Nat} {ret : Option FieldType}
    (hM : vx_Met l y ws rm Pc Qc XC mc ms free) (hblind : FrameBlind Pc) (hrc : rm.cells = mc) (hrs : rm.slots = ms)
    (hframes : rm.frames + 1 ≤ R.frames) (hlocals : W9 + (maxL + 11) + rm.locals ≤ R.locals)
    (hws : ∀ w ∈ ws, ∀ a' U, s.WarmedH U.vm → w.before a' U = true) (hcode : Cond.code y bytes maxL ret ∈ ws) (hinit : ∀ a' U, s.WarmedH U.vm → (Cond.initialized y.cls).before a' U = true) :
    vx_Back l R p e below s sargs y len W9 (PreOf R mc ms Pc) (PostOf Qc mc ms free) (vx_Post XC mc ms free) := by
  intro m meth c A g ig mk a X hg hsize hdg hW hn hp
  have h1 : (headSpec ws rm).pre.before a A.U = true := atoms_intro fun w hw => hws w hw _ _ X.warmed
  have h2 : (Cond.code y bytes maxL ret).before a A.U = true := hws _ hcode _ _ X.warmed
  have h3 : (Cond.initialized y.cls).before a A.U = true := hinit _ _ X.warmed
  have h4 : A.cells + (headSpec ws rm).room.cells ≤ R.cells := by rw [show (headSpec ws rm).room.cells = mc from hrc]; exact hp.1
  have h5 : A.slots + (headSpec ws rm).room.slots ≤ R.slots := by rw [show (headSpec ws rm).room.slots = ms from hrs]; exact hp.2.1
  have hPc : Pc a (A.U.calling g mk a) := hblind _ _ _ _ hp.2.2
  obtain ⟨U, Ls, c0, s0⟩ := A
  dsimp only [Pt.U, Pt.locs, Pt.cells, Pt.slots] at h1 h2 h3 h4 h5 X hn hPc ⊢
  obtain ⟨methY, cY, hmY, hcY, -, hlY, -, -, -, -⟩ := Cond.code_spec hn h2
  obtain ⟨kY, hkY, -⟩ := className_of_methodNamed hn
  have hinitY : kY.init = .initialized := Cond.initialized_spec (findClass_of_methodNamed hn) hkY h3
  have h : At U g.method c below := by rw [hg]; exact X.here
  have hlocals9 : W9 + (maxL + 11) + (headSpec ws rm).room.locals ≤ R.locals := hlocals
  have happ : (headSpec ws rm).appliesLoose y e.platform (U.calling g mk a) = true :=
    Spec.appliesLoose_calling (g := g) h hdg hn hkY hinitY
      (X.room_calling (g := g) (R' := (headSpec ws rm).room) hsize hmY hcY hframes (by rw [hlY]; omega) h4 h5) h1
  obtain ⟨mid, hmid⟩ := h.above
  have hfr : (U.setTop g).frames = (.java g :: mid) ++ below := by rw [State.frames_setTop' g h.top, hmid]; rfl
  obtain ⟨o, s₂, hsteps, -, hend, hq⟩ := Steps.callFree hM p X.admits X.cas X.clock (acts := []) hfr happ hPc trivial
  have hq' : vx_Q Qc XC mc ms free a (U.calling g mk a) o s₂ := hq
  rw [State.frames_setTop' g h.top] at hend
  obtain ⟨g₀, hg0⟩ := Option.isSome_iff_exists.mp h.top
  obtain ⟨r, hr⟩ := State.topJava?_eq_some.mp hg0
  have hr' : (({ U with heap := s₂.heap, slotsUsed := s₂.slotsUsed } : State).setVm s₂.vm).frames = .java g₀ :: r := hr
  rcases hq' with ⟨hqc, L, hfe, hL⟩ | ⟨q, rfl, E, ce, L, hx, hce, hcv, hcl, hW₂, hsm, hL⟩
  · obtain ⟨⟨v, rfl⟩, hW₂, e2, q2, q3, q4, q5, q6⟩ := id hfe
    have e3 : s₂ = ({ (U.calling g mk a).setFrames s₂.frames with heap := s₂.heap, slotsUsed := s₂.slotsUsed } : State).setVm s₂.vm := by
      have : s₂ = ({ s₂ with vm := (U.calling g mk a).vm } : State).setVm s₂.vm := rfl
      rw [e2] at this
      exact this
    obtain ⟨c₂, i₂, len₂, hc₂, hd₂, hf₂⟩ := hend
    have hW' : U.WarmedH s₂.vm := hW₂
    have hcc : c₂ = c := by
      have h1 : s₂.code? g.method = U.code? g.method := by
        rw [State.code?_eq, State.code?_eq, hW'.alike.method?]
      exact Option.some.inj (hc₂.symm.trans (h1.trans h.code))
    subst hcc
    have hlen : len₂ = len := by rw [hdg] at hd₂; cases hd₂; rfl
    subst hlen
    have hs₂ : s₂ = (({ U with heap := s₂.heap, slotsUsed := s₂.slotsUsed } : State).setVm s₂.vm).setTop { g with pc := g.pc + len₂, stack := v.toList ++ g.stack } := by
      refine e3.trans ?_
      rw [hf₂, State.calling_eq h.top, State.setFrames_setFrames, State.setTop_of_frames _ hr', hr]
      rfl
    have hsame : U.sameButNew ({ U with heap := s₂.heap, slotsUsed := s₂.slotsUsed } : State) L mc ms := by
      refine ⟨?_, q2, q3, q4, q5, q6⟩
      obtain ⟨t, ht, -⟩ := State.frames_cons hr
      show ({ U with heap := s₂.heap, slotsUsed := s₂.slotsUsed } : State) = { U.setFrames U.frames with heap := s₂.heap, slotsUsed := s₂.slotsUsed }
      rw [State.setFrames_self ht]
    subst hg
    refine Or.inl ⟨v, ⟨(({ U with heap := s₂.heap, slotsUsed := s₂.slotsUsed } : State).setVm s₂.vm), Ls ++ L, c0 + mc, s0 + ms⟩,
      ⟨X.admits, X.cas, X.clock, X.frames, X.room, X.hears, X.method, X.code, (X.here.setHeapUsed s₂.heap s₂.slotsUsed).setVm hW'.alike, X.tail, State.WarmedH.trans X.warmed hW', X.limits, X.bytes, X.same.trans (hsame.setVm s.vm)⟩,
      ⟨g, mk, s₂, L, rfl, rfl, hqc, rfl, hL, rfl, rfl⟩, ?_⟩
    show Steps p.tables e below _ ((({ U with heap := s₂.heap, slotsUsed := s₂.slotsUsed } : State).setVm s₂.vm).setTop { g with pc := g.pc + len₂, stack := v.toList ++ g.stack })
    rw [← hs₂]
    exact hsteps
  · obtain ⟨e2, q2, q3, q4, q5, q6⟩ := id hsm
    have e3 : s₂ = ({ (U.calling g mk a).setFrames s₂.frames with heap := s₂.heap, slotsUsed := s₂.slotsUsed } : State).setVm s₂.vm := by
      have : s₂ = ({ s₂ with vm := (U.calling g mk a).vm } : State).setVm s₂.vm := rfl
      rw [e2] at this
      exact this
    have hf₂ : s₂.frames = .throwing q :: .java g :: U.frames.tail := hend
    have hW' : U.WarmedH s₂.vm := hW₂
    have hs₂ : s₂ = ((({ U with heap := s₂.heap, slotsUsed := s₂.slotsUsed } : State).setVm s₂.vm).setTop g).pushFrame (.throwing q) := by
      refine e3.trans ?_
      rw [hf₂, State.calling_eq h.top, State.setFrames_setFrames, State.pushFrame, State.frames_setTop _ hr', State.setTop_of_frames _ hr', State.setFrames_setFrames, hr]
      rfl
    have hsame : U.sameButNew ({ U with heap := s₂.heap, slotsUsed := s₂.slotsUsed } : State) L mc ms := by
      refine ⟨?_, q2, q3, q4, q5, q6⟩
      obtain ⟨t, ht, -⟩ := State.frames_cons hr
      show ({ U with heap := s₂.heap, slotsUsed := s₂.slotsUsed } : State) = { U.setFrames U.frames with heap := s₂.heap, slotsUsed := s₂.slotsUsed }
      rw [State.setFrames_self ht]
    subst hg
    refine Or.inr ⟨q, ⟨(({ U with heap := s₂.heap, slotsUsed := s₂.slotsUsed } : State).setVm s₂.vm), Ls ++ L, c0 + mc, s0 + ms⟩,
      ⟨X.admits, X.cas, X.clock, X.frames, X.room, X.hears, X.method, X.code, (X.here.setHeapUsed s₂.heap s₂.slotsUsed).setVm hW'.alike, X.tail, State.WarmedH.trans X.warmed hW', X.limits, X.bytes, X.same.trans (hsame.setVm s.vm)⟩,
      ⟨g, mk, s₂, L, E, ce, rfl, rfl, hx, hce, hcv, hcl, rfl, hL, rfl, rfl⟩, ?_⟩
    show Steps p.tables e below _ (((({ U with heap := s₂.heap, slotsUsed := s₂.slotsUsed } : State).setVm s₂.vm).setTop g).pushFrame (.throwing q))
    rw [← hs₂]
    exact hsteps
end Payer
section Calls
variable {p : Program} {l : Launch} {e : Env} {R : Room} {s : State} {m : MethodId} {args : Array Value} {below : List Frame} {meth : Method} {c : Code} {T : State} {locs : List Loc} {cells slots : Nat}
theorem vx_callV (X : Stand p l e R s m args below meth c T locs cells slots) (hexec : p.tables.exec = Jvm.exec) {own C : String} {index : Nat} {y : MethodName} {bytes : ByteArray} {maxL : Nat} {ret : Option FieldType}
    (hown : s.vm.findClass own = some m.cls) (hlink : (Cond.methodLink own index y).before args s = true) (hinst : (Cond.instanceMethod y).before args s = true) (hsel : (Cond.selects C y y).before args s = true)
    (hcode : (Cond.code y bytes maxL ret).before args s = true) (hy : y.cls ≠ "java/lang/invoke/MethodHandle" ∧ y.cls ≠ "java/lang/invoke/VarHandle")
    {W9 : Nat} {Pre : Pt → Array Value → Prop} {Post : Pt → Array Value → Option Value → Pt → Prop} {PostX : Pt → Array Value → Addr → Pt → Prop} (hK : vx_Back l R p e below s args y 3 W9 Pre Post PostX)
    {b : Addr} {cellB : Cell} (hcell : T.heap[b]? = some cellB) (hobj : cellB.vm.isStatics = false) (hcls : s.vm.findClass C = some cellB.cls)
    {g : JFrame} (hg : g.method = m) (hsize : g.locals.size = c.maxLocals) {argsL rest : List Value} (hlen : ∀ sig, parseMethodDescriptor y.desc = some sig → argsL.length = sig.parameters.length)
    (hstack : g.stack = argsL.reverse ++ .ref b :: rest) (hW : 2 * g.monitorRoom + (rest.map fun v => v.category).sum ≤ W9) (hdg : decode c.code g.pc = .ok (.invokevirtual index, 3))
    (hpre : ∀ vm₁, s.WarmedH vm₁ → Pre ⟨T.setVm vm₁, locs, cells, slots⟩ (Value.ref b :: argsL).toArray) :
    (∃ (v : Option Value) (vm₁ : Vm) (B : Pt), s.WarmedH vm₁ ∧ Stand p l e R s m args below meth c B.U B.locs B.cells B.slots ∧ Post ⟨T.setVm vm₁, locs, cells, slots⟩ (Value.ref b :: argsL).toArray v B ∧
      ∀ target, Steps p.tables e below (B.U.setTop { g with pc := g.pc + 3, stack := v.toList ++ rest }) target → Steps p.tables e below (T.setTop g) target) ∨
    (∃ (q : Addr) (vm₁ : Vm) (B : Pt), s.WarmedH vm₁ ∧ Stand p l e R s m args below meth c B.U B.locs B.cells B.slots ∧ PostX ⟨T.setVm vm₁, locs, cells, slots⟩ (Value.ref b :: argsL).toArray q B ∧
      Steps p.tables e below (T.setTop g) ((B.U.setTop { g with stack := rest }).pushFrame (.throwing q))) := by
  obtain ⟨mk, methM, hnamed, hmethM, hstM, habM⟩ := Cond.instanceMethod_spec hinst
  obtain ⟨methM', cM, hmethM', -, -, -, -, -, -, hsigM⟩ := Cond.code_spec hnamed hcode
  cases hmethM.symm.trans hmethM'
  obtain ⟨c2, r2, m2, q1, q2, q3, q4, kP, hkP, hkPi⟩ := Cond.selects_spec hsel
  cases hcls.symm.trans q1
  cases (State.methodFound?_of_named hnamed hy).symm.trans q2
  cases hnamed.symm.trans q3
  have hselP : selectMethod e.platform s.vm cellB.cls mk = .method mk := by rw [Launch.admits_selectMethod X.admits]; exact q4
  obtain ⟨vm₁, X₁, hstep₁⟩ := X.invokevirtual hexec hown hlink hnamed hmethM hstM hkP hkPi hy (a := b) (cell := cellB) hcell
    (fun z h => by rw [h] at hobj; cases hobj) hselP hmethM habM hkP hkPi (g := g) hg (argsL := argsL) (rest := rest) (hlen _ hsigM) hstack hdg
  rcases hK m meth c ⟨T.setVm vm₁, locs, cells, slots⟩ { g with stack := rest } (.invokevirtual index) mk (Value.ref b :: argsL).toArray X₁ hg hsize hdg hW (X₁.named hnamed) (hpre vm₁ X₁.warmed) with ⟨v, B, X', hpost, hsteps⟩ | ⟨q, B, X', hpost, hsteps⟩
  · exact Or.inl ⟨v, vm₁, B, X₁.warmed, X', hpost, fun target h => hstep₁ _ fun acts => by rw [doInvoke_state]; exact hsteps.trans h⟩
  · exact Or.inr ⟨q, vm₁, B, X₁.warmed, X', hpost, hstep₁ _ fun acts => by rw [doInvoke_state]; exact hsteps⟩
theorem vx_callS (X : Stand p l e R s m args below meth c T locs cells slots) (hexec : p.tables.exec = Jvm.exec) {own : String} {index : Nat} {y : MethodName} {bytes : ByteArray} {maxL : Nat} {ret : Option FieldType}
    (hown : s.vm.findClass own = some m.cls) (hlink : (Cond.methodLink own index y).before args s = true) (hstat : (Cond.static y).before args s = true) (hinit : (Cond.initialized y.cls).before args s = true)
    (hcode : (Cond.code y bytes maxL ret).before args s = true) (hy : y.cls ≠ "java/lang/invoke/MethodHandle" ∧ y.cls ≠ "java/lang/invoke/VarHandle")
    {W9 : Nat} {Pre : Pt → Array Value → Prop} {Post : Pt → Array Value → Option Value → Pt → Prop} {PostX : Pt → Array Value → Addr → Pt → Prop} (hK : vx_Back l R p e below s args y 3 W9 Pre Post PostX)
    {g : JFrame} (hg : g.method = m) (hsize : g.locals.size = c.maxLocals) {argsL rest : List Value} (hlen : ∀ sig, parseMethodDescriptor y.desc = some sig → argsL.length = sig.parameters.length)
    (hstack : g.stack = argsL.reverse ++ rest) (hW : 2 * g.monitorRoom + (rest.map fun v => v.category).sum ≤ W9) (hdg : decode c.code g.pc = .ok (.invokestatic index, 3))
    (hpre : ∀ vm₁, s.WarmedH vm₁ → Pre ⟨T.setVm vm₁, locs, cells, slots⟩ argsL.toArray) :
    (∃ (v : Option Value) (vm₁ : Vm) (B : Pt), s.WarmedH vm₁ ∧ Stand p l e R s m args below meth c B.U B.locs B.cells B.slots ∧ Post ⟨T.setVm vm₁, locs, cells, slots⟩ argsL.toArray v B ∧
      ∀ target, Steps p.tables e below (B.U.setTop { g with pc := g.pc + 3, stack := v.toList ++ rest }) target → Steps p.tables e below (T.setTop g) target) ∨
    (∃ (q : Addr) (vm₁ : Vm) (B : Pt), s.WarmedH vm₁ ∧ Stand p l e R s m args below meth c B.U B.locs B.cells B.slots ∧ PostX ⟨T.setVm vm₁, locs, cells, slots⟩ argsL.toArray q B ∧
      Steps p.tables e below (T.setTop g) ((B.U.setTop { g with stack := rest }).pushFrame (.throwing q))) := by
  obtain ⟨mk, hnamed⟩ := Cond.code_named hcode
  obtain ⟨methM, cM, hmethM, -, -, -, -, -, -, hsigM⟩ := Cond.code_spec hnamed hcode
  have hstatic : methM.isStatic = true := Cond.static_spec hnamed hmethM hstat
  obtain ⟨kP, hkP, -⟩ := className_of_methodNamed hnamed
  have hinitP : kP.init = .initialized := Cond.initialized_spec (findClass_of_methodNamed hnamed) hkP hinit
  obtain ⟨vm₁, X₁, hstep₁⟩ := X.invokestatic hexec hown hlink hnamed hmethM hstatic hkP hinitP hy (g := g) hg (argsL := argsL) (rest := rest) (hlen _ hsigM) hstack hdg
  rcases hK m meth c ⟨T.setVm vm₁, locs, cells, slots⟩ { g with stack := rest } (.invokestatic index) mk argsL.toArray X₁ hg hsize hdg hW (X₁.named hnamed) (hpre vm₁ X₁.warmed) with ⟨v, B, X', hpost, hsteps⟩ | ⟨q, B, X', hpost, hsteps⟩
  · exact Or.inl ⟨v, vm₁, B, X₁.warmed, X', hpost, fun target h => hstep₁ _ fun acts => by rw [doInvoke_state]; exact hsteps.trans h⟩
  · exact Or.inr ⟨q, vm₁, B, X₁.warmed, X', hpost, hstep₁ _ fun acts => by rw [doInvoke_state]; exact hsteps⟩
end Calls
theorem vx_cls {s : State} {T : State} {vm₁ : Vm} {E : String} {k : ClassId} (hW : s.WarmedH vm₁) (h : (T.setVm vm₁).vm.findClass E = some k) : s.vm.findClass E = some k := by
  have h1 : vm₁.findClass E = some k := h
  rw [hW.alike.findClass] at h1
  exact h1
/-- the method's frame g, with q thrown over it -/
def vx_W (p : Program) (l : Launch) (e : Env) (R : Room) (s : State) (m : MethodId) (args : Array Value) (below : List Frame) (meth : Method) (c : Code) (H : Heap) (locs : List Loc) (cells slots : Nat) (Q : State → Prop) (g : JFrame) (q : Addr) : Prop :=
  ∀ T : State, T.heap = H → Stand p l e R s m args below meth c T locs cells slots → ∃ t, Steps p.tables e below ((T.setTop g).pushFrame (.throwing q)) t ∧ Q t
def vx_Run (p : Program) (l : Launch) (e : Env) (R : Room) (s : State) (m : MethodId) (args : Array Value) (below : List Frame) (meth : Method) (c : Code) (H : Heap) (locs : List Loc) (cells slots mc ms : Nat) (g : JFrame) (rest : List Value) (Qa : State → Outcome → State → Prop) (XC : String → State → State → Prop) (free : Addr → Prop) : Prop :=
  ∀ T : State, T.heap = H → Stand p l e R s m args below meth c T locs cells slots →
    (∃ (v : Option Value) (st₀ t T' : State) (L : List Loc), st₀.heap = H ∧ Stand p l e R s m args below meth c T' (locs ++ L) (cells + mc) (slots + ms) ∧ (∀ q ∈ L, free q.base) ∧ T'.heap = t.heap ∧ T'.vm = t.vm ∧ Qa st₀ (.returned v) t ∧
      Goes p e below T g T' { g with pc := g.pc + 3, stack := v.toList ++ rest }) ∨
    (∃ (q : Addr) (st₀ t T' : State) (L : List Loc) (E : String) (ce : Cell), st₀.heap = H ∧ Stand p l e R s m args below meth c T' (locs ++ L) (cells + mc) (slots + ms) ∧ (∀ z ∈ L, free z.base) ∧ T'.heap = t.heap ∧ T'.vm = t.vm ∧ XC E st₀ t ∧ t.heap[q]? = some ce ∧ ce.vm = .none ∧ s.vm.findClass E = some ce.cls ∧
      Steps p.tables e below (T.setTop g) ((T'.setTop { g with stack := rest }).pushFrame (.throwing q)))
def vx_X {S : Type} (px : S → Prop) (B : String → S → State → Prop) (A : Nat → Prop) : String → State → State → Prop := fun E st t => ∃ u : S, px u ∧ B E u t ∧ va_F A st t
section Runs
variable {p : Program} {l : Launch} {e : Env} {R : Room} {s : State} {m : MethodId} {args : Array Value} {below : List Frame} {meth : Method} {c : Code} {H : Heap} {locs : List Loc} {cells slots : Nat}
variable {y : MethodName} {bytes cc : ByteArray} {maxL nL mc ms n index : Nat} {ret : Option FieldType} {ws : List Cond} {rm : Room} {Pc : Array Value → State → Prop} {Qc : Array Value → State → Outcome → State → Prop} {XC : String → State → State → Prop} {free : Addr → Prop} {Ts : List Cond} {own C : String} {b : Addr} {As rest : List Value} {g : JFrame}
theorem vx_callBack (cb : CallB R s args own index y bytes maxL ret ws rm mc ms n) (hM : vx_Met l y ws rm Pc Qc XC mc ms free) (hbl : FrameBlind Pc) : vx_Back l R p e below s args y 3 8 (PreOf R mc ms Pc) (PostOf Qc mc ms free) (vx_Post XC mc ms free) := by
  obtain ⟨hrc, hrs, hfr, hlo, hws, hcw, -, hini, -⟩ := cb
  exact vx_back (bytes := bytes) (maxL := maxL) (ret := ret) hM hbl hrc hrs hfr hlo hws hcw (fun a' U hW => word_at hW (Or.inl (by first | rfl | simp [Cond.onTables, Cond.keeps, Cond.steady])) hini)
theorem vx_runV (S : CallFix p m c cc nL s args Ts own) (hM : vx_Met l y ws rm Pc Qc XC mc ms free) (cw : CallW R s args own C index y bytes maxL ret ws rm mc ms n) (hp : PreV s H C b Pc As)
    (hg : g.method = m) (hn : As.length = n) (hsize : g.locals.size = nL) (hstack : g.stack = As.reverse ++ .ref b :: rest) (hW : 2 * g.monitorRoom + (rest.map fun v => v.category).sum ≤ 8) (hdg : decode cc g.pc = .ok (.invokevirtual index, 3)) (hf : cells + mc ≤ R.cells ∧ slots + ms ≤ R.slots) :
    vx_Run p l e R s m args below meth c H locs cells slots mc ms g rest (Qc (Value.ref b :: As).toArray) XC free := by
  have hK : vx_Back l R p e below s args y 3 8 (PreOf R mc ms Pc) (PostOf Qc mc ms free) (vx_Post XC mc ms free) := vx_callBack cw.1 hM hp.1
  obtain ⟨⟨-, -, -, -, -, -, hcode, -, hy, hlen, hl⟩, hin, hse⟩ := cw
  obtain ⟨hx, hb, hml, ho, -⟩ := S
  obtain ⟨-, ⟨cellB, hcB, hoB, hclB⟩, hPc⟩ := hp
  intro T hT X
  rcases vx_callV X hx (C := C) (bytes := bytes) (maxL := maxL) (ret := ret) ho hl hin hse hcode hy hK (by rw [hT]; exact hcB) hoB hclB hg (hsize.trans hml.symm) (argsL := As) (rest := rest) (fun sig h => hn.trans (hlen sig h)) hstack hW (by rw [hb]; exact hdg)
    (fun vm₁ hW₁ => ⟨hf.1, hf.2, hPc (T.setVm vm₁) hT hW₁⟩) with ⟨v, vm₁, ⟨U', l2, c2, s2⟩, hW₁, X', ⟨g', mk, t, L, e1, e2, hq, h1, hL, h2, h3⟩, st⟩ | ⟨q, vm₁, ⟨U', l2, c2, s2⟩, hW₁, X', ⟨g', mk, t, L, E, ce, e1, e2, hq, hce, hcv, hcl, h1, hL, h2, h3⟩, st⟩
  · dsimp only [Pt.U, Pt.locs, Pt.cells, Pt.slots] at X' e1 e2 h1 h2 h3 st
    subst h1; subst h2; subst h3
    exact Or.inl ⟨v, (T.setVm vm₁).calling g' mk (Value.ref b :: As).toArray, t, U', L, hT, X', hL, e1, e2, hq, st⟩
  · dsimp only [Pt.U, Pt.locs, Pt.cells, Pt.slots] at X' e1 e2 h1 h2 h3 st hcl
    subst h1; subst h2; subst h3
    exact Or.inr ⟨q, (T.setVm vm₁).calling g' mk (Value.ref b :: As).toArray, t, U', L, E, ce, hT, X', hL, e1, e2, hq, hce, hcv, vx_cls hW₁ hcl, st⟩
theorem vx_runS (S : CallFix p m c cc nL s args Ts own) (hM : vx_Met l y ws rm Pc Qc XC mc ms free) (cw : CallB R s args own index y bytes maxL ret ws rm mc ms n ∧ (Cond.static y).before args s = true) (hp : PreS s H Pc As)
    (hg : g.method = m) (hn : As.length = n) (hsize : g.locals.size = nL) (hstack : g.stack = As.reverse ++ rest) (hW : 2 * g.monitorRoom + (rest.map fun v => v.category).sum ≤ 8) (hdg : decode cc g.pc = .ok (.invokestatic index, 3)) (hf : cells + mc ≤ R.cells ∧ slots + ms ≤ R.slots) :
    vx_Run p l e R s m args below meth c H locs cells slots mc ms g rest (Qc As.toArray) XC free := by
  have hK : vx_Back l R p e below s args y 3 8 (PreOf R mc ms Pc) (PostOf Qc mc ms free) (vx_Post XC mc ms free) := vx_callBack cw.1 hM hp.1
  obtain ⟨⟨-, -, -, -, -, -, hcode, hini, hy, hlen, hl⟩, hstt⟩ := cw
  obtain ⟨hx, hb, hml, ho, -⟩ := S
  intro T hT X
  rcases vx_callS X hx (bytes := bytes) (maxL := maxL) (ret := ret) ho hl hstt hini hcode hy hK hg (hsize.trans hml.symm) (argsL := As) (rest := rest) (fun sig h => hn.trans (hlen sig h)) hstack hW (by rw [hb]; exact hdg)
    (fun vm₁ hW₁ => ⟨hf.1, hf.2, hp.2 (T.setVm vm₁) hT hW₁⟩) with ⟨v, vm₁, ⟨U', l2, c2, s2⟩, hW₁, X', ⟨g', mk, t, L, e1, e2, hq, h1, hL, h2, h3⟩, st⟩ | ⟨q, vm₁, ⟨U', l2, c2, s2⟩, hW₁, X', ⟨g', mk, t, L, E, ce, e1, e2, hq, hce, hcv, hcl, h1, hL, h2, h3⟩, st⟩
  · dsimp only [Pt.U, Pt.locs, Pt.cells, Pt.slots] at X' e1 e2 h1 h2 h3 st
    subst h1; subst h2; subst h3
    exact Or.inl ⟨v, (T.setVm vm₁).calling g' mk As.toArray, t, U', L, hT, X', hL, e1, e2, hq, st⟩
  · dsimp only [Pt.U, Pt.locs, Pt.cells, Pt.slots] at X' e1 e2 h1 h2 h3 st hcl
    subst h1; subst h2; subst h3
    exact Or.inr ⟨q, (T.setVm vm₁).calling g' mk As.toArray, t, U', L, E, ce, hT, X', hL, e1, e2, hq, hce, hcv, vx_cls hW₁ hcl, st⟩
end Runs
section Rows
variable {p : Program} {l : Launch} {e : Env} {R : Room} {s : State} {m : MethodId} {args : Array Value} {below : List Frame} {meth : Method} {c : Code} {H : Heap} {locs : List Loc} {cells slots : Nat} {Q : State → Prop}
variable {mc ms : Nat} {free : Addr → Prop} {A0 A1 : Nat → Prop} {H0 : Heap} {a : Array Value} {pc : Nat} {ls : Array Slot} {st0 rest : List Value}
theorem vx_keep {st₀ t T' : State} {L : List Loc} (h0 : st₀.heap = H) (e1 : T'.heap = t.heap) (hS : va_S A0 H0 H locs) (hA : ∀ q, q < H.size → A1 q → A0 q) (hf : ∀ q, free q → A0 q) (hL : ∀ q ∈ L, free q.base) (hF : va_F A1 st₀ t) :
    H.size ≤ T'.heap.size ∧ (∀ q : Nat, q < H.size → ¬ A1 q → T'.heap[q]? = H[q]?) ∧ va_S A0 H0 T'.heap (locs ++ L) := by
  obtain ⟨hz, hk⟩ := hF
  rw [h0] at hz hk
  exact ⟨by rw [e1]; exact hz, fun q h1 h2 => by rw [e1]; exact hk q h1 h2,
    ⟨Nat.le_trans hS.1 (by rw [e1]; exact hz), fun q h1 h2 => by rw [e1, hk q (Nat.lt_of_lt_of_le h1 hS.1) (fun z => h2 (hA q (Nat.lt_of_lt_of_le h1 hS.1) z))]; exact hS.2.1 q h1 h2, fun q hq => by
      rcases List.mem_append.mp hq with h | h
      · exact hS.2.2 q h
      · exact hf _ (hL q h)⟩⟩
theorem vx_calli {S SX : Type} {post : Int32 → S → Prop} {px : SX → Prop} {B : S → State → Prop} {BX : String → SX → State → Prop} {AX : Nat → Prop} (hr : vx_Run p l e R s m args below meth c H locs cells slots mc ms (F0 m pc ls st0) rest (va_Qi post B A1 a) (vx_X px BX AX) free) (hS : va_S A0 H0 H locs) (hA : ∀ q, q < H.size → A1 q → A0 q) (hf : ∀ q, free q → A0 q) (hAX : ∀ q, q < H.size → AX q → A0 q)
    (kx : ∀ (E : String) (ce : Cell) (q9 : Addr) (u : SX) (t : State) (H1 : Heap) (locs1 : List Loc), t.heap = H1 → s.vm.Alike t.vm → px u → BX E u t → H.size ≤ H1.size → (∀ q : Nat, q < H.size → ¬ AX q → H1[q]? = H[q]?) → va_S A0 H0 H1 locs1 → H1[q9]? = some ce → ce.vm = .none → s.vm.findClass E = some ce.cls → vx_W p l e R s m args below meth c H1 locs1 (cells + mc) (slots + ms) Q (F0 m pc ls rest) q9)
    (kk : ∀ (r : Int32) (u : S) (t : State) (H1 : Heap) (locs1 : List Loc), t.heap = H1 → s.vm.Alike t.vm → post r u → B u t → H.size ≤ H1.size → (∀ q : Nat, q < H.size → ¬ A1 q → H1[q]? = H[q]?) → va_S A0 H0 H1 locs1 → W p l e R s m args below meth c H1 locs1 (cells + mc) (slots + ms) Q (F0 m (pc + 3) ls (.int r :: rest))) : W p l e R s m args below meth c H locs cells slots Q (F0 m pc ls st0) := by
  intro T hT X
  rcases hr T hT X with ⟨v, st₀, t, T', L, h0, X', hL, e1, e2, ⟨⟨r, u, hv, hp, hb⟩, hF⟩, st⟩ | ⟨q, st₀, t, T', L, E, ce, h0, X', hL, e1, e2, ⟨u, hp, hb, hF⟩, hce, hcv, hcl, st⟩
  · cases hv
    obtain ⟨k1, k2, k3⟩ := vx_keep h0 e1 hS hA hf hL hF
    obtain ⟨t2, a1, b1⟩ := kk r u t T'.heap (locs ++ L) e1.symm (by rw [← e2]; exact X'.warmed.alike) hp hb k1 k2 k3 T' rfl X'
    exact ⟨t2, st t2 a1, b1⟩
  · obtain ⟨k1, k2, k3⟩ := vx_keep h0 e1 hS hAX hf hL hF
    obtain ⟨t2, a1, b1⟩ := kx E ce q u t T'.heap (locs ++ L) e1.symm (by rw [← e2]; exact X'.warmed.alike) hp hb k1 k2 k3 (by rw [e1]; exact hce) hcv hcl T' rfl X'
    exact ⟨t2, st.trans a1, b1⟩
theorem vx_calll {S SX : Type} {post : Int64 → S → Prop} {px : SX → Prop} {B : S → State → Prop} {BX : String → SX → State → Prop} {AX : Nat → Prop} (hr : vx_Run p l e R s m args below meth c H locs cells slots mc ms (F0 m pc ls st0) rest (va_Ql post B A1 a) (vx_X px BX AX) free) (hS : va_S A0 H0 H locs) (hA : ∀ q, q < H.size → A1 q → A0 q) (hf : ∀ q, free q → A0 q) (hAX : ∀ q, q < H.size → AX q → A0 q)
    (kx : ∀ (E : String) (ce : Cell) (q9 : Addr) (u : SX) (t : State) (H1 : Heap) (locs1 : List Loc), t.heap = H1 → s.vm.Alike t.vm → px u → BX E u t → H.size ≤ H1.size → (∀ q : Nat, q < H.size → ¬ AX q → H1[q]? = H[q]?) → va_S A0 H0 H1 locs1 → H1[q9]? = some ce → ce.vm = .none → s.vm.findClass E = some ce.cls → vx_W p l e R s m args below meth c H1 locs1 (cells + mc) (slots + ms) Q (F0 m pc ls rest) q9)
    (kk : ∀ (r : Int64) (u : S) (t : State) (H1 : Heap) (locs1 : List Loc), t.heap = H1 → s.vm.Alike t.vm → post r u → B u t → H.size ≤ H1.size → (∀ q : Nat, q < H.size → ¬ A1 q → H1[q]? = H[q]?) → va_S A0 H0 H1 locs1 → W p l e R s m args below meth c H1 locs1 (cells + mc) (slots + ms) Q (F0 m (pc + 3) ls (.long r :: rest))) : W p l e R s m args below meth c H locs cells slots Q (F0 m pc ls st0) := by
  intro T hT X
  rcases hr T hT X with ⟨v, st₀, t, T', L, h0, X', hL, e1, e2, ⟨⟨r, u, hv, hp, hb⟩, hF⟩, st⟩ | ⟨q, st₀, t, T', L, E, ce, h0, X', hL, e1, e2, ⟨u, hp, hb, hF⟩, hce, hcv, hcl, st⟩
  · cases hv
    obtain ⟨k1, k2, k3⟩ := vx_keep h0 e1 hS hA hf hL hF
    obtain ⟨t2, a1, b1⟩ := kk r u t T'.heap (locs ++ L) e1.symm (by rw [← e2]; exact X'.warmed.alike) hp hb k1 k2 k3 T' rfl X'
    exact ⟨t2, st t2 a1, b1⟩
  · obtain ⟨k1, k2, k3⟩ := vx_keep h0 e1 hS hAX hf hL hF
    obtain ⟨t2, a1, b1⟩ := kx E ce q u t T'.heap (locs ++ L) e1.symm (by rw [← e2]; exact X'.warmed.alike) hp hb k1 k2 k3 (by rw [e1]; exact hce) hcv hcl T' rfl X'
    exact ⟨t2, st.trans a1, b1⟩
theorem vx_callf {S SX : Type} {post : UInt32 → S → Prop} {px : SX → Prop} {B : S → State → Prop} {BX : String → SX → State → Prop} {AX : Nat → Prop} (hr : vx_Run p l e R s m args below meth c H locs cells slots mc ms (F0 m pc ls st0) rest (va_Qf post B A1 a) (vx_X px BX AX) free) (hS : va_S A0 H0 H locs) (hA : ∀ q, q < H.size → A1 q → A0 q) (hf : ∀ q, free q → A0 q) (hAX : ∀ q, q < H.size → AX q → A0 q)
    (kx : ∀ (E : String) (ce : Cell) (q9 : Addr) (u : SX) (t : State) (H1 : Heap) (locs1 : List Loc), t.heap = H1 → s.vm.Alike t.vm → px u → BX E u t → H.size ≤ H1.size → (∀ q : Nat, q < H.size → ¬ AX q → H1[q]? = H[q]?) → va_S A0 H0 H1 locs1 → H1[q9]? = some ce → ce.vm = .none → s.vm.findClass E = some ce.cls → vx_W p l e R s m args below meth c H1 locs1 (cells + mc) (slots + ms) Q (F0 m pc ls rest) q9)
    (kk : ∀ (r : UInt32) (u : S) (t : State) (H1 : Heap) (locs1 : List Loc), t.heap = H1 → s.vm.Alike t.vm → post r u → B u t → H.size ≤ H1.size → (∀ q : Nat, q < H.size → ¬ A1 q → H1[q]? = H[q]?) → va_S A0 H0 H1 locs1 → W p l e R s m args below meth c H1 locs1 (cells + mc) (slots + ms) Q (F0 m (pc + 3) ls (.float r :: rest))) : W p l e R s m args below meth c H locs cells slots Q (F0 m pc ls st0) := by
  intro T hT X
  rcases hr T hT X with ⟨v, st₀, t, T', L, h0, X', hL, e1, e2, ⟨⟨r, u, hv, hp, hb⟩, hF⟩, st⟩ | ⟨q, st₀, t, T', L, E, ce, h0, X', hL, e1, e2, ⟨u, hp, hb, hF⟩, hce, hcv, hcl, st⟩
  · cases hv
    obtain ⟨k1, k2, k3⟩ := vx_keep h0 e1 hS hA hf hL hF
    obtain ⟨t2, a1, b1⟩ := kk r u t T'.heap (locs ++ L) e1.symm (by rw [← e2]; exact X'.warmed.alike) hp hb k1 k2 k3 T' rfl X'
    exact ⟨t2, st t2 a1, b1⟩
  · obtain ⟨k1, k2, k3⟩ := vx_keep h0 e1 hS hAX hf hL hF
    obtain ⟨t2, a1, b1⟩ := kx E ce q u t T'.heap (locs ++ L) e1.symm (by rw [← e2]; exact X'.warmed.alike) hp hb k1 k2 k3 (by rw [e1]; exact hce) hcv hcl T' rfl X'
    exact ⟨t2, st.trans a1, b1⟩
theorem vx_calld {S SX : Type} {post : UInt64 → S → Prop} {px : SX → Prop} {B : S → State → Prop} {BX : String → SX → State → Prop} {AX : Nat → Prop} (hr : vx_Run p l e R s m args below meth c H locs cells slots mc ms (F0 m pc ls st0) rest (va_Qd post B A1 a) (vx_X px BX AX) free) (hS : va_S A0 H0 H locs) (hA : ∀ q, q < H.size → A1 q → A0 q) (hf : ∀ q, free q → A0 q) (hAX : ∀ q, q < H.size → AX q → A0 q)
    (kx : ∀ (E : String) (ce : Cell) (q9 : Addr) (u : SX) (t : State) (H1 : Heap) (locs1 : List Loc), t.heap = H1 → s.vm.Alike t.vm → px u → BX E u t → H.size ≤ H1.size → (∀ q : Nat, q < H.size → ¬ AX q → H1[q]? = H[q]?) → va_S A0 H0 H1 locs1 → H1[q9]? = some ce → ce.vm = .none → s.vm.findClass E = some ce.cls → vx_W p l e R s m args below meth c H1 locs1 (cells + mc) (slots + ms) Q (F0 m pc ls rest) q9)
    (kk : ∀ (r : UInt64) (u : S) (t : State) (H1 : Heap) (locs1 : List Loc), t.heap = H1 → s.vm.Alike t.vm → post r u → B u t → H.size ≤ H1.size → (∀ q : Nat, q < H.size → ¬ A1 q → H1[q]? = H[q]?) → va_S A0 H0 H1 locs1 → W p l e R s m args below meth c H1 locs1 (cells + mc) (slots + ms) Q (F0 m (pc + 3) ls (.double r :: rest))) : W p l e R s m args below meth c H locs cells slots Q (F0 m pc ls st0) := by
  intro T hT X
  rcases hr T hT X with ⟨v, st₀, t, T', L, h0, X', hL, e1, e2, ⟨⟨r, u, hv, hp, hb⟩, hF⟩, st⟩ | ⟨q, st₀, t, T', L, E, ce, h0, X', hL, e1, e2, ⟨u, hp, hb, hF⟩, hce, hcv, hcl, st⟩
  · cases hv
    obtain ⟨k1, k2, k3⟩ := vx_keep h0 e1 hS hA hf hL hF
    obtain ⟨t2, a1, b1⟩ := kk r u t T'.heap (locs ++ L) e1.symm (by rw [← e2]; exact X'.warmed.alike) hp hb k1 k2 k3 T' rfl X'
    exact ⟨t2, st t2 a1, b1⟩
  · obtain ⟨k1, k2, k3⟩ := vx_keep h0 e1 hS hAX hf hL hF
    obtain ⟨t2, a1, b1⟩ := kx E ce q u t T'.heap (locs ++ L) e1.symm (by rw [← e2]; exact X'.warmed.alike) hp hb k1 k2 k3 (by rw [e1]; exact hce) hcv hcl T' rfl X'
    exact ⟨t2, st.trans a1, b1⟩
theorem vx_callv {S SX : Type} {post : S → Prop} {px : SX → Prop} {B : S → State → Prop} {BX : String → SX → State → Prop} {AX : Nat → Prop} (hr : vx_Run p l e R s m args below meth c H locs cells slots mc ms (F0 m pc ls st0) rest (va_Qv post B A1 a) (vx_X px BX AX) free) (hS : va_S A0 H0 H locs) (hA : ∀ q, q < H.size → A1 q → A0 q) (hf : ∀ q, free q → A0 q) (hAX : ∀ q, q < H.size → AX q → A0 q)
    (kx : ∀ (E : String) (ce : Cell) (q9 : Addr) (u : SX) (t : State) (H1 : Heap) (locs1 : List Loc), t.heap = H1 → s.vm.Alike t.vm → px u → BX E u t → H.size ≤ H1.size → (∀ q : Nat, q < H.size → ¬ AX q → H1[q]? = H[q]?) → va_S A0 H0 H1 locs1 → H1[q9]? = some ce → ce.vm = .none → s.vm.findClass E = some ce.cls → vx_W p l e R s m args below meth c H1 locs1 (cells + mc) (slots + ms) Q (F0 m pc ls rest) q9)
    (kk : ∀ (u : S) (t : State) (H1 : Heap) (locs1 : List Loc), t.heap = H1 → s.vm.Alike t.vm → post u → B u t → H.size ≤ H1.size → (∀ q : Nat, q < H.size → ¬ A1 q → H1[q]? = H[q]?) → va_S A0 H0 H1 locs1 → W p l e R s m args below meth c H1 locs1 (cells + mc) (slots + ms) Q (F0 m (pc + 3) ls (rest))) : W p l e R s m args below meth c H locs cells slots Q (F0 m pc ls st0) := by
  intro T hT X
  rcases hr T hT X with ⟨v, st₀, t, T', L, h0, X', hL, e1, e2, ⟨⟨u, hv, hp, hb⟩, hF⟩, st⟩ | ⟨q, st₀, t, T', L, E, ce, h0, X', hL, e1, e2, ⟨u, hp, hb, hF⟩, hce, hcv, hcl, st⟩
  · cases hv
    obtain ⟨k1, k2, k3⟩ := vx_keep h0 e1 hS hA hf hL hF
    obtain ⟨t2, a1, b1⟩ := kk u t T'.heap (locs ++ L) e1.symm (by rw [← e2]; exact X'.warmed.alike) hp hb k1 k2 k3 T' rfl X'
    exact ⟨t2, st t2 a1, b1⟩
  · obtain ⟨k1, k2, k3⟩ := vx_keep h0 e1 hS hAX hf hL hF
    obtain ⟨t2, a1, b1⟩ := kx E ce q u t T'.heap (locs ++ L) e1.symm (by rw [← e2]; exact X'.warmed.alike) hp hb k1 k2 k3 (by rw [e1]; exact hce) hcv hcl T' rfl X'
    exact ⟨t2, st.trans a1, b1⟩
/-- caught by the row x of this method's table; the rows ahead don't take it -/
theorem vx_catch {own name : String} {E : String} {ce : Cell} {q : Addr} (hown : s.vm.findClass own = some m.cls) (pre : List ExceptionTableEntry) (x : ExceptionTableEntry) (suf : List ExceptionTableEntry) (hsplit : c.exceptionTable.toList = pre ++ x :: suf)
    (hpass : ∀ z ∈ pre, covers z pc = false ∨ (z.catchType ≠ 0 ∧ ∃ nm : String, (Cond.classLink own z.catchType nm).before args s = true ∧ va_Nc E nm s)) (hx : covers x pc = true) (h0 : x.catchType ≠ 0)
    (hlink : (Cond.classLink own x.catchType name).before args s = true) (hcast : (Cond.castable E name).before args s = true) (hcell : H[q]? = some ce) (hv : ce.vm = .none) (hcl : s.vm.findClass E = some ce.cls)
    (kk : W p l e R s m args below meth c H locs cells slots Q (F0 m x.handlerPc ls [.ref q])) : vx_W p l e R s m args below meth c H locs cells slots Q (F0 m pc ls rest) q := by
  intro T hT X
  have hpl : e.platform.magicAccessors = ({} : Platform).magicAccessors := by rw [X.admits.platform]
  obtain ⟨c3, c4, hc3, hc4, hasg⟩ := Cond.castable_spec hcast
  cases Option.some.inj (hc3.symm.trans hcl)
  obtain ⟨c5, hc5, hcl5⟩ := Cond.classLink_spec hown hlink e.platform hpl
  cases Option.some.inj (hc4.symm.trans hc5)
  obtain ⟨vm', X', st⟩ := X.thenCaughtThrough q (g := F0 m pc ls rest) rfl (Steps.refl _) (by rw [hT]; exact hcell) (by rw [hv]; rfl) (by obtain ⟨k9, h9, -⟩ := Vm.findClass_spec hcl; exact ⟨k9, h9⟩) pre x suf hsplit
    (fun z hz => by
      rcases hpass z hz with h | ⟨hz0, nm, hl1, hn1⟩
      · exact Or.inl h
      · obtain ⟨c6, hc6, hcl6⟩ := Cond.classLink_spec hown hl1 e.platform hpl
        obtain ⟨a8, b8, h1, h2, h3⟩ := hn1
        cases Option.some.inj (h1.symm.trans hcl)
        cases Option.some.inj (h2.symm.trans hc6)
        exact Or.inr ⟨hz0, _, hcl6, h3⟩) hx (Or.inr ⟨h0, c4, hcl5, hasg⟩)
  obtain ⟨t, a1, b1⟩ := kk (T.setVm vm') hT X'
  exact ⟨t, st.trans a1, b1⟩
end Rows
section Ends
variable {p : Program} {l : Launch} {e : Env} {R : Room} {s : State} {m : MethodId} {args : Array Value} {below : List Frame} {meth : Method} {c : Code} {H : Heap} {locs : List Loc} {cells slots : Nat} {Q : State → Prop}
variable {mc ms : Nat} {free : Addr → Prop} {A0 A1 : Nat → Prop} {H0 : Heap} {a : Array Value} {ls : Array Slot} {st0 rest : List Value}
variable {Qc : Array Value → State → Outcome → State → Prop} {XC : String → State → State → Prop}
/-- what a body that may throw owes at its end -/
def vx_MQ (below : List Frame) (Qc : Array Value → State → Outcome → State → Prop) (XC : String → State → State → Prop) (a : Array Value) (s : State) (mc ms : Nat) (free : Addr → Prop) : State → Prop := fun t =>
  ∃ o, t.status = .running ∧ Ended t below o ∧ vx_Q Qc XC mc ms free a s o t
theorem vx_ret {g : JFrame} {mc ms : Nat} (k : W p l e R s m args below meth c H locs cells slots (MQ below Qc args s mc ms free) g) : W p l e R s m args below meth c H locs cells slots (vx_MQ below Qc XC args s mc ms free) g := by
  intro T hT X
  obtain ⟨t, a1, o, b1, b2, b3, b4⟩ := k T hT X
  exact ⟨t, a1, o, b1, b2, Or.inl ⟨b3, b4⟩⟩
/-- not caught here: it goes on to the caller -/
theorem vx_widen {g : JFrame} {q : Addr} {k n : Nat} (h1 : cells ≤ k) (h2 : slots ≤ n) (kk : vx_W p l e R s m args below meth c H locs k n Q g q) : vx_W p l e R s m args below meth c H locs cells slots Q g q := fun T hT X => kk T hT (stand_widen X h1 h2)
theorem vx_out {pc : Nat} {E : String} {ce : Cell} {q : Addr} {mc ms : Nat} (hout : ∀ x ∈ c.exceptionTable.toList, covers x pc = false) (hlocks : meth.locks = false) (hcell : H[q]? = some ce) (hv : ce.vm = .none) (hcl : s.vm.findClass E = some ce.cls)
    (hx : ∀ t : State, t.heap = H → s.vm.Alike t.vm → XC E s t) (hf : ∀ z ∈ locs, free z.base) (hc : cells ≤ mc) (hs : slots ≤ ms) :
    vx_W p l e R s m args below meth c H locs cells slots (vx_MQ below Qc XC args s mc ms free) (F0 m pc ls rest) q := by
  intro T hT X
  obtain ⟨st1, hrun, hend, hW, hsm⟩ := X.leaveThrown q (g := F0 m pc ls rest) rfl rfl rfl hout hlocks
  have hcell9 : (T.setFrames (.throwing q :: below)).heap[q]? = some ce := by
    show T.heap[q]? = some ce
    rw [hT]; exact hcell
  exact ⟨_, st1, .threw q, hrun, hend, Or.inr ⟨q, rfl, E, ce, locs, hx _ hT hW.alike, hcell9, hv, hcl, hW, hsm.mono hc hs, hf⟩⟩
theorem vx_frame {U : State} {k n : Nat} (h : s.sameButNew ({ U with vm := s.vm } : State) locs k n) : s.heap.size ≤ U.heap.size ∧ ∀ q : Nat, q < s.heap.size → (∀ z ∈ locs, z.base ≠ q) → U.heap[q]? = s.heap[q]? := by
  obtain ⟨-, h2, -, -, -, h6⟩ := h
  refine ⟨h2, fun q hq hz => ?_⟩
  obtain ⟨c9, e1, e2, e3, e4⟩ := h6 q _ (Array.getElem?_eq_getElem hq)
  have hs : c9.slots = (s.heap[q]).slots := Array.ext_getElem? fun i => e4 i fun hm => hz _ hm rfl
  have h9 : c9 = s.heap[q] := by
    rw [hs] at e2
    exact e2
  have e5 : U.heap[q]? = some c9 := e1
  rw [e5, h9, Array.getElem?_eq_getElem hq]
/-- the words of a throw but the four that speak of the heap -/
def vx_no (w : Cond) : Bool := decide (w ≠ .isRef (.static Bundle.tN "UNASSIGNED_STACK" Bundle.steD)) && decide (w ≠ .isRef (.static Bundle.tN "SUPPRESSED_SENTINEL" Bundle.listD)) && decide (w ≠ .laysStatic Bundle.tN "UNASSIGNED_STACK" Bundle.steD) && decide (w ≠ .laysStatic Bundle.tN "SUPPRESSED_SENTINEL" Bundle.listD)
def vx_at0 (own : String) (ic : Nat) (X : String) (names : List String) : List Cond := (Bundle.ownAtoms0 own ic X names).filter vx_no
def vx_atS (own : String) (ic : Nat) (X : String) (names : List String) : List Cond := (Bundle.ownAtoms own ic X names).filter vx_no
/-- a word that the tables alone decide, or a good one -/
def vx_ot (w : Cond) : Bool := w.onTables || goodWord w
theorem vx_ot_at {args a' : Array Value} {s U : State} {w : Cond} (hW : s.WarmedH U.vm) (hvm : s.vm = U.vm) (hg : vx_ot w = true) (h : w.before args s = true) : w.before a' U = true := by
  simp only [vx_ot, Bool.or_eq_true] at hg
  rcases hg with hg | hg
  · exact va_tabs hg hvm h
  · exact word_at hW (good_of_word hg) h
/-- a list's words: the good ones out of the method's own list, the others by premises of their own -/
theorem vx_hat {args : Array Value} {s : State} {L B : List Cond} (h1 : ∀ w ∈ L.filter goodWord, w.before args s = true) (h2 : ∀ w ∈ L.filter (fun w => !goodWord w), w ∈ B) (h3 : ∀ w ∈ B, w.before args s = true) : ∀ w ∈ L, w.before args s = true := by
  intro w hw
  by_cases g : goodWord w = true
  · exact h1 w (List.mem_filter.mpr ⟨hw, g⟩)
  · refine h3 w (h2 w (List.mem_filter.mpr ⟨hw, ?_⟩))
    show (!goodWord w) = true
    cases hgw : goodWord w
    · rfl
    · exact absurd hgw g
theorem vx_c {args : Array Value} {s : State} {w : Cond} {B : List Cond} (h : w.before args s = true) (t : ∀ w ∈ B, w.before args s = true) : ∀ w' ∈ w :: B, w'.before args s = true := fun w' h' => (List.mem_cons.mp h').elim (fun e => by rw [e]; exact h) (t w')
theorem vx_n {args : Array Value} {s : State} : ∀ w ∈ ([] : List Cond), w.before args s = true := fun _ h => nomatch h
theorem vx_own {args : Array Value} {s : State} {L : List Cond} (h1 : ∀ w ∈ L.filter vx_no, w.before args s = true)
    (hU : (Cond.isRef (.static Bundle.tN "UNASSIGNED_STACK" Bundle.steD)).before args s = true) (hN : (Cond.isRef (.static Bundle.tN "SUPPRESSED_SENTINEL" Bundle.listD)).before args s = true)
    (lU : (Cond.laysStatic Bundle.tN "UNASSIGNED_STACK" Bundle.steD).before args s = true) (lN : (Cond.laysStatic Bundle.tN "SUPPRESSED_SENTINEL" Bundle.listD).before args s = true) : ∀ w ∈ L, w.before args s = true := by
  intro w hw
  by_cases e1 : w = .isRef (.static Bundle.tN "UNASSIGNED_STACK" Bundle.steD)
  · rw [e1]; exact hU
  · by_cases e2 : w = .isRef (.static Bundle.tN "SUPPRESSED_SENTINEL" Bundle.listD)
    · rw [e2]; exact hN
    · by_cases e3 : w = .laysStatic Bundle.tN "UNASSIGNED_STACK" Bundle.steD
      · rw [e3]; exact lU
      · by_cases e4 : w = .laysStatic Bundle.tN "SUPPRESSED_SENTINEL" Bundle.listD
        · rw [e4]; exact lN
        · exact h1 w (List.mem_filter.mpr ⟨hw, by unfold vx_no; rw [decide_eq_true e1, decide_eq_true e2, decide_eq_true e3, decide_eq_true e4]; rfl⟩)
/-- where a static field lies, its class's statics cell in H -/
def vx_L (C n d : String) (A : Nat → Prop) (U : State) (H : Heap) : Prop := ∃ (c : ClassId) (k : Class) (i : Nat) (f : Field) (a : Nat) (cell : Cell), U.vm.findClass C = some c ∧ U.fieldFound? C n d = some (c, k, i, f) ∧ f.isStatic = true ∧ k.statics = some a ∧ H[a]? = some cell ∧ cell.vm.isStatics = true ∧ cell.cls = c ∧ f.slot < cell.slots.size ∧ k.staticTypes[f.slot]? = some f.type ∧ ¬ A a
theorem vx_L.moved {C n d : String} {A : Nat → Prop} {u U : State} {H : Heap} (hvm : u.vm.Alike U.vm) (h : vx_L C n d A u H) : vx_L C n d A U H := by
  obtain ⟨c, k, i, f, a, cell, h1, h2, h3, h4, h5, h6, h7, h8, h9, h10⟩ := h
  obtain ⟨k', hi', he⟩ := State.fieldFound?_setVm hvm h2
  exact ⟨c, k', i, f, a, cell, by rw [hvm.findClass]; exact h1, hi', h3, by rw [he]; exact h4, h5, h6, h7, h8, by rw [he]; exact h9, h10⟩
theorem vx_L.kept {C n d : String} {A : Nat → Prop} {U : State} {H H1 : Heap} (h : vx_L C n d A U H) (hq : ∀ a : Nat, a < H.size → ¬ A a → H1[a]? = H[a]?) : vx_L C n d A U H1 := by
  obtain ⟨c, k, i, f, a, cell, h1, h2, h3, h4, h5, h6, h7, h8, h9, h10⟩ := h
  exact ⟨c, k, i, f, a, cell, h1, h2, h3, h4, by rw [hq a (Array.getElem?_eq_some_iff.mp h5).1 h10]; exact h5, h6, h7, h8, h9, h10⟩
theorem vx_L.narrow {C n d : String} {A B : Nat → Prop} {U : State} {H : Heap} (h : vx_L C n d A U H) (hAB : ∀ q, B q → A q) : vx_L C n d B U H := by
  obtain ⟨c, k, i, f, a, cell, h1, h2, h3, h4, h5, h6, h7, h8, h9, h10⟩ := h
  exact ⟨c, k, i, f, a, cell, h1, h2, h3, h4, h5, h6, h7, h8, h9, fun z => h10 (hAB _ z)⟩
theorem vx_L.word {C n d : String} {A : Nat → Prop} {s : State} {args : Array Value} (h : vx_L C n d A s s.heap) : (Cond.laysStatic C n d).before args s = true := by
  obtain ⟨c, k, i, f, a, cell, h1, h2, h3, h4, h5, h6, h7, h8, h9, -⟩ := h
  show (Cond.laysStatic C n d).holds args s none s [] = true
  exact Cond.laysStatic_of h1 h2 h3 h4 h5 h6 h7 h8 h9
/-- .. and what it holds: null or some reference -/
def vx_Zq (C n d : String) (A : Nat → Prop) (U : State) (H : Heap) : Prop := va_Zq C n d A U H ∧ vx_L C n d A U H
theorem vx_Zq.moved {C n d : String} {A : Nat → Prop} {u U : State} {H : Heap} (hvm : u.vm.Alike U.vm) (h : vx_Zq C n d A u H) : vx_Zq C n d A U H := ⟨va_Zq.moved hvm h.1, vx_L.moved hvm h.2⟩
theorem vx_Zq.kept {C n d : String} {A : Nat → Prop} {U : State} {H H1 : Heap} (h : vx_Zq C n d A U H) (hq : ∀ a : Nat, a < H.size → ¬ A a → H1[a]? = H[a]?) : vx_Zq C n d A U H1 := ⟨va_Zq.kept h.1 hq, vx_L.kept h.2 hq⟩
theorem vx_Zq.narrow {C n d : String} {A B : Nat → Prop} {U : State} {H : Heap} (h : vx_Zq C n d A U H) (hAB : ∀ q, B q → A q) : vx_Zq C n d B U H := ⟨va_Zq.narrow h.1 hAB, vx_L.narrow h.2 hAB⟩
theorem vx_Zqof {args : Array Value} {s : State} {C n d : String} {A : Nat → Prop} (hl : (Cond.laysStatic C n d).before args s = true) (hini : (Cond.initialized C).before args s = true) (h : (Cond.isRef (.static C n d)).before args s = true) (hA : ∀ a : Nat, a < s.heap.size → ¬ A a) : vx_Zq C n d A s s.heap := by
  refine ⟨va_Zqof hl hini h hA, ?_⟩
  obtain ⟨c, k, i, f, a, cell, h1, h2, h3, h4, h5, h6, h7, h8, h9⟩ := Cond.laysStatic_spec hl
  exact ⟨c, k, i, f, a, cell, h1, h2, h3, h4, h5, h6, h7, h8, h9, hA a (Array.getElem?_eq_some_iff.mp h5).1⟩
theorem vx_isRef {C n d : String} {v : Value} {A : Nat → Prop} {s : State} {args : Array Value} (h : va_Z C n d v A s s.heap) (hv : v.isRef = true) : (Cond.isRef (.static C n d)).before args s = true := by
  obtain ⟨cf, kf, fi, f, a, cell, h1, h2, h3, h4, h5, h6, h7, -⟩ := h
  have he : (Term.static C n d).eval args s none [] s = some v := by
    simp [Term.eval, State.fieldNamed?, h1, h2, h4, h5, h6, h7]
  simp only [Cond.before, Cond.holds, Cond.value, he]
  cases v <;> simp_all [Value.isRef]
theorem vx_isRefq {C n d : String} {A : Nat → Prop} {s : State} {args : Array Value} (h : va_Zq C n d A s s.heap) : (Cond.isRef (.static C n d)).before args s = true := by
  rcases h with h | ⟨t, h⟩
  · exact vx_isRef h rfl
  · exact vx_isRef h rfl
/-- the same frame, seen from here: as if the method were called anew in this heap -/
theorem vx_rebase {T : State} (X : Stand p l e R s m args below meth c T locs cells slots) {R' : Room} (hf : R'.frames ≤ R.frames) (hl : R'.locals ≤ R.locals) (hc : cells + R'.cells ≤ R.cells) (hs : slots + R'.slots ≤ R.slots) :
    Stand p l e R' ((T.setVm s.vm).setFrames (.invoking m args :: below)) m args below meth c T [] 0 0 := by
  have htop : (T.setVm s.vm).topJava?.isSome := X.here.top
  have hF : ((T.setVm s.vm).setFrames (.invoking m args :: below)).frames = .invoking m args :: below := State.frames_setFrames _ (State.cur_lt_of_top htop)
  obtain ⟨g₀, hg0⟩ := Option.isSome_iff_exists.mp htop
  obtain ⟨r, hr⟩ := State.topJava?_eq_some.mp hg0
  have hl9 : e.platform.stackLimits (T.setVm s.vm).me = e.platform.stackLimits s.me := X.limits
  have hb9 : (T.setVm s.vm).me.stackBytes = s.me.stackBytes := X.bytes
  refine ⟨X.admits, X.cas, X.clock, hF, ?_, X.hears, X.method, X.code, X.here, X.tail, X.warmed, ?_, ?_, ?_⟩
  · have h := X.room
    have hU : ((T.setVm s.vm).setFrames (.invoking m args :: below)).localsInUse = s.localsInUse := by
      rw [State.localsInUse_invoking hF (meth := meth) (c := c) X.method X.code, State.localsInUse_invoking X.frames X.method X.code]
    simp only [State.hasRoom, Bool.and_eq_true, decide_eq_true_eq] at h ⊢
    obtain ⟨⟨⟨⟨h1, h2, h3, h4, h5, h6⟩, h7⟩, h8⟩, h9⟩ := h
    rw [X.frames, List.length_cons] at h2 h3
    have q1 := X.heapSize
    have q2 := X.used
    simp only [hF, hU, List.length_cons, State.stackLimits_setFrames, State.stackBytes_setFrames, hl9, hb9]
    refine ⟨⟨⟨⟨by omega, by omega, by omega, by omega, by omega, h6⟩, ?_⟩, ?_⟩, X.book⟩
    · show T.heap.size + R'.cells ≤ e.platform.maxCells
      omega
    · show T.slotsUsed + R'.slots ≤ e.platform.maxSlots
      omega
  · rw [State.stackLimits_setFrames]; rfl
  · rw [State.stackBytes_setFrames]; rfl
  · refine ⟨?_, Nat.le_refl _, Nat.le_refl _, ?_, ?_, fun a c9 h9 => ⟨c9, h9, rfl, rfl, fun _ _ => rfl⟩⟩
    · obtain ⟨t, ht, -⟩ := State.frames_cons hr
      show T.setVm s.vm = { ((T.setVm s.vm).setFrames (.invoking m args :: below)).setFrames (T.setVm s.vm).frames with heap := T.heap, slotsUsed := T.slotsUsed }
      rw [State.setFrames_setFrames, State.setFrames_self ht]
      rfl
    · show T.slotsUsed = T.slotsUsed + ((T.heap.toList.drop T.heap.size).map (·.slots.size)).sum
      rw [List.drop_eq_nil_of_le (Nat.le_of_eq Array.length_toList)]
      rfl
    · show ((T.heap.toList.drop T.heap.size).map (·.slots.size)).sum ≤ 0
      rw [List.drop_eq_nil_of_le (Nat.le_of_eq Array.length_toList)]
      exact Nat.le_refl _
/-- 'throw new E()': new; dup; invokespecial; athrow -/
theorem vx_throw0 {cc : ByteArray} {pc : Nat} (hexec : p.tables.exec = Jvm.exec) (hb : c.code = cc) (hl : l.stackTraces = false) {own cls : String} {names : List String} {ik ic mc ms : Nat} {A : Nat → Prop}
    (hown : s.vm.findClass own = some m.cls) (hcls : Bundle.fit cls = true) (hnames : ∀ n ∈ names, Bundle.fit n = true)
    (hk : (Cond.classLink own ik cls).before args s = true) (hini : (Cond.initialized cls).before args s = true) (hat : ∀ w ∈ vx_at0 own ic cls names, w.before args s = true)
    (hgood : ∀ w ∈ Cond.classLink own ik cls :: Cond.initialized cls :: vx_at0 own ic cls names, vx_ot w = true)
    (hU : vx_Zq Bundle.tN "UNASSIGNED_STACK" Bundle.steD A s s.heap) (hN : vx_Zq Bundle.tN "SUPPRESSED_SENTINEL" Bundle.listD A s s.heap) (hS : va_S A s.heap H locs) (hsize : ls.size = c.maxLocals)
    (d0 : decode cc pc = .ok (.new ik, 3)) (d3 : decode cc (pc + 3) = .ok (.dup, 1)) (d4 : decode cc (pc + 4) = .ok (.invokespecial ic, 3)) (d7 : decode cc (pc + 7) = .ok (.athrow, 1))
    (hout : ∀ x ∈ c.exceptionTable.toList, covers x (pc + 7) = false)
    (hRframes : names.length + 3 < R.frames) (hRlocals : (rest.map fun v => v.category).sum + (13 * (names.length + 1) + 42) ≤ R.locals) (hRcells : cells + 1 ≤ R.cells) (hRslots : slots + 6 ≤ R.slots) (hlocks : meth.locks = false)
    (hx : ∀ t : State, s.vm.Alike t.vm → H.size ≤ t.heap.size → (∀ q : Nat, q < H.size → t.heap[q]? = H[q]?) → XC cls s t)
    (hf : ∀ z ∈ locs, free z.base) (hc : cells + 1 ≤ mc) (hs : slots + 6 ≤ ms) :
    W p l e R s m args below meth c H locs cells slots (vx_MQ below Qc XC args s mc ms free) (F0 m pc ls rest) := by
  intro T hT X
  have htr : e.platform.stackTraces = false := (show e.platform.stackTraces = l.stackTraces by rw [X.admits.platform]).trans hl
  have Y := vx_rebase X (R' := { frames := R.frames, locals := R.locals, cells := 1, slots := 6 }) (Nat.le_refl _) (Nat.le_refl _) hRcells hRslots
  obtain ⟨s', hA⟩ : ∃ z, z = (T.setVm s.vm).setFrames (.invoking m args :: below) := ⟨_, rfl⟩
  rw [← hA] at Y
  have hvm : s'.vm = s.vm := by rw [hA]; rfl
  have hhp : s'.heap = H := by rw [hA]; exact hT
  have hW0 : s.WarmedH s'.vm := by rw [hvm]; exact State.WarmedH.refl s
  have hat' : ∀ w ∈ vx_at0 own ic cls names, w.before args s' = true := fun w hw => vx_ot_at hW0 hvm.symm (hgood w (List.mem_cons_of_mem _ (List.mem_cons_of_mem _ hw))) (hat w hw)
  have hk' : (Cond.classLink own ik cls).before args s' = true := vx_ot_at hW0 hvm.symm (hgood _ List.mem_cons_self) hk
  have hini' : (Cond.initialized cls).before args s' = true := vx_ot_at hW0 hvm.symm (hgood _ (List.mem_cons_of_mem _ List.mem_cons_self)) hini
  have hU' : vx_Zq Bundle.tN "UNASSIGNED_STACK" Bundle.steD A s' s'.heap := by rw [hhp]; exact vx_Zq.moved hW0.alike (hU.kept hS.2.1)
  have hN' : vx_Zq Bundle.tN "SUPPRESSED_SENTINEL" Bundle.listD A s' s'.heap := by rw [hhp]; exact vx_Zq.moved hW0.alike (hN.kept hS.2.1)
  have h : ∀ w ∈ Bundle.ownAtoms0 own ic cls names, w.before args s' = true := vx_own hat' (vx_isRefq hU'.1) (vx_isRefq hN'.1) hU'.2.word hN'.2.word
  have hown' : s'.vm.findClass own = some m.cls := by rw [hvm]; exact hown
  have hins : (Cond.instantiable cls 6).before args s' = true := h _ (by simp [Bundle.ownAtoms0])
  obtain ⟨vm₁, cX, kX, hfX, hkX, -, -, X₁, st1⟩ := Y.newCold hexec (own := own) (C := cls) (index := ik) (n := 6) hown' hk' hins hini'
    (g := F0 m pc ls rest) rfl (by rw [hb]; exact d0) (Nat.le_refl _) (Nat.le_refl _)
  generalize hT1 : (T.setVm vm₁).pushCell { cls := cX, slots := kX.instanceTypes.map defaultValue, vm := .none } = T1 at X₁ st1
  have hcat : (Value.ref T.heap.size).category = 1 := rfl
  have hcellA : T1.heap[T.heap.size]? = some (freshCell cX kX) := by rw [← hT1]; exact State.heap_pushCell_size _ _
  have d3' : decode c.code (pc + 3) = .ok (.dup, 1) := by rw [hb]; exact d3
  obtain ⟨U, hsteps, hrun, hend, hW, hsame, ce, hce, hO⟩ := X₁.ctorThrow0 hexec htr (own := own) (cls := cls) (names := names) (ic := ic) hown' hcls hnames h (fun x hx => nomatch hx) hfX hkX hcellA (by rw [hhp, hT]; exact Nat.le_refl _)
    (g := { method := m, pc := pc + 4, locals := ls, stack := .ref T.heap.size :: .ref T.heap.size :: rest, locked := none }) rfl hsize rfl rfl (rest := rest) rfl
    (by rw [hb]; exact d4) (by rw [hb]; exact d7) hout hRframes (by simp only [List.map_cons, List.sum_cons, hcat]; omega) hlocks
  obtain ⟨f1, f2⟩ := vx_frame hsame
  rw [hhp] at f1 f2
  have hWs : s.WarmedH U.vm := State.WarmedH.trans hW0 hW
  have hcl : s.vm.findClass cls = some ce.cls := by
    have h9 := hO.cls
    rw [hvm] at h9
    exact h9
  have hall : s.sameButNew ({ U with vm := s.vm } : State) locs mc ms := by
    subst hA
    obtain ⟨e1, e2⟩ := hsame
    rw [State.setFrames_setFrames] at e1
    have h2 : (T.setVm s.vm).sameButNew ({ U with vm := s.vm } : State) [] (0 + 1) (0 + 6) := ⟨e1, e2⟩
    have h3 := X.same.trans h2
    rw [List.append_nil] at h3
    exact h3.mono hc hs
  refine ⟨U, ?_, .threw T.heap.size, hrun, hend, Or.inr ⟨T.heap.size, rfl, cls, ce, locs, hx U hWs.alike f1 (fun q hq => f2 q hq (fun z hz => nomatch hz)), hce, hO.vm, hcl, hWs, hall, hf⟩⟩
  refine st1 _ ?_
  show Steps p.tables e below (T1.setTop { method := m, pc := pc + 3, locals := ls, stack := .ref T.heap.size :: rest, locked := none }) _
  jvm_step X₁.here [X₁.here.top, hexec, d3', Value.category]
  exact hsteps
/-- 'throw new E("text")': new; dup; ldc; invokespecial; athrow -/
theorem vx_throwS {cc : ByteArray} {pc : Nat} (hexec : p.tables.exec = Jvm.exec) (hb : c.code = cc) (hl : l.stackTraces = false) {own cls text : String} {names : List String} {ik is ic mc ms sa : Nat} {A : Nat → Prop}
    (hown : s.vm.findClass own = some m.cls) (hcls : Bundle.fit cls = true) (hnames : ∀ n ∈ names, Bundle.fit n = true)
    (hk : (Cond.classLink own ik cls).before args s = true) (hini : (Cond.initialized cls).before args s = true) (hstr : vk_R own is text sa s) (hat : ∀ w ∈ vx_atS own ic cls names, w.before args s = true)
    (hgood : ∀ w ∈ Cond.classLink own ik cls :: Cond.initialized cls :: vx_atS own ic cls names, vx_ot w = true)
    (hU : vx_Zq Bundle.tN "UNASSIGNED_STACK" Bundle.steD A s s.heap) (hN : vx_Zq Bundle.tN "SUPPRESSED_SENTINEL" Bundle.listD A s s.heap) (hS : va_S A s.heap H locs) (hsize : ls.size = c.maxLocals)
    (d0 : decode cc pc = .ok (.new ik, 3)) (d3 : decode cc (pc + 3) = .ok (.dup, 1)) (d4 : decode cc (pc + 4) = .ok (.ldc is, 2)) (d6 : decode cc (pc + 6) = .ok (.invokespecial ic, 3)) (d9 : decode cc (pc + 9) = .ok (.athrow, 1))
    (hout : ∀ x ∈ c.exceptionTable.toList, covers x (pc + 9) = false)
    (hRframes : names.length + 3 < R.frames) (hRlocals : (rest.map fun v => v.category).sum + (13 * (names.length + 1) + 43) ≤ R.locals) (hRcells : cells + 1 ≤ R.cells) (hRslots : slots + 6 ≤ R.slots) (hlocks : meth.locks = false)
    (hx : ∀ t : State, s.vm.Alike t.vm → H.size ≤ t.heap.size → (∀ q : Nat, q < H.size → t.heap[q]? = H[q]?) → XC cls s t)
    (hf : ∀ z ∈ locs, free z.base) (hc : cells + 1 ≤ mc) (hs : slots + 6 ≤ ms) :
    W p l e R s m args below meth c H locs cells slots (vx_MQ below Qc XC args s mc ms free) (F0 m pc ls rest) := by
  intro T hT X
  have htr : e.platform.stackTraces = false := (show e.platform.stackTraces = l.stackTraces by rw [X.admits.platform]).trans hl
  have Y := vx_rebase X (R' := { frames := R.frames, locals := R.locals, cells := 1, slots := 6 }) (Nat.le_refl _) (Nat.le_refl _) hRcells hRslots
  obtain ⟨s', hA⟩ : ∃ z, z = (T.setVm s.vm).setFrames (.invoking m args :: below) := ⟨_, rfl⟩
  rw [← hA] at Y
  have hvm : s'.vm = s.vm := by rw [hA]; rfl
  have hhp : s'.heap = H := by rw [hA]; exact hT
  have hW0 : s.WarmedH s'.vm := by rw [hvm]; exact State.WarmedH.refl s
  have hat' : ∀ w ∈ vx_atS own ic cls names, w.before args s' = true := fun w hw => vx_ot_at hW0 hvm.symm (hgood w (List.mem_cons_of_mem _ (List.mem_cons_of_mem _ hw))) (hat w hw)
  have hk' : (Cond.classLink own ik cls).before args s' = true := vx_ot_at hW0 hvm.symm (hgood _ List.mem_cons_self) hk
  have hini' : (Cond.initialized cls).before args s' = true := vx_ot_at hW0 hvm.symm (hgood _ (List.mem_cons_of_mem _ List.mem_cons_self)) hini
  have hU' : vx_Zq Bundle.tN "UNASSIGNED_STACK" Bundle.steD A s' s'.heap := by rw [hhp]; exact vx_Zq.moved hW0.alike (hU.kept hS.2.1)
  have hN' : vx_Zq Bundle.tN "SUPPRESSED_SENTINEL" Bundle.listD A s' s'.heap := by rw [hhp]; exact vx_Zq.moved hW0.alike (hN.kept hS.2.1)
  have h : ∀ w ∈ Bundle.ownAtoms own ic cls names, w.before args s' = true := vx_own hat' (vx_isRefq hU'.1) (vx_isRefq hN'.1) hU'.2.word hN'.2.word
  have hown' : s'.vm.findClass own = some m.cls := by rw [hvm]; exact hown
  have hins : (Cond.instantiable cls 6).before args s' = true := h _ (by simp [Bundle.ownAtoms])
  obtain ⟨vm₁, cX, kX, hfX, hkX, -, -, X₁, st1⟩ := Y.newCold hexec (own := own) (C := cls) (index := ik) (n := 6) hown' hk' hins hini'
    (g := F0 m pc ls rest) rfl (by rw [hb]; exact d0) (Nat.le_refl _) (Nat.le_refl _)
  generalize hT1 : (T.setVm vm₁).pushCell { cls := cX, slots := kX.instanceTypes.map defaultValue, vm := .none } = T1 at X₁ st1
  have hcat : (Value.ref T.heap.size).category = 1 := rfl
  have hcellA : T1.heap[T.heap.size]? = some (freshCell cX kX) := by rw [← hT1]; exact State.heap_pushCell_size _ _
  have d3' : decode c.code (pc + 3) = .ok (.dup, 1) := by rw [hb]; exact d3
  have d4' : decode c.code (pc + 4) = .ok (.ldc is, 2) := by rw [hb]; exact d4
  have hstr' : vk_R own is text sa s' := vk_R.warm hW0 hstr
  obtain ⟨U, hsteps, hrun, hend, hW, hsame, ce, hce, hO⟩ := X₁.ctorThrowS hexec htr (own := own) (cls := cls) (names := names) (ic := ic) hown' hcls hnames h (fun x hx => nomatch hx) hfX hkX hcellA (by rw [hhp, hT]; exact Nat.le_refl _) (msg := .ref sa) rfl
    (g := { method := m, pc := pc + 6, locals := ls, stack := .ref sa :: .ref T.heap.size :: .ref T.heap.size :: rest, locked := none }) rfl hsize rfl rfl (rest := rest) rfl
    (by rw [hb]; exact d6) (by rw [hb]; exact d9) hout hRframes (by simp only [List.map_cons, List.sum_cons, hcat]; omega) hlocks
  obtain ⟨f1, f2⟩ := vx_frame hsame
  rw [hhp] at f1 f2
  have hWs : s.WarmedH U.vm := State.WarmedH.trans hW0 hW
  have hcl : s.vm.findClass cls = some ce.cls := by
    have h9 := hO.cls
    rw [hvm] at h9
    exact h9
  have hall : s.sameButNew ({ U with vm := s.vm } : State) locs mc ms := by
    subst hA
    obtain ⟨e1, e2⟩ := hsame
    rw [State.setFrames_setFrames] at e1
    have h2 : (T.setVm s.vm).sameButNew ({ U with vm := s.vm } : State) [] (0 + 1) (0 + 6) := ⟨e1, e2⟩
    have h3 := X.same.trans h2
    rw [List.append_nil] at h3
    exact h3.mono hc hs
  refine ⟨U, ?_, .threw T.heap.size, hrun, hend, Or.inr ⟨T.heap.size, rfl, cls, ce, locs, hx U hWs.alike f1 (fun q hq => f2 q hq (fun z hz => nomatch hz)), hce, hO.vm, hcl, hWs, hall, hf⟩⟩
  refine st1 _ ?_
  show Steps p.tables e below (T1.setTop { method := m, pc := pc + 3, locals := ls, stack := .ref T.heap.size :: rest, locked := none }) _
  jvm_step X₁.here [X₁.here.top, hexec, d3', Value.category]
  exact X₁.ldcString hexec (own := own) (text := text) (index := is) (a := sa) hown' hstr'.1 hstr'.2
    (g := { method := m, pc := pc + 4, locals := ls, stack := .ref T.heap.size :: .ref T.heap.size :: rest, locked := none }) rfl d4' _ hsteps
/-- 'throw new E("text")', the text by a wide index -/
theorem vx_throwSW {cc : ByteArray} {pc : Nat} (hexec : p.tables.exec = Jvm.exec) (hb : c.code = cc) (hl : l.stackTraces = false) {own cls text : String} {names : List String} {ik is ic mc ms sa : Nat} {A : Nat → Prop}
    (hown : s.vm.findClass own = some m.cls) (hcls : Bundle.fit cls = true) (hnames : ∀ n ∈ names, Bundle.fit n = true)
    (hk : (Cond.classLink own ik cls).before args s = true) (hini : (Cond.initialized cls).before args s = true) (hstr : vk_R own is text sa s) (hat : ∀ w ∈ vx_atS own ic cls names, w.before args s = true)
    (hgood : ∀ w ∈ Cond.classLink own ik cls :: Cond.initialized cls :: vx_atS own ic cls names, vx_ot w = true)
    (hU : vx_Zq Bundle.tN "UNASSIGNED_STACK" Bundle.steD A s s.heap) (hN : vx_Zq Bundle.tN "SUPPRESSED_SENTINEL" Bundle.listD A s s.heap) (hS : va_S A s.heap H locs) (hsize : ls.size = c.maxLocals)
    (d0 : decode cc pc = .ok (.new ik, 3)) (d3 : decode cc (pc + 3) = .ok (.dup, 1)) (d4 : decode cc (pc + 4) = .ok (.ldc_w is, 3)) (d7 : decode cc (pc + 7) = .ok (.invokespecial ic, 3)) (d10 : decode cc (pc + 10) = .ok (.athrow, 1))
    (hout : ∀ x ∈ c.exceptionTable.toList, covers x (pc + 10) = false)
    (hRframes : names.length + 3 < R.frames) (hRlocals : (rest.map fun v => v.category).sum + (13 * (names.length + 1) + 43) ≤ R.locals) (hRcells : cells + 1 ≤ R.cells) (hRslots : slots + 6 ≤ R.slots) (hlocks : meth.locks = false)
    (hx : ∀ t : State, s.vm.Alike t.vm → H.size ≤ t.heap.size → (∀ q : Nat, q < H.size → t.heap[q]? = H[q]?) → XC cls s t)
    (hf : ∀ z ∈ locs, free z.base) (hc : cells + 1 ≤ mc) (hs : slots + 6 ≤ ms) :
    W p l e R s m args below meth c H locs cells slots (vx_MQ below Qc XC args s mc ms free) (F0 m pc ls rest) := by
  intro T hT X
  have htr : e.platform.stackTraces = false := (show e.platform.stackTraces = l.stackTraces by rw [X.admits.platform]).trans hl
  have Y := vx_rebase X (R' := { frames := R.frames, locals := R.locals, cells := 1, slots := 6 }) (Nat.le_refl _) (Nat.le_refl _) hRcells hRslots
  obtain ⟨s', hA⟩ : ∃ z, z = (T.setVm s.vm).setFrames (.invoking m args :: below) := ⟨_, rfl⟩
  rw [← hA] at Y
  have hvm : s'.vm = s.vm := by rw [hA]; rfl
  have hhp : s'.heap = H := by rw [hA]; exact hT
  have hW0 : s.WarmedH s'.vm := by rw [hvm]; exact State.WarmedH.refl s
  have hat' : ∀ w ∈ vx_atS own ic cls names, w.before args s' = true := fun w hw => vx_ot_at hW0 hvm.symm (hgood w (List.mem_cons_of_mem _ (List.mem_cons_of_mem _ hw))) (hat w hw)
  have hk' : (Cond.classLink own ik cls).before args s' = true := vx_ot_at hW0 hvm.symm (hgood _ List.mem_cons_self) hk
  have hini' : (Cond.initialized cls).before args s' = true := vx_ot_at hW0 hvm.symm (hgood _ (List.mem_cons_of_mem _ List.mem_cons_self)) hini
  have hU' : vx_Zq Bundle.tN "UNASSIGNED_STACK" Bundle.steD A s' s'.heap := by rw [hhp]; exact vx_Zq.moved hW0.alike (hU.kept hS.2.1)
  have hN' : vx_Zq Bundle.tN "SUPPRESSED_SENTINEL" Bundle.listD A s' s'.heap := by rw [hhp]; exact vx_Zq.moved hW0.alike (hN.kept hS.2.1)
  have h : ∀ w ∈ Bundle.ownAtoms own ic cls names, w.before args s' = true := vx_own hat' (vx_isRefq hU'.1) (vx_isRefq hN'.1) hU'.2.word hN'.2.word
  have hown' : s'.vm.findClass own = some m.cls := by rw [hvm]; exact hown
  have hins : (Cond.instantiable cls 6).before args s' = true := h _ (by simp [Bundle.ownAtoms])
  obtain ⟨vm₁, cX, kX, hfX, hkX, -, -, X₁, st1⟩ := Y.newCold hexec (own := own) (C := cls) (index := ik) (n := 6) hown' hk' hins hini'
    (g := F0 m pc ls rest) rfl (by rw [hb]; exact d0) (Nat.le_refl _) (Nat.le_refl _)
  generalize hT1 : (T.setVm vm₁).pushCell { cls := cX, slots := kX.instanceTypes.map defaultValue, vm := .none } = T1 at X₁ st1
  have hcat : (Value.ref T.heap.size).category = 1 := rfl
  have hcellA : T1.heap[T.heap.size]? = some (freshCell cX kX) := by rw [← hT1]; exact State.heap_pushCell_size _ _
  have d3' : decode c.code (pc + 3) = .ok (.dup, 1) := by rw [hb]; exact d3
  have d4' : decode c.code (pc + 4) = .ok (.ldc_w is, 3) := by rw [hb]; exact d4
  have hstr' : vk_R own is text sa s' := vk_R.warm hW0 hstr
  obtain ⟨U, hsteps, hrun, hend, hW, hsame, ce, hce, hO⟩ := X₁.ctorThrowS hexec htr (own := own) (cls := cls) (names := names) (ic := ic) hown' hcls hnames h (fun x hx => nomatch hx) hfX hkX hcellA (by rw [hhp, hT]; exact Nat.le_refl _) (msg := .ref sa) rfl
    (g := { method := m, pc := pc + 7, locals := ls, stack := .ref sa :: .ref T.heap.size :: .ref T.heap.size :: rest, locked := none }) rfl hsize rfl rfl (rest := rest) rfl
    (by rw [hb]; exact d7) (by rw [hb]; exact d10) hout hRframes (by simp only [List.map_cons, List.sum_cons, hcat]; omega) hlocks
  obtain ⟨f1, f2⟩ := vx_frame hsame
  rw [hhp] at f1 f2
  have hWs : s.WarmedH U.vm := State.WarmedH.trans hW0 hW
  have hcl : s.vm.findClass cls = some ce.cls := by
    have h9 := hO.cls
    rw [hvm] at h9
    exact h9
  have hall : s.sameButNew ({ U with vm := s.vm } : State) locs mc ms := by
    subst hA
    obtain ⟨e1, e2⟩ := hsame
    rw [State.setFrames_setFrames] at e1
    have h2 : (T.setVm s.vm).sameButNew ({ U with vm := s.vm } : State) [] (0 + 1) (0 + 6) := ⟨e1, e2⟩
    have h3 := X.same.trans h2
    rw [List.append_nil] at h3
    exact h3.mono hc hs
  refine ⟨U, ?_, .threw T.heap.size, hrun, hend, Or.inr ⟨T.heap.size, rfl, cls, ce, locs, hx U hWs.alike f1 (fun q hq => f2 q hq (fun z hz => nomatch hz)), hce, hO.vm, hcl, hWs, hall, hf⟩⟩
  refine st1 _ ?_
  show Steps p.tables e below (T1.setTop { method := m, pc := pc + 3, locals := ls, stack := .ref T.heap.size :: rest, locked := none }) _
  jvm_step X₁.here [X₁.here.top, hexec, d3', Value.category]
  exact X₁.ldcStringW hexec (own := own) (text := text) (index := is) (a := sa) hown' hstr'.1 hstr'.2
    (g := { method := m, pc := pc + 4, locals := ls, stack := .ref T.heap.size :: .ref T.heap.size :: rest, locked := none }) rfl d4' _ hsteps
end Ends
section Bodies
variable {l : Launch}
theorem vx_ofW {y : MethodName} {ws ws' : List Cond} {rm : Room} {Pc : Array Value → State → Prop} {Qc : Array Value → State → Outcome → State → Prop} {XC : String → State → State → Prop} {mc ms : Nat} {free : Addr → Prop} {cc : ByteArray} {maxL : Nat} {ret : Option FieldType}
    (hy : plainName y.cls = true) (hw : ws = Cond.code y cc maxL ret :: ws')
    (body : ∀ p e s m args below meth c s₁, BodyLoose p l y (headSpec ws rm) cc maxL ret e s m args below meth c s₁ → c.maxLocals = maxL → (∀ x ∈ c.exceptionTable.toList, False) → Pc args s →
      W p l e (headSpec ws rm).room s m args below meth c s.heap [] 0 0 (vx_MQ below Qc XC args s mc ms free) (entryFrame m args maxL)) : vx_Met l y ws rm Pc Qc XC mc ms free := by
  refine MetFree.of_bodyS (code := cc) (maxLocals := maxL) (ret := ret) hy ?_ ?_
  · intro args s m h hn
    obtain ⟨meth, c, h1, h2, h3, h4, h5, h6, -, -⟩ := Cond.code_spec hn (atoms_spec (ws := ws) h _ (by rw [hw]; exact List.mem_cons_self))
    exact ⟨meth, c, h1, h2, h3, h4, h5, h6⟩
  · intro p e s m args below meth c s₁ B hml hP _
    have hh0 : s₁.heap = s.heap := by rw [B.state]; rfl
    have ht : ∀ x ∈ c.exceptionTable.toList, False := by
      obtain ⟨meth9, c9, h1, h2, -, -, -, -, h7, -⟩ := Cond.code_spec B.named (atoms_spec (ws := ws) B.pre _ (by rw [hw]; exact List.mem_cons_self))
      cases Option.some.inj (h1.symm.trans B.method)
      cases Option.some.inj (h2.symm.trans (Stand.of_body B).code)
      intro x hx
      rw [Array.isEmpty_iff.mp h7] at hx
      cases hx
    obtain ⟨t, a1, o, b1, b2, b3⟩ := body p e s m args below meth c s₁ B hml ht hP s₁ hh0 (Stand.of_body B)
    exact ⟨t, o, a1, b1, b2, b3⟩
/-- the table of a body with handlers -/
theorem vx_table {p : Program} {x y : MethodName} {S : Spec} {cc bytes : ByteArray} {maxL maxL' : Nat} {ret ret' : Option FieldType} {e : Env} {s s₁ : State} {m : MethodId} {args : Array Value} {below : List Frame} {meth : Method} {c : Code} {hh : List (Nat × Nat × Nat × Nat)}
    (B : BodyLoose p l y S cc maxL ret e s m args below meth c s₁) (h : (Cond.codeWith y bytes maxL' ret' hh).before args s = true) : c.exceptionTable.toList = tableOf hh := by
  obtain ⟨m9, meth9, c9, hn9, h1, h2, -, -, h6, -⟩ := Cond.codeWith_spec h
  cases Option.some.inj (hn9.symm.trans B.named)
  cases Option.some.inj (h1.symm.trans B.method)
  cases Option.some.inj (h2.symm.trans (Stand.of_body B).code)
  rw [← h6, table_eq]
end Bodies
end VXA
/-! ===== END ===== -/
/-! ===== BEGIN a static call of a method with an exception table ===== -/
section VXS
variable {p : Program} {l : Launch} {e : Env} {R : Room} {s : State} {m : MethodId} {args : Array Value} {below : List Frame} {meth : Method} {c : Code} {T : State} {H : Heap} {locs : List Loc} {cells slots : Nat}
abbrev vx_CSW (R : Room) (s : State) (args : Array Value) (own : String) (index : Nat) (y : MethodName) (bytes : ByteArray) (maxL : Nat) (ret : Option FieldType) (hh : List (Nat × Nat × Nat × Nat)) (ws : List Cond) (rm : Room) (mc ms n : Nat) : Prop :=
  (rm.cells = mc ∧ rm.slots = ms ∧ rm.frames + 1 ≤ R.frames ∧ 8 + (maxL + 11) + rm.locals ≤ R.locals ∧ (∀ w ∈ ws, ∀ (a' : Array Value) (U : State), s.WarmedH U.vm → w.before a' U = true) ∧ Cond.codeWith y bytes maxL ret hh ∈ ws) ∧
  (Cond.codeWith y bytes maxL ret hh).before args s = true ∧ (Cond.initialized y.cls).before args s = true ∧ (y.cls ≠ "java/lang/invoke/MethodHandle" ∧ y.cls ≠ "java/lang/invoke/VarHandle") ∧
  (∀ sig, parseMethodDescriptor y.desc = some sig → n = sig.parameters.length) ∧ (Cond.methodLink own index y).before args s = true ∧ (Cond.static y).before args s = true
theorem vx_cwSW {own : String} {index maxL mc ms : Nat} {y : MethodName} {bytes : ByteArray} {ret : Option FieldType} {hh : List (Nat × Nat × Nat × Nat)} {Ts ws ws' : List Cond} {rm : Room} (n : Nat) (ht : ∀ w ∈ Ts, w.before args s = true) (hT : GoodIn Ts (va_wsS own index y ws)) (hw : ws = Cond.codeWith y bytes maxL ret hh :: ws') (hrc : rm.cells = mc) (hrs : rm.slots = ms)
    (hd : y.cls ≠ "java/lang/invoke/MethodHandle" ∧ y.cls ≠ "java/lang/invoke/VarHandle" ∧ (parseMethodDescriptor y.desc).map (fun d => d.parameters.length) = some n) (hR : rm.frames + 1 ≤ R.frames ∧ 8 + (maxL + 11) + rm.locals ≤ R.locals) :
    vx_CSW R s args own index y bytes maxL ret hh ws rm mc ms n := by
  have ok : ∀ w ∈ va_wsS own index y ws, w.before args s = true := fun w h => ht w (hT w h).1
  have hG : GoodIn Ts ws := fun w h => hT w (by unfold va_wsS; exact List.mem_append_right _ h)
  have hc : Cond.codeWith y bytes maxL ret hh ∈ ws := by rw [hw]; exact List.mem_cons_self
  refine ⟨⟨hrc, hrs, hR.1, hR.2, pay_in ht hG, hc⟩, ht _ (hG _ hc).1, ok _ (by simp [va_wsS]), ⟨hd.1, hd.2.1⟩, fun sig h => ?_, ok _ (by simp [va_wsS]), ok _ (by simp [va_wsS])⟩
  have h2 := hd.2.2
  rw [h] at h2
  exact (Option.some.inj h2).symm
theorem vx_callSW (X : Stand p l e R s m args below meth c T locs cells slots) (hexec : p.tables.exec = Jvm.exec) {own : String} {index : Nat} {y : MethodName} {bytes : ByteArray} {maxL : Nat} {ret : Option FieldType} {hh : List (Nat × Nat × Nat × Nat)}
    (hown : s.vm.findClass own = some m.cls) (hlink : (Cond.methodLink own index y).before args s = true) (hstat : (Cond.static y).before args s = true) (hinit : (Cond.initialized y.cls).before args s = true)
    (hcode : (Cond.codeWith y bytes maxL ret hh).before args s = true) (hy : y.cls ≠ "java/lang/invoke/MethodHandle" ∧ y.cls ≠ "java/lang/invoke/VarHandle")
    {W9 : Nat} {Pre : Pt → Array Value → Prop} {Post : Pt → Array Value → Option Value → Pt → Prop} (hK : Back l R p e below s args y 3 W9 Pre Post)
    {g : JFrame} (hg : g.method = m) (hsize : g.locals.size = c.maxLocals) {argsL rest : List Value} (hlen : ∀ sig, parseMethodDescriptor y.desc = some sig → argsL.length = sig.parameters.length)
    (hstack : g.stack = argsL.reverse ++ rest) (hW : 2 * g.monitorRoom + (rest.map fun v => v.category).sum ≤ W9) (hdg : decode c.code g.pc = .ok (.invokestatic index, 3))
    (hpre : ∀ vm₁, s.WarmedH vm₁ → Pre ⟨T.setVm vm₁, locs, cells, slots⟩ argsL.toArray) :
    ∃ (v : Option Value) (vm₁ : Vm) (B : Pt), s.WarmedH vm₁ ∧ Stand p l e R s m args below meth c B.U B.locs B.cells B.slots ∧ Post ⟨T.setVm vm₁, locs, cells, slots⟩ argsL.toArray v B ∧
      ∀ target, Steps p.tables e below (B.U.setTop { g with pc := g.pc + 3, stack := v.toList ++ rest }) target → Steps p.tables e below (T.setTop g) target := by
  obtain ⟨mk, methM, cM, hnamed, hmethM, -, -, -, -, -, -, hsigM⟩ := Cond.codeWith_spec hcode
  have hstatic : methM.isStatic = true := Cond.static_spec hnamed hmethM hstat
  obtain ⟨kP, hkP, -⟩ := className_of_methodNamed hnamed
  have hinitP : kP.init = .initialized := Cond.initialized_spec (findClass_of_methodNamed hnamed) hkP hinit
  obtain ⟨vm₁, X₁, hstep₁⟩ := X.invokestatic hexec hown hlink hnamed hmethM hstatic hkP hinitP hy (g := g) hg (argsL := argsL) (rest := rest) (hlen _ hsigM) hstack hdg
  obtain ⟨v, B, X', hpost, hsteps⟩ := hK m meth c ⟨T.setVm vm₁, locs, cells, slots⟩ { g with stack := rest } (.invokestatic index) mk argsL.toArray X₁ hg hsize hdg hW (X₁.named hnamed) (hpre vm₁ X₁.warmed)
  exact ⟨v, vm₁, B, X₁.warmed, X', hpost, fun target h => hstep₁ _ fun acts => by rw [doInvoke_state]; exact hsteps.trans h⟩
theorem vx_runSW {y : MethodName} {bytes cc : ByteArray} {maxL nL mc ms n index : Nat} {ret : Option FieldType} {hh : List (Nat × Nat × Nat × Nat)} {ws : List Cond} {rm : Room} {Pc : Array Value → State → Prop} {Qc : Array Value → State → Outcome → State → Prop} {free : Addr → Prop} {Ts : List Cond} {own : String} {As rest : List Value} {g : JFrame}
    (S : CallFix p m c cc nL s args Ts own) (hM : Met l y ws rm Pc Qc mc ms free) (cw : vx_CSW R s args own index y bytes maxL ret hh ws rm mc ms n) (hp : PreS s H Pc As)
    (hg : g.method = m) (hn : As.length = n) (hsize : g.locals.size = nL) (hstack : g.stack = As.reverse ++ rest) (hW : 2 * g.monitorRoom + (rest.map fun v => v.category).sum ≤ 8) (hdg : decode cc g.pc = .ok (.invokestatic index, 3)) (hf : cells + mc ≤ R.cells ∧ slots + ms ≤ R.slots) :
    va_Run p l e R s m args below meth c H locs cells slots mc ms g rest (Qc As.toArray) (free) := by
  obtain ⟨⟨hrc, hrs, hfr, hlo, hws, hcw⟩, hcode, hini, hy, hlen, hl, hstt⟩ := cw
  have hK : Back l R p e below s args y 3 8 (PreOf R mc ms Pc) (PostOf Qc mc ms free) := va_backW (hh := hh) (bytes := bytes) (maxL := maxL) (ret := ret) hM hp.1 hrc hrs hfr hlo hws hcw (fun a' U hW => word_at hW (Or.inl (by first | rfl | simp [Cond.onTables, Cond.keeps, Cond.steady])) hini)
  obtain ⟨hx, hb, hml, ho, -⟩ := S
  intro T hT X
  obtain ⟨v, vm₁, ⟨U', l2, c2, s2⟩, hW₁, X', ⟨g', mk, t, L, e1, e2, hq, h1, hL, h2, h3⟩, st⟩ := vx_callSW X hx (hh := hh) (bytes := bytes) (maxL := maxL) (ret := ret) ho hl hstt hini hcode hy hK hg (hsize.trans hml.symm) (argsL := As) (rest := rest) (fun sig h => hn.trans (hlen sig h)) hstack hW (by rw [hb]; exact hdg)
    (fun vm₁ hW₁ => ⟨hf.1, hf.2, hp.2 (T.setVm vm₁) hT hW₁⟩)
  dsimp only [Pt.U, Pt.locs, Pt.cells, Pt.slots] at X' e1 e2 h1 h2 h3 st
  subst h1; subst h2; subst h3
  exact ⟨v, (T.setVm vm₁).calling g' mk As.toArray, t, U', L, hT, X', hL, e1, e2, hq, st⟩
/-- not caught here, past rows that name other classes: it goes on to the caller -/
theorem vx_outP {p : Program} {l : Launch} {e : Env} {R : Room} {s : State} {m : MethodId} {args : Array Value} {below : List Frame} {meth : Method} {c : Code} {H : Heap} {locs : List Loc} {cells slots : Nat} {free : Addr → Prop} {ls : Array Slot} {rest : List Value} {Qc : Array Value → State → Outcome → State → Prop} {XC : String → State → State → Prop}
    {pc : Nat} {own E : String} {ce : Cell} {q : Addr} {mc ms : Nat} (hown : s.vm.findClass own = some m.cls) (hlocks : meth.locks = false)
    (hpass : ∀ z ∈ c.exceptionTable.toList, covers z pc = false ∨ (z.catchType ≠ 0 ∧ ∃ nm : String, (Cond.classLink own z.catchType nm).before args s = true ∧ va_Nc E nm s)) (hcell : H[q]? = some ce) (hv : ce.vm = .none) (hcl : s.vm.findClass E = some ce.cls)
    (hx : ∀ t : State, t.heap = H → s.vm.Alike t.vm → XC E s t) (hf : ∀ z ∈ locs, free z.base) (hc : cells ≤ mc) (hs : slots ≤ ms) :
    vx_W p l e R s m args below meth c H locs cells slots (vx_MQ below Qc XC args s mc ms free) (F0 m pc ls rest) q := by
  intro T hT X
  have hpl : e.platform.magicAccessors = ({} : Platform).magicAccessors := by rw [X.admits.platform]
  obtain ⟨vm', hW', X', st⟩ := X.outThrough hlocks q (g := F0 m pc ls rest) rfl rfl rfl (cell := ce) (by rw [hT]; exact hcell) (by rw [hv]; rfl)
    (by obtain ⟨k9, h9, -⟩ := Vm.findClass_spec hcl; exact ⟨k9, h9⟩) (fun z hz => by
      rcases hpass z hz with h | ⟨hz0, nm, hl1, hn1⟩
      · exact Or.inl h
      · obtain ⟨c6, hc6, hcl6⟩ := Cond.classLink_spec hown hl1 e.platform hpl
        obtain ⟨a8, b8, h1, h2, h3⟩ := hn1
        cases Option.some.inj (h1.symm.trans hcl)
        cases Option.some.inj (h2.symm.trans hc6)
        exact Or.inr ⟨hz0, _, hcl6, h3⟩)
  obtain ⟨g₀, hfr⟩ := X'.frames_eq
  have hcell9 : ((T.setVm vm').setFrames (.throwing q :: below)).heap[q]? = some ce := by
    show T.heap[q]? = some ce
    rw [hT]; exact hcell
  have hend : Ended ((T.setVm vm').setFrames (.throwing q :: below)) below (.threw q) := State.frames_setFrames _ (State.cur_lt_of_frames hfr)
  refine ⟨(T.setVm vm').setFrames (.throwing q :: below), ?_, .threw q, X'.here.running, hend, Or.inr ⟨q, rfl, E, ce, locs, hx _ hT (X'.ends _).1.alike, hcell9, hv, hcl, (X'.ends _).1, (X'.ends _).2.mono hc hs, hf⟩⟩
  rw [X.pushThrowing_eq]
  exact st
/-- a thing of a world lies in the heap -/
theorem vx_lt {D : va_G} {cl : List vw_C} {ws : va_W} {H1 : Heap} (h : va_P D cl ws H1) {k : Nat} {q : Nat × va_E} (hk : ws[k]? = some q) : q.1 < H1.size := (h k q hk).lt
end VXS
/-! ===== END ===== -/
/-! ===== BEGIN methods with a table of their own: called by a name, returning or throwing ===== -/
section VXH
/-! vx_backW, vx_callVX, vx_callSX, vx_callVW, vx_runVW, vx_runVX, vx_runSX, vx_ofWH follow the same proofs as their sisters above (Free/Laws.lean, Shelf42/LK1.lean); vx_outP calls Shelf42/NT130.lean (outThrough). -/
section
variable {l : Launch} {R : Room} {p : Program} {e : Env} {below : List Frame} {s : State} {sargs : Array Value} {y : MethodName} {len W9 : Nat}
theorem vx_backW {ws : List Cond} {rm : Room} {Pc : Array Value → State → Prop} {Qc : Array Value → State → Outcome → State → Prop} {XC : String → State → State → Prop} {mc ms : Nat} {free : Addr → Prop} {bytes : ByteArray} {maxL : Nat} {ret : Option FieldType} {hh : List (Nat × Nat × Nat × Nat)}
    (hM : vx_Met l y ws rm Pc Qc XC mc ms free) (hblind : FrameBlind Pc) (hrc : rm.cells = mc) (hrs : rm.slots = ms)
    (hframes : rm.frames + 1 ≤ R.frames) (hlocals : W9 + (maxL + 11) + rm.locals ≤ R.locals)
    (hws : ∀ w ∈ ws, ∀ a' U, s.WarmedH U.vm → w.before a' U = true) (hcode : Cond.codeWith y bytes maxL ret hh ∈ ws) (hinit : ∀ a' U, s.WarmedH U.vm → (Cond.initialized y.cls).before a' U = true) :
    vx_Back l R p e below s sargs y len W9 (PreOf R mc ms Pc) (PostOf Qc mc ms free) (vx_Post XC mc ms free) := by
  intro m meth c A g ig mk a X hg hsize hdg hW hn hp
  have h1 : (headSpec ws rm).pre.before a A.U = true := atoms_intro fun w hw => hws w hw _ _ X.warmed
  have h2 : (Cond.codeWith y bytes maxL ret hh).before a A.U = true := hws _ hcode _ _ X.warmed
  have h3 : (Cond.initialized y.cls).before a A.U = true := hinit _ _ X.warmed
  have h4 : A.cells + (headSpec ws rm).room.cells ≤ R.cells := by rw [show (headSpec ws rm).room.cells = mc from hrc]; exact hp.1
  have h5 : A.slots + (headSpec ws rm).room.slots ≤ R.slots := by rw [show (headSpec ws rm).room.slots = ms from hrs]; exact hp.2.1
  have hPc : Pc a (A.U.calling g mk a) := hblind _ _ _ _ hp.2.2
  obtain ⟨U, Ls, c0, s0⟩ := A
  dsimp only [Pt.U, Pt.locs, Pt.cells, Pt.slots] at h1 h2 h3 h4 h5 X hn hPc ⊢
  obtain ⟨m9, methY, cY, hn9, hmY, hcY, -, hlY, -⟩ := Cond.codeWith_spec h2
  cases Option.some.inj (hn9.symm.trans hn)
  obtain ⟨kY, hkY, -⟩ := className_of_methodNamed hn
  have hinitY : kY.init = .initialized := Cond.initialized_spec (findClass_of_methodNamed hn) hkY h3
  have h : At U g.method c below := by rw [hg]; exact X.here
  have hlocals9 : W9 + (maxL + 11) + (headSpec ws rm).room.locals ≤ R.locals := hlocals
  have happ : (headSpec ws rm).appliesLoose y e.platform (U.calling g mk a) = true :=
    Spec.appliesLoose_calling (g := g) h hdg hn hkY hinitY
      (X.room_calling (g := g) (R' := (headSpec ws rm).room) hsize hmY hcY hframes (by rw [hlY]; omega) h4 h5) h1
  obtain ⟨mid, hmid⟩ := h.above
  have hfr : (U.setTop g).frames = (.java g :: mid) ++ below := by rw [State.frames_setTop' g h.top, hmid]; rfl
  obtain ⟨o, s₂, hsteps, -, hend, hq⟩ := Steps.callFree hM p X.admits X.cas X.clock (acts := []) hfr happ hPc trivial
  have hq' : vx_Q Qc XC mc ms free a (U.calling g mk a) o s₂ := hq
  rw [State.frames_setTop' g h.top] at hend
  obtain ⟨g₀, hg0⟩ := Option.isSome_iff_exists.mp h.top
  obtain ⟨r, hr⟩ := State.topJava?_eq_some.mp hg0
  have hr' : (({ U with heap := s₂.heap, slotsUsed := s₂.slotsUsed } : State).setVm s₂.vm).frames = .java g₀ :: r := hr
  rcases hq' with ⟨hqc, L, hfe, hL⟩ | ⟨q, rfl, E, ce, L, hx, hce, hcv, hcl, hW₂, hsm, hL⟩
  · obtain ⟨⟨v, rfl⟩, hW₂, e2, q2, q3, q4, q5, q6⟩ := id hfe
    have e3 : s₂ = ({ (U.calling g mk a).setFrames s₂.frames with heap := s₂.heap, slotsUsed := s₂.slotsUsed } : State).setVm s₂.vm := by
      have : s₂ = ({ s₂ with vm := (U.calling g mk a).vm } : State).setVm s₂.vm := rfl
      rw [e2] at this
      exact this
    obtain ⟨c₂, i₂, len₂, hc₂, hd₂, hf₂⟩ := hend
    have hW' : U.WarmedH s₂.vm := hW₂
    have hcc : c₂ = c := by
      have h1 : s₂.code? g.method = U.code? g.method := by
        rw [State.code?_eq, State.code?_eq, hW'.alike.method?]
      exact Option.some.inj (hc₂.symm.trans (h1.trans h.code))
    subst hcc
    have hlen : len₂ = len := by rw [hdg] at hd₂; cases hd₂; rfl
    subst hlen
    have hs₂ : s₂ = (({ U with heap := s₂.heap, slotsUsed := s₂.slotsUsed } : State).setVm s₂.vm).setTop { g with pc := g.pc + len₂, stack := v.toList ++ g.stack } := by
      refine e3.trans ?_
      rw [hf₂, State.calling_eq h.top, State.setFrames_setFrames, State.setTop_of_frames _ hr', hr]
      rfl
    have hsame : U.sameButNew ({ U with heap := s₂.heap, slotsUsed := s₂.slotsUsed } : State) L mc ms := by
      refine ⟨?_, q2, q3, q4, q5, q6⟩
      obtain ⟨t, ht, -⟩ := State.frames_cons hr
      show ({ U with heap := s₂.heap, slotsUsed := s₂.slotsUsed } : State) = { U.setFrames U.frames with heap := s₂.heap, slotsUsed := s₂.slotsUsed }
      rw [State.setFrames_self ht]
    subst hg
    refine Or.inl ⟨v, ⟨(({ U with heap := s₂.heap, slotsUsed := s₂.slotsUsed } : State).setVm s₂.vm), Ls ++ L, c0 + mc, s0 + ms⟩,
      ⟨X.admits, X.cas, X.clock, X.frames, X.room, X.hears, X.method, X.code, (X.here.setHeapUsed s₂.heap s₂.slotsUsed).setVm hW'.alike, X.tail, State.WarmedH.trans X.warmed hW', X.limits, X.bytes, X.same.trans (hsame.setVm s.vm)⟩,
      ⟨g, mk, s₂, L, rfl, rfl, hqc, rfl, hL, rfl, rfl⟩, ?_⟩
    show Steps p.tables e below _ ((({ U with heap := s₂.heap, slotsUsed := s₂.slotsUsed } : State).setVm s₂.vm).setTop { g with pc := g.pc + len₂, stack := v.toList ++ g.stack })
    rw [← hs₂]
    exact hsteps
  · obtain ⟨e2, q2, q3, q4, q5, q6⟩ := id hsm
    have e3 : s₂ = ({ (U.calling g mk a).setFrames s₂.frames with heap := s₂.heap, slotsUsed := s₂.slotsUsed } : State).setVm s₂.vm := by
      have : s₂ = ({ s₂ with vm := (U.calling g mk a).vm } : State).setVm s₂.vm := rfl
      rw [e2] at this
      exact this
    have hf₂ : s₂.frames = .throwing q :: .java g :: U.frames.tail := hend
    have hW' : U.WarmedH s₂.vm := hW₂
    have hs₂ : s₂ = ((({ U with heap := s₂.heap, slotsUsed := s₂.slotsUsed } : State).setVm s₂.vm).setTop g).pushFrame (.throwing q) := by
      refine e3.trans ?_
      rw [hf₂, State.calling_eq h.top, State.setFrames_setFrames, State.pushFrame, State.frames_setTop _ hr', State.setTop_of_frames _ hr', State.setFrames_setFrames, hr]
      rfl
    have hsame : U.sameButNew ({ U with heap := s₂.heap, slotsUsed := s₂.slotsUsed } : State) L mc ms := by
      refine ⟨?_, q2, q3, q4, q5, q6⟩
      obtain ⟨t, ht, -⟩ := State.frames_cons hr
      show ({ U with heap := s₂.heap, slotsUsed := s₂.slotsUsed } : State) = { U.setFrames U.frames with heap := s₂.heap, slotsUsed := s₂.slotsUsed }
      rw [State.setFrames_self ht]
    subst hg
    refine Or.inr ⟨q, ⟨(({ U with heap := s₂.heap, slotsUsed := s₂.slotsUsed } : State).setVm s₂.vm), Ls ++ L, c0 + mc, s0 + ms⟩,
      ⟨X.admits, X.cas, X.clock, X.frames, X.room, X.hears, X.method, X.code, (X.here.setHeapUsed s₂.heap s₂.slotsUsed).setVm hW'.alike, X.tail, State.WarmedH.trans X.warmed hW', X.limits, X.bytes, X.same.trans (hsame.setVm s.vm)⟩,
      ⟨g, mk, s₂, L, E, ce, rfl, rfl, hx, hce, hcv, hcl, rfl, hL, rfl, rfl⟩, ?_⟩
    show Steps p.tables e below _ (((({ U with heap := s₂.heap, slotsUsed := s₂.slotsUsed } : State).setVm s₂.vm).setTop g).pushFrame (.throwing q))
    rw [← hs₂]
    exact hsteps
end
variable {p : Program} {l : Launch} {e : Env} {R : Room} {s : State} {m : MethodId} {args : Array Value} {below : List Frame} {meth : Method} {c : Code} {T : State} {H : Heap} {locs : List Loc} {cells slots : Nat}
theorem vx_callVX (X : Stand p l e R s m args below meth c T locs cells slots) (hexec : p.tables.exec = Jvm.exec) {own C : String} {index : Nat} {y : MethodName} {bytes : ByteArray} {maxL : Nat} {ret : Option FieldType} {hh : List (Nat × Nat × Nat × Nat)}
    (hown : s.vm.findClass own = some m.cls) (hlink : (Cond.methodLink own index y).before args s = true) (hinst : (Cond.instanceMethod y).before args s = true) (hsel : (Cond.selects C y y).before args s = true)
    (hcode : (Cond.codeWith y bytes maxL ret hh).before args s = true) (hy : y.cls ≠ "java/lang/invoke/MethodHandle" ∧ y.cls ≠ "java/lang/invoke/VarHandle")
    {W9 : Nat} {Pre : Pt → Array Value → Prop} {Post : Pt → Array Value → Option Value → Pt → Prop} {PostX : Pt → Array Value → Addr → Pt → Prop} (hK : vx_Back l R p e below s args y 3 W9 Pre Post PostX)
    {b : Addr} {cellB : Cell} (hcell : T.heap[b]? = some cellB) (hobj : cellB.vm.isStatics = false) (hcls : s.vm.findClass C = some cellB.cls)
    {g : JFrame} (hg : g.method = m) (hsize : g.locals.size = c.maxLocals) {argsL rest : List Value} (hlen : ∀ sig, parseMethodDescriptor y.desc = some sig → argsL.length = sig.parameters.length)
    (hstack : g.stack = argsL.reverse ++ .ref b :: rest) (hW : 2 * g.monitorRoom + (rest.map fun v => v.category).sum ≤ W9) (hdg : decode c.code g.pc = .ok (.invokevirtual index, 3))
    (hpre : ∀ vm₁, s.WarmedH vm₁ → Pre ⟨T.setVm vm₁, locs, cells, slots⟩ (Value.ref b :: argsL).toArray) :
    (∃ (v : Option Value) (vm₁ : Vm) (B : Pt), s.WarmedH vm₁ ∧ Stand p l e R s m args below meth c B.U B.locs B.cells B.slots ∧ Post ⟨T.setVm vm₁, locs, cells, slots⟩ (Value.ref b :: argsL).toArray v B ∧
      ∀ target, Steps p.tables e below (B.U.setTop { g with pc := g.pc + 3, stack := v.toList ++ rest }) target → Steps p.tables e below (T.setTop g) target) ∨
    (∃ (q : Addr) (vm₁ : Vm) (B : Pt), s.WarmedH vm₁ ∧ Stand p l e R s m args below meth c B.U B.locs B.cells B.slots ∧ PostX ⟨T.setVm vm₁, locs, cells, slots⟩ (Value.ref b :: argsL).toArray q B ∧
      Steps p.tables e below (T.setTop g) ((B.U.setTop { g with stack := rest }).pushFrame (.throwing q))) := by
  obtain ⟨mk, methM, hnamed, hmethM, hstM, habM⟩ := Cond.instanceMethod_spec hinst
  obtain ⟨m8, methM', cM, hn8, hmethM', -, -, -, -, -, -, hsigM⟩ := Cond.codeWith_spec hcode
  cases Option.some.inj (hn8.symm.trans hnamed)
  cases hmethM.symm.trans hmethM'
  obtain ⟨c2, r2, m2, q1, q2, q3, q4, kP, hkP, hkPi⟩ := Cond.selects_spec hsel
  cases hcls.symm.trans q1
  cases (State.methodFound?_of_named hnamed hy).symm.trans q2
  cases hnamed.symm.trans q3
  have hselP : selectMethod e.platform s.vm cellB.cls mk = .method mk := by rw [Launch.admits_selectMethod X.admits]; exact q4
  obtain ⟨vm₁, X₁, hstep₁⟩ := X.invokevirtual hexec hown hlink hnamed hmethM hstM hkP hkPi hy (a := b) (cell := cellB) hcell
    (fun z h => by rw [h] at hobj; cases hobj) hselP hmethM habM hkP hkPi (g := g) hg (argsL := argsL) (rest := rest) (hlen _ hsigM) hstack hdg
  rcases hK m meth c ⟨T.setVm vm₁, locs, cells, slots⟩ { g with stack := rest } (.invokevirtual index) mk (Value.ref b :: argsL).toArray X₁ hg hsize hdg hW (X₁.named hnamed) (hpre vm₁ X₁.warmed) with ⟨v, B, X', hpost, hsteps⟩ | ⟨q, B, X', hpost, hsteps⟩
  · exact Or.inl ⟨v, vm₁, B, X₁.warmed, X', hpost, fun target h => hstep₁ _ fun acts => by rw [doInvoke_state]; exact hsteps.trans h⟩
  · exact Or.inr ⟨q, vm₁, B, X₁.warmed, X', hpost, hstep₁ _ fun acts => by rw [doInvoke_state]; exact hsteps⟩
theorem vx_callSX (X : Stand p l e R s m args below meth c T locs cells slots) (hexec : p.tables.exec = Jvm.exec) {own : String} {index : Nat} {y : MethodName} {bytes : ByteArray} {maxL : Nat} {ret : Option FieldType} {hh : List (Nat × Nat × Nat × Nat)}
    (hown : s.vm.findClass own = some m.cls) (hlink : (Cond.methodLink own index y).before args s = true) (hstat : (Cond.static y).before args s = true) (hinit : (Cond.initialized y.cls).before args s = true)
    (hcode : (Cond.codeWith y bytes maxL ret hh).before args s = true) (hy : y.cls ≠ "java/lang/invoke/MethodHandle" ∧ y.cls ≠ "java/lang/invoke/VarHandle")
    {W9 : Nat} {Pre : Pt → Array Value → Prop} {Post : Pt → Array Value → Option Value → Pt → Prop} {PostX : Pt → Array Value → Addr → Pt → Prop} (hK : vx_Back l R p e below s args y 3 W9 Pre Post PostX)
    {g : JFrame} (hg : g.method = m) (hsize : g.locals.size = c.maxLocals) {argsL rest : List Value} (hlen : ∀ sig, parseMethodDescriptor y.desc = some sig → argsL.length = sig.parameters.length)
    (hstack : g.stack = argsL.reverse ++ rest) (hW : 2 * g.monitorRoom + (rest.map fun v => v.category).sum ≤ W9) (hdg : decode c.code g.pc = .ok (.invokestatic index, 3))
    (hpre : ∀ vm₁, s.WarmedH vm₁ → Pre ⟨T.setVm vm₁, locs, cells, slots⟩ argsL.toArray) :
    (∃ (v : Option Value) (vm₁ : Vm) (B : Pt), s.WarmedH vm₁ ∧ Stand p l e R s m args below meth c B.U B.locs B.cells B.slots ∧ Post ⟨T.setVm vm₁, locs, cells, slots⟩ argsL.toArray v B ∧
      ∀ target, Steps p.tables e below (B.U.setTop { g with pc := g.pc + 3, stack := v.toList ++ rest }) target → Steps p.tables e below (T.setTop g) target) ∨
    (∃ (q : Addr) (vm₁ : Vm) (B : Pt), s.WarmedH vm₁ ∧ Stand p l e R s m args below meth c B.U B.locs B.cells B.slots ∧ PostX ⟨T.setVm vm₁, locs, cells, slots⟩ argsL.toArray q B ∧
      Steps p.tables e below (T.setTop g) ((B.U.setTop { g with stack := rest }).pushFrame (.throwing q))) := by
  obtain ⟨mk, methM, cM, hnamed, hmethM, -, -, -, -, -, -, hsigM⟩ := Cond.codeWith_spec hcode
  have hstatic : methM.isStatic = true := Cond.static_spec hnamed hmethM hstat
  obtain ⟨kP, hkP, -⟩ := className_of_methodNamed hnamed
  have hinitP : kP.init = .initialized := Cond.initialized_spec (findClass_of_methodNamed hnamed) hkP hinit
  obtain ⟨vm₁, X₁, hstep₁⟩ := X.invokestatic hexec hown hlink hnamed hmethM hstatic hkP hinitP hy (g := g) hg (argsL := argsL) (rest := rest) (hlen _ hsigM) hstack hdg
  rcases hK m meth c ⟨T.setVm vm₁, locs, cells, slots⟩ { g with stack := rest } (.invokestatic index) mk argsL.toArray X₁ hg hsize hdg hW (X₁.named hnamed) (hpre vm₁ X₁.warmed) with ⟨v, B, X', hpost, hsteps⟩ | ⟨q, B, X', hpost, hsteps⟩
  · exact Or.inl ⟨v, vm₁, B, X₁.warmed, X', hpost, fun target h => hstep₁ _ fun acts => by rw [doInvoke_state]; exact hsteps.trans h⟩
  · exact Or.inr ⟨q, vm₁, B, X₁.warmed, X', hpost, hstep₁ _ fun acts => by rw [doInvoke_state]; exact hsteps⟩
theorem vx_callVW (X : Stand p l e R s m args below meth c T locs cells slots) (hexec : p.tables.exec = Jvm.exec) {own C : String} {index : Nat} {y : MethodName} {bytes : ByteArray} {maxL : Nat} {ret : Option FieldType} {hh : List (Nat × Nat × Nat × Nat)}
    (hown : s.vm.findClass own = some m.cls) (hlink : (Cond.methodLink own index y).before args s = true) (hinst : (Cond.instanceMethod y).before args s = true) (hsel : (Cond.selects C y y).before args s = true)
    (hcode : (Cond.codeWith y bytes maxL ret hh).before args s = true) (hy : y.cls ≠ "java/lang/invoke/MethodHandle" ∧ y.cls ≠ "java/lang/invoke/VarHandle")
    {W9 : Nat} {Pre : Pt → Array Value → Prop} {Post : Pt → Array Value → Option Value → Pt → Prop} (hK : Back l R p e below s args y 3 W9 Pre Post)
    {b : Addr} {cellB : Cell} (hcell : T.heap[b]? = some cellB) (hobj : cellB.vm.isStatics = false) (hcls : s.vm.findClass C = some cellB.cls)
    {g : JFrame} (hg : g.method = m) (hsize : g.locals.size = c.maxLocals) {argsL rest : List Value} (hlen : ∀ sig, parseMethodDescriptor y.desc = some sig → argsL.length = sig.parameters.length)
    (hstack : g.stack = argsL.reverse ++ .ref b :: rest) (hW : 2 * g.monitorRoom + (rest.map fun v => v.category).sum ≤ W9) (hdg : decode c.code g.pc = .ok (.invokevirtual index, 3))
    (hpre : ∀ vm₁, s.WarmedH vm₁ → Pre ⟨T.setVm vm₁, locs, cells, slots⟩ (Value.ref b :: argsL).toArray) :
    ∃ (v : Option Value) (vm₁ : Vm) (B : Pt), s.WarmedH vm₁ ∧ Stand p l e R s m args below meth c B.U B.locs B.cells B.slots ∧ Post ⟨T.setVm vm₁, locs, cells, slots⟩ (Value.ref b :: argsL).toArray v B ∧
      ∀ target, Steps p.tables e below (B.U.setTop { g with pc := g.pc + 3, stack := v.toList ++ rest }) target → Steps p.tables e below (T.setTop g) target := by
  obtain ⟨mk, methM, hnamed, hmethM, hstM, habM⟩ := Cond.instanceMethod_spec hinst
  obtain ⟨m8, methM', cM, hn8, hmethM', -, -, -, -, -, -, hsigM⟩ := Cond.codeWith_spec hcode
  cases Option.some.inj (hn8.symm.trans hnamed)
  cases hmethM.symm.trans hmethM'
  obtain ⟨c2, r2, m2, q1, q2, q3, q4, kP, hkP, hkPi⟩ := Cond.selects_spec hsel
  cases hcls.symm.trans q1
  cases (State.methodFound?_of_named hnamed hy).symm.trans q2
  cases hnamed.symm.trans q3
  have hselP : selectMethod e.platform s.vm cellB.cls mk = .method mk := by rw [Launch.admits_selectMethod X.admits]; exact q4
  obtain ⟨vm₁, X₁, hstep₁⟩ := X.invokevirtual hexec hown hlink hnamed hmethM hstM hkP hkPi hy (a := b) (cell := cellB) hcell
    (fun z h => by rw [h] at hobj; cases hobj) hselP hmethM habM hkP hkPi (g := g) hg (argsL := argsL) (rest := rest) (hlen _ hsigM) hstack hdg
  obtain ⟨v, B, X', hpost, hsteps⟩ := hK m meth c ⟨T.setVm vm₁, locs, cells, slots⟩ { g with stack := rest } (.invokevirtual index) mk (Value.ref b :: argsL).toArray X₁ hg hsize hdg hW (X₁.named hnamed) (hpre vm₁ X₁.warmed)
  exact ⟨v, vm₁, B, X₁.warmed, X', hpost, fun target h => hstep₁ _ fun acts => by rw [doInvoke_state]; exact hsteps.trans h⟩
abbrev vx_CVW (R : Room) (s : State) (args : Array Value) (own C : String) (index : Nat) (y : MethodName) (bytes : ByteArray) (maxL : Nat) (ret : Option FieldType) (hh : List (Nat × Nat × Nat × Nat)) (ws : List Cond) (rm : Room) (mc ms n : Nat) : Prop :=
  (rm.cells = mc ∧ rm.slots = ms ∧ rm.frames + 1 ≤ R.frames ∧ 8 + (maxL + 11) + rm.locals ≤ R.locals ∧ (∀ w ∈ ws, ∀ (a' : Array Value) (U : State), s.WarmedH U.vm → w.before a' U = true) ∧ Cond.codeWith y bytes maxL ret hh ∈ ws) ∧
  (Cond.codeWith y bytes maxL ret hh).before args s = true ∧ (Cond.initialized y.cls).before args s = true ∧ (y.cls ≠ "java/lang/invoke/MethodHandle" ∧ y.cls ≠ "java/lang/invoke/VarHandle") ∧
  (∀ sig, parseMethodDescriptor y.desc = some sig → n = sig.parameters.length) ∧ (Cond.methodLink own index y).before args s = true ∧ (Cond.instanceMethod y).before args s = true ∧ (Cond.selects C y y).before args s = true
theorem vx_cwVW {own C : String} {index maxL mc ms : Nat} {y : MethodName} {bytes : ByteArray} {ret : Option FieldType} {hh : List (Nat × Nat × Nat × Nat)} {Ts ws ws' : List Cond} {rm : Room} (n : Nat) (ht : ∀ w ∈ Ts, w.before args s = true) (hT : GoodIn Ts (wsV own index C y ws)) (hw : ws = Cond.codeWith y bytes maxL ret hh :: ws') (hrc : rm.cells = mc) (hrs : rm.slots = ms)
    (hd : y.cls = C ∧ y.cls ≠ "java/lang/invoke/MethodHandle" ∧ y.cls ≠ "java/lang/invoke/VarHandle" ∧ (parseMethodDescriptor y.desc).map (fun d => d.parameters.length) = some n) (hR : rm.frames + 1 ≤ R.frames ∧ 8 + (maxL + 11) + rm.locals ≤ R.locals) :
    vx_CVW R s args own C index y bytes maxL ret hh ws rm mc ms n := by
  obtain ⟨hC, hd⟩ := hd
  subst hC
  have ok : ∀ w ∈ wsV own index y.cls y ws, w.before args s = true := fun w h => ht w (hT w h).1
  have hG : GoodIn Ts ws := fun w h => hT w (by unfold wsV; exact List.mem_append_right _ h)
  have hc : Cond.codeWith y bytes maxL ret hh ∈ ws := by rw [hw]; exact List.mem_cons_self
  refine ⟨⟨hrc, hrs, hR.1, hR.2, pay_in ht hG, hc⟩, ht _ (hG _ hc).1, ok _ (by simp [wsV]), ⟨hd.1, hd.2.1⟩, fun sig h => ?_, ok _ (by simp [wsV]), ok _ (by simp [wsV]), ok _ (by simp [wsV])⟩
  have h2 := hd.2.2
  rw [h] at h2
  exact (Option.some.inj h2).symm
theorem vx_runVW {y : MethodName} {bytes cc : ByteArray} {maxL nL mc ms n index : Nat} {ret : Option FieldType} {hh : List (Nat × Nat × Nat × Nat)} {ws : List Cond} {rm : Room} {Pc : Array Value → State → Prop} {Qc : Array Value → State → Outcome → State → Prop} {free : Addr → Prop} {Ts : List Cond} {own C : String} {b : Addr} {As rest : List Value} {g : JFrame}
    (S : CallFix p m c cc nL s args Ts own) (hM : Met l y ws rm Pc Qc mc ms free) (cw : vx_CVW R s args own C index y bytes maxL ret hh ws rm mc ms n) (hp : PreV s H C b Pc As)
    (hg : g.method = m) (hn : As.length = n) (hsize : g.locals.size = nL) (hstack : g.stack = As.reverse ++ .ref b :: rest) (hW : 2 * g.monitorRoom + (rest.map fun v => v.category).sum ≤ 8) (hdg : decode cc g.pc = .ok (.invokevirtual index, 3)) (hf : cells + mc ≤ R.cells ∧ slots + ms ≤ R.slots) :
    va_Run p l e R s m args below meth c H locs cells slots mc ms g rest (Qc (Value.ref b :: As).toArray) free := by
  obtain ⟨⟨hrc, hrs, hfr, hlo, hws, hcw⟩, hcode, hini, hy, hlen, hl, hin, hse⟩ := cw
  have hK : Back l R p e below s args y 3 8 (PreOf R mc ms Pc) (PostOf Qc mc ms free) := va_backW (hh := hh) (bytes := bytes) (maxL := maxL) (ret := ret) hM hp.1 hrc hrs hfr hlo hws hcw (fun a' U hW => word_at hW (Or.inl (by first | rfl | simp [Cond.onTables, Cond.keeps, Cond.steady])) hini)
  obtain ⟨hx, hb, hml, ho, -⟩ := S
  obtain ⟨-, ⟨cellB, hcB, hoB, hclB⟩, hPc⟩ := hp
  intro T hT X
  obtain ⟨v, vm₁, ⟨U', l2, c2, s2⟩, hW₁, X', ⟨g', mk, t, L, e1, e2, hq, h1, hL, h2, h3⟩, st⟩ := vx_callVW X hx (C := C) (hh := hh) (bytes := bytes) (maxL := maxL) (ret := ret) ho hl hin hse hcode hy hK (by rw [hT]; exact hcB) hoB hclB hg (hsize.trans hml.symm) (argsL := As) (rest := rest) (fun sig h => hn.trans (hlen sig h)) hstack hW (by rw [hb]; exact hdg)
    (fun vm₁ hW₁ => ⟨hf.1, hf.2, hPc (T.setVm vm₁) hT hW₁⟩)
  dsimp only [Pt.U, Pt.locs, Pt.cells, Pt.slots] at X' e1 e2 h1 h2 h3 st
  subst h1; subst h2; subst h3
  exact ⟨v, (T.setVm vm₁).calling g' mk (Value.ref b :: As).toArray, t, U', L, hT, X', hL, e1, e2, hq, st⟩
section
variable {y : MethodName} {bytes cc : ByteArray} {maxL nL mc ms n index : Nat} {ret : Option FieldType} {ws : List Cond} {rm : Room} {Pc : Array Value → State → Prop} {Qc : Array Value → State → Outcome → State → Prop} {XC : String → State → State → Prop} {free : Addr → Prop} {Ts : List Cond} {own C : String} {b : Addr} {As rest : List Value} {g : JFrame}
theorem vx_runVX {hh : List (Nat × Nat × Nat × Nat)} (S : CallFix p m c cc nL s args Ts own) (hM : vx_Met l y ws rm Pc Qc XC mc ms free) (cw : vx_CVW R s args own C index y bytes maxL ret hh ws rm mc ms n) (hp : PreV s H C b Pc As)
    (hg : g.method = m) (hn : As.length = n) (hsize : g.locals.size = nL) (hstack : g.stack = As.reverse ++ .ref b :: rest) (hW : 2 * g.monitorRoom + (rest.map fun v => v.category).sum ≤ 8) (hdg : decode cc g.pc = .ok (.invokevirtual index, 3)) (hf : cells + mc ≤ R.cells ∧ slots + ms ≤ R.slots) :
    vx_Run p l e R s m args below meth c H locs cells slots mc ms g rest (Qc (Value.ref b :: As).toArray) XC free := by
  obtain ⟨⟨hrc, hrs, hfr, hlo, hws, hcw⟩, hcode, hini, hy, hlen, hl, hin, hse⟩ := cw
  have hK : vx_Back l R p e below s args y 3 8 (PreOf R mc ms Pc) (PostOf Qc mc ms free) (vx_Post XC mc ms free) := vx_backW (hh := hh) (bytes := bytes) (maxL := maxL) (ret := ret) hM hp.1 hrc hrs hfr hlo hws hcw (fun a' U hW => word_at hW (Or.inl (by first | rfl | simp [Cond.onTables, Cond.keeps, Cond.steady])) hini)
  obtain ⟨hx, hb, hml, ho, -⟩ := S
  obtain ⟨-, ⟨cellB, hcB, hoB, hclB⟩, hPc⟩ := hp
  intro T hT X
  rcases vx_callVX X hx (C := C) (hh := hh) (bytes := bytes) (maxL := maxL) (ret := ret) ho hl hin hse hcode hy hK (by rw [hT]; exact hcB) hoB hclB hg (hsize.trans hml.symm) (argsL := As) (rest := rest) (fun sig h => hn.trans (hlen sig h)) hstack hW (by rw [hb]; exact hdg)
    (fun vm₁ hW₁ => ⟨hf.1, hf.2, hPc (T.setVm vm₁) hT hW₁⟩) with ⟨v, vm₁, ⟨U', l2, c2, s2⟩, hW₁, X', ⟨g', mk, t, L, e1, e2, hq, h1, hL, h2, h3⟩, st⟩ | ⟨q, vm₁, ⟨U', l2, c2, s2⟩, hW₁, X', ⟨g', mk, t, L, E, ce, e1, e2, hq, hce, hcv, hcl, h1, hL, h2, h3⟩, st⟩
  · dsimp only [Pt.U, Pt.locs, Pt.cells, Pt.slots] at X' e1 e2 h1 h2 h3 st
    subst h1; subst h2; subst h3
    exact Or.inl ⟨v, (T.setVm vm₁).calling g' mk (Value.ref b :: As).toArray, t, U', L, hT, X', hL, e1, e2, hq, st⟩
  · dsimp only [Pt.U, Pt.locs, Pt.cells, Pt.slots] at X' e1 e2 h1 h2 h3 st hcl
    subst h1; subst h2; subst h3
    exact Or.inr ⟨q, (T.setVm vm₁).calling g' mk (Value.ref b :: As).toArray, t, U', L, E, ce, hT, X', hL, e1, e2, hq, hce, hcv, vx_cls hW₁ hcl, st⟩
theorem vx_runSX {hh : List (Nat × Nat × Nat × Nat)} (S : CallFix p m c cc nL s args Ts own) (hM : vx_Met l y ws rm Pc Qc XC mc ms free) (cw : vx_CSW R s args own index y bytes maxL ret hh ws rm mc ms n) (hp : PreS s H Pc As)
    (hg : g.method = m) (hn : As.length = n) (hsize : g.locals.size = nL) (hstack : g.stack = As.reverse ++ rest) (hW : 2 * g.monitorRoom + (rest.map fun v => v.category).sum ≤ 8) (hdg : decode cc g.pc = .ok (.invokestatic index, 3)) (hf : cells + mc ≤ R.cells ∧ slots + ms ≤ R.slots) :
    vx_Run p l e R s m args below meth c H locs cells slots mc ms g rest (Qc As.toArray) XC free := by
  obtain ⟨⟨hrc, hrs, hfr, hlo, hws, hcw⟩, hcode, hini, hy, hlen, hl, hstt⟩ := cw
  have hK : vx_Back l R p e below s args y 3 8 (PreOf R mc ms Pc) (PostOf Qc mc ms free) (vx_Post XC mc ms free) := vx_backW (hh := hh) (bytes := bytes) (maxL := maxL) (ret := ret) hM hp.1 hrc hrs hfr hlo hws hcw (fun a' U hW => word_at hW (Or.inl (by first | rfl | simp [Cond.onTables, Cond.keeps, Cond.steady])) hini)
  obtain ⟨hx, hb, hml, ho, -⟩ := S
  intro T hT X
  rcases vx_callSX X hx (hh := hh) (bytes := bytes) (maxL := maxL) (ret := ret) ho hl hstt hini hcode hy hK hg (hsize.trans hml.symm) (argsL := As) (rest := rest) (fun sig h => hn.trans (hlen sig h)) hstack hW (by rw [hb]; exact hdg)
    (fun vm₁ hW₁ => ⟨hf.1, hf.2, hp.2 (T.setVm vm₁) hT hW₁⟩) with ⟨v, vm₁, ⟨U', l2, c2, s2⟩, hW₁, X', ⟨g', mk, t, L, e1, e2, hq, h1, hL, h2, h3⟩, st⟩ | ⟨q, vm₁, ⟨U', l2, c2, s2⟩, hW₁, X', ⟨g', mk, t, L, E, ce, e1, e2, hq, hce, hcv, hcl, h1, hL, h2, h3⟩, st⟩
  · dsimp only [Pt.U, Pt.locs, Pt.cells, Pt.slots] at X' e1 e2 h1 h2 h3 st
    subst h1; subst h2; subst h3
    exact Or.inl ⟨v, (T.setVm vm₁).calling g' mk As.toArray, t, U', L, hT, X', hL, e1, e2, hq, st⟩
  · dsimp only [Pt.U, Pt.locs, Pt.cells, Pt.slots] at X' e1 e2 h1 h2 h3 st hcl
    subst h1; subst h2; subst h3
    exact Or.inr ⟨q, (T.setVm vm₁).calling g' mk As.toArray, t, U', L, E, ce, hT, X', hL, e1, e2, hq, hce, hcv, vx_cls hW₁ hcl, st⟩
end
end VXH
theorem vx_ofWH {l : Launch} {y : MethodName} {ws ws' : List Cond} {rm : Room} {Pc : Array Value → State → Prop} {Qc : Array Value → State → Outcome → State → Prop} {XC : String → State → State → Prop} {mc ms : Nat} {free : Addr → Prop} {cc : ByteArray} {maxL : Nat} {ret : Option FieldType} {hh : List (Nat × Nat × Nat × Nat)}
    (hy : plainName y.cls = true) (hw : ws = Cond.codeWith y cc maxL ret hh :: ws')
    (body : ∀ p e s m args below meth c s₁, BodyLoose p l y (headSpec ws rm) cc maxL ret e s m args below meth c s₁ → c.maxLocals = maxL → Pc args s →
      W p l e (headSpec ws rm).room s m args below meth c s.heap [] 0 0 (vx_MQ below Qc XC args s mc ms free) (entryFrame m args maxL)) : vx_Met l y ws rm Pc Qc XC mc ms free := by
  refine MetFree.of_bodyS (code := cc) (maxLocals := maxL) (ret := ret) hy ?_ ?_
  · intro args s m h hn
    obtain ⟨m9, meth, c, hn9, h1, h2, h3, h4, -, h5, h6, -⟩ := Cond.codeWith_spec (atoms_spec (ws := ws) h _ (by rw [hw]; exact List.mem_cons_self))
    cases hn.symm.trans hn9
    exact ⟨meth, c, h1, h2, h3, h4, h5, h6⟩
  · intro p e s m args below meth c s₁ B hml hP _
    have hh0 : s₁.heap = s.heap := by rw [B.state]; rfl
    obtain ⟨t, a1, o, b1, b2, b3⟩ := body p e s m args below meth c s₁ B hml hP s₁ hh0 (Stand.of_body B)
    exact ⟨t, o, a1, b1, b2, b3⟩
/-! ===== END ===== -/
end
section
/-! numbers: a Java int as a whole number -/
def iI (z : Int) : Int32 := Int32.ofInt z
def rg (z : Int) : Prop := -2147483648 ≤ z ∧ z ≤ 2147483647
theorem iI_toInt {z : Int} (h : rg z) : (iI z).toInt = z := Int32.toInt_ofInt_of_le (by have := h.1; omega) (by have := h.2; omega)
theorem iI_add (a b : Int) : iI a + iI b = iI (a + b) := (Int32.ofInt_add a b).symm
theorem iI_sub (a b : Int) : iI a - iI b = iI (a - b) := (Int32.ofInt_sub a b).symm
theorem iI_mul (a b : Int) : iI a * iI b = iI (a * b) := (Int32.ofInt_mul a b).symm
theorem iI_neg (a : Int) : - iI a = iI (-a) := (Int32.ofInt_neg a).symm
theorem iI_of (x : Int32) : x = iI x.toInt := (Int32.ofInt_toInt x).symm
theorem iI_nI (n : Nat) : nI n = iI (n : Int) := Int32.ofInt_eq_ofNat.symm
theorem rg_toInt (x : Int32) : rg x.toInt := ⟨by have := x.le_toInt; omega, by have := x.toInt_lt; omega⟩
theorem iI_lt {a b : Int} (ha : rg a) (hb : rg b) : iI a < iI b ↔ a < b := by rw [Int32.lt_iff_toInt_lt, iI_toInt ha, iI_toInt hb]
theorem iI_le {a b : Int} (ha : rg a) (hb : rg b) : iI a ≤ iI b ↔ a ≤ b := by rw [Int32.le_iff_toInt_le, iI_toInt ha, iI_toInt hb]
theorem iI_eq {a b : Int} (ha : rg a) (hb : rg b) : iI a = iI b ↔ a = b := by
  refine ⟨fun h => ?_, fun h => by rw [h]⟩
  have h2 := congrArg Int32.toInt h
  rwa [iI_toInt ha, iI_toInt hb] at h2
theorem iI_clamp {z : Int} (h0 : 0 ≤ z) (h : rg z) : (iI z).toNatClampNeg = z.toNat := by
  show (Int32.ofInt z).toNatClampNeg = z.toNat
  rw [Int32.toNatClampNeg_ofInt_of_le (by omega) (by have := h.2; omega)]
theorem iI_zero : iI 0 = 0 := rfl
theorem iI_in {z : Int} {n : Nat} (h0 : 0 ≤ z) (h1 : z < n) (hn : (n : Int) ≤ 2147483647) : vp_in (iI z) n := by
  have hr : rg z := ⟨by omega, by omega⟩
  intro h
  rcases h with h | h
  · rw [← iI_zero, iI_lt hr ⟨by omega, by omega⟩] at h
    omega
  · rw [iI_clamp h0 hr] at h
    omega
theorem iI_div {a b : Int} (ha : rg a) (hb : rg b) (h : b ≠ -1) : iI a / iI b = iI (a.tdiv b) := by
  apply Int32.toInt_inj.mp
  rw [Int32.toInt_div_of_ne_right _ _ (fun e => h ((iI_eq hb ⟨by omega, by omega⟩).mp e)), iI_toInt ha, iI_toInt hb]
  rw [iI_toInt]
  obtain ⟨a1, a2⟩ := ha
  have h1 : (a.tdiv b).natAbs ≤ a.natAbs := Int.natAbs_tdiv_le_natAbs a b
  have h3 : a.tdiv b ≠ 2147483648 := by
    intro e
    have h4 : a.natAbs = 2147483648 := by omega
    have h5 : a = -2147483648 := by omega
    by_cases hb0 : b = 0
    · subst hb0; simp at e
    · have h6 : b.natAbs = 1 := by
        have := Int.natAbs_tdiv a b
        rw [e, h4] at this
        have h7 : 2147483648 = 2147483648 / b.natAbs := this
        rcases Nat.lt_or_ge b.natAbs 2 with q | q
        · omega
        · exfalso
          have h8 : 2147483648 / b.natAbs ≤ 2147483648 / 2 := Nat.div_le_div_left q (by omega)
          rw [← h7] at h8
          omega
      rcases Int.natAbs_eq b with q | q
      · rw [h6] at q
        subst q
        simp at e
        omega
      · exact h (by omega)
  exact ⟨by omega, by omega⟩
theorem iI_rem {a b : Int} (ha : rg a) (hb : rg b) (h : b ≠ -1) : iI a - iI a / iI b * iI b = iI (a.tmod b) := by
  rw [iI_div ha hb h, iI_mul, iI_sub]
  congr 1
  rw [Int.tmod_def, Int.mul_comm b]
/-- a byte out of an int -/
def wB (z : Int) : Int := (z + 128) % 256 - 128
theorem wB_in (z : Int) : -128 ≤ wB z ∧ wB z ≤ 127 := by unfold wB; omega
theorem iI_i2b (z : Int) : (iI z).toInt8.toInt32 = iI (wB z) := by
  apply Int32.toInt_inj.mp
  rw [iI_toInt (by have := wB_in z; exact ⟨by omega, by omega⟩)]
  show (Int32.ofInt z).toInt8.toInt32.toInt = _
  simp [wB]
  have h8 : ((Int8.size : Nat) : Int) = 256 := rfl
  simp only [Int.bmod_def, h8]
  split <;> omega
def updI (F : Nat → Int) (i : Nat) (z : Int) : Nat → Int := fun j => if j = i then z else F j
def up2 (V : Nat → Nat → Int) (k i : Nat) (z : Int) : Nat → Nat → Int := fun k' => if k' = k then updI (V k) i z else V k'
theorem updI_s (F : Nat → Int) (i : Nat) (z : Int) : updI F i z i = z := if_pos rfl
theorem updI_n {F : Nat → Int} {i j : Nat} {z : Int} (h : j ≠ i) : updI F i z j = F j := if_neg h
theorem up2_s (V : Nat → Nat → Int) (k i : Nat) (z : Int) : up2 V k i z k i = z := by simp [up2, updI]
theorem up2_n {V : Nat → Nat → Int} {k i k' j : Nat} {z : Int} (h : k' ≠ k ∨ j ≠ i) : up2 V k i z k' j = V k' j := by
  unfold up2
  split
  · rename_i e
    rw [updI_n (by rcases h with h | h; exact absurd e h; exact h), e]
  · rfl
theorem up2_r {V : Nat → Nat → Int} {k i k' : Nat} {z : Int} (h : k' ≠ k) : up2 V k i z k' = V k' := if_neg h
/-- true is 1 -/
def bI (P : Prop) [Decidable P] : Int := if P then 1 else 0
theorem bI_in (P : Prop) [Decidable P] : 0 ≤ bI P ∧ bI P ≤ 1 := by unfold bI; split <;> omega
end
section
/-! the classes of the system, their fields in the order of the slots -/
def R0 : String := "ChannelSchedule$Input"
def T0 : u_T := fun k => match k with
  | 0 => ("ChannelSchedule$Input", "bytes", "[B", true)
  | 1 => ("ChannelSchedule$Input", "length", "I", false)
  | 2 => ("ChannelSchedule$Input", "errorCode", "I", false)
  | 3 => ("ChannelSchedule$Input", "errorPosition", "I", false)
  | 4 => ("ChannelSchedule$Input", "kind", "I", false)
  | 5 => ("ChannelSchedule$Input", "tokenStart", "I", false)
  | 6 => ("ChannelSchedule$Input", "at", "I", false)
  | _ => ("ChannelSchedule$Input", "number", "I", false)
def R1 : String := "ChannelSchedule$Plan"
def T1 : u_T := fun k => match k with
  | 0 => ("ChannelSchedule$Plan", "thickness", "I", false)
  | 1 => ("ChannelSchedule$Plan", "minute", "I", false)
  | 2 => ("ChannelSchedule$Plan", "made", "I", false)
  | 3 => ("ChannelSchedule$Plan", "cancelled", "I", false)
  | 4 => ("ChannelSchedule$Plan", "served", "I", false)
  | 5 => ("ChannelSchedule$Plan", "bookings", "I", false)
  | 6 => ("ChannelSchedule$Plan", "ships", "[I", true)
  | 7 => ("ChannelSchedule$Plan", "inbound", "[Z", true)
  | 8 => ("ChannelSchedule$Plan", "starts", "[I", true)
  | 9 => ("ChannelSchedule$Plan", "ends", "[I", true)
  | 10 => ("ChannelSchedule$Plan", "requests", "I", false)
  | 11 => ("ChannelSchedule$Plan", "waitingShips", "[I", true)
  | 12 => ("ChannelSchedule$Plan", "waitingInbound", "[Z", true)
  | 13 => ("ChannelSchedule$Plan", "earliest", "[I", true)
  | _ => ("ChannelSchedule$Plan", "latest", "[I", true)
def R2 : String := "ChannelSchedule$Script"
def T2 : u_T := fun k => match k with
  | 0 => ("ChannelSchedule$Script", "count", "I", false)
  | 1 => ("ChannelSchedule$Script", "verbs", "[I", true)
  | 2 => ("ChannelSchedule$Script", "ships", "[I", true)
  | 3 => ("ChannelSchedule$Script", "inbound", "[Z", true)
  | 4 => ("ChannelSchedule$Script", "firsts", "[I", true)
  | _ => ("ChannelSchedule$Script", "seconds", "[I", true)
def R3 : String := "ChannelSchedule$Setup"
def T3 : u_T := fun k => match k with
  | 0 => ("ChannelSchedule$Setup", "headway", "I", false)
  | 1 => ("ChannelSchedule$Setup", "clearance", "I", false)
  | 2 => ("ChannelSchedule$Setup", "thickness", "I", false)
  | 3 => ("ChannelSchedule$Setup", "shipCount", "I", false)
  | _ => ("ChannelSchedule$Setup", "ships", "[LChannelSchedule$Ship;", true)
def R4 : String := "ChannelSchedule$Ship"
def T4 : u_T := fun k => match k with
  | 0 => ("ChannelSchedule$Ship", "name", "[B", true)
  | 1 => ("ChannelSchedule$Ship", "nameLength", "I", false)
  | 2 => ("ChannelSchedule$Ship", "time", "I", false)
  | 3 => ("ChannelSchedule$Ship", "iceClass", "I", false)
  | _ => ("ChannelSchedule$Ship", "weight", "I", false)
def R5 : String := "ChannelSchedule"
def T5 : u_T := fun k => match k with
  | 0 => ("ChannelSchedule", "input", "LChannelSchedule$Input;", true)
  | 1 => ("ChannelSchedule", "script", "LChannelSchedule$Script;", true)
  | 2 => ("ChannelSchedule", "setup", "LChannelSchedule$Setup;", false)
  | 3 => ("ChannelSchedule", "draft", "LChannelSchedule$Setup;", false)
  | 4 => ("ChannelSchedule", "plan", "LChannelSchedule$Plan;", true)
  | 5 => ("ChannelSchedule", "kept", "LChannelSchedule$Plan;", true)
  | 6 => ("ChannelSchedule", "past", "[LChannelSchedule$Plan;", true)
  | 7 => ("ChannelSchedule", "latestPast", "I", false)
  | 8 => ("ChannelSchedule", "pastCount", "I", false)
  | 9 => ("ChannelSchedule", "saved", "[LChannelSchedule$Plan;", true)
  | 10 => ("ChannelSchedule", "isSaved", "[Z", true)
  | 11 => ("ChannelSchedule", "excluded", "[I", true)
  | 12 => ("ChannelSchedule", "output", "[B", true)
  | _ => ("ChannelSchedule", "outputLength", "I", false)
def R6 : String := "ChannelScheduleLaw$Own"
def T6 : u_T := fun k => match k with
  | 0 => ("ChannelScheduleLaw$Own", "x", "LChannelSchedule;", true)
  | 1 => ("ChannelScheduleLaw$Own", "ship", "[I", true)
  | 2 => ("ChannelScheduleLaw$Own", "in", "[Z", true)
  | 3 => ("ChannelScheduleLaw$Own", "start", "[I", true)
  | 4 => ("ChannelScheduleLaw$Own", "end", "[I", true)
  | 5 => ("ChannelScheduleLaw$Own", "many", "I", false)
  | 6 => ("ChannelScheduleLaw$Own", "wantedShip", "[I", true)
  | 7 => ("ChannelScheduleLaw$Own", "wantedIn", "[Z", true)
  | 8 => ("ChannelScheduleLaw$Own", "first", "[I", true)
  | 9 => ("ChannelScheduleLaw$Own", "last", "[I", true)
  | 10 => ("ChannelScheduleLaw$Own", "waiting", "I", false)
  | _ => ("ChannelScheduleLaw$Own", "served", "I", false)
def R7 : String := "java/lang/StringBuilder"
def T7 : u_T := fun k => match k with
  | 0 => ("java/lang/AbstractStringBuilder", "value", "[B", false)
  | 1 => ("java/lang/AbstractStringBuilder", "coder", "B", false)
  | 2 => ("java/lang/AbstractStringBuilder", "maybeLatin1", "Z", false)
  | _ => ("java/lang/AbstractStringBuilder", "count", "I", false)
def R8 : String := "java/lang/String"
def T8 : u_T := fun k => match k with
  | 0 => ("java/lang/String", "value", "[B", true)
  | 1 => ("java/lang/String", "coder", "B", true)
  | 2 => ("java/lang/String", "hash", "I", false)
  | _ => ("java/lang/String", "hashIsZero", "Z", false)
abbrev cls7 : List vw_C := [(R0, T0, 8), (R1, T1, 15), (R2, T2, 6), (R3, T3, 5), (R4, T4, 5), (R5, T5, 14), (R6, T6, 12), (R7, T7, 4), (R8, T8, 4)]
def tyO (d : String) : FieldType := (parseFieldDescriptor d).getD .int
theorem ty0_ok : ∀ k, k < 8 → parseFieldDescriptor (T0 k).2.2.1 = some (tyO (T0 k).2.2.1) := by decide +kernel
theorem ty1_ok : ∀ k, k < 15 → parseFieldDescriptor (T1 k).2.2.1 = some (tyO (T1 k).2.2.1) := by decide +kernel
theorem ty2_ok : ∀ k, k < 6 → parseFieldDescriptor (T2 k).2.2.1 = some (tyO (T2 k).2.2.1) := by decide +kernel
theorem ty3_ok : ∀ k, k < 5 → parseFieldDescriptor (T3 k).2.2.1 = some (tyO (T3 k).2.2.1) := by decide +kernel
theorem ty4_ok : ∀ k, k < 5 → parseFieldDescriptor (T4 k).2.2.1 = some (tyO (T4 k).2.2.1) := by decide +kernel
theorem ty5_ok : ∀ k, k < 14 → parseFieldDescriptor (T5 k).2.2.1 = some (tyO (T5 k).2.2.1) := by decide +kernel
theorem ty6_ok : ∀ k, k < 12 → parseFieldDescriptor (T6 k).2.2.1 = some (tyO (T6 k).2.2.1) := by decide +kernel
theorem ty7_ok : ∀ k, k < 4 → parseFieldDescriptor (T7 k).2.2.1 = some (tyO (T7 k).2.2.1) := by decide +kernel
theorem ty8_ok : ∀ k, k < 4 → parseFieldDescriptor (T8 k).2.2.1 = some (tyO (T8 k).2.2.1) := by decide +kernel
theorem nm0_ok : ∀ a, a < 8 → ∀ b, b < 8 → a ≠ b → (T0 a).2.1 ≠ (T0 b).2.1 := by decide +kernel
theorem nm1_ok : ∀ a, a < 15 → ∀ b, b < 15 → a ≠ b → (T1 a).2.1 ≠ (T1 b).2.1 := by decide +kernel
theorem nm2_ok : ∀ a, a < 6 → ∀ b, b < 6 → a ≠ b → (T2 a).2.1 ≠ (T2 b).2.1 := by decide +kernel
theorem nm3_ok : ∀ a, a < 5 → ∀ b, b < 5 → a ≠ b → (T3 a).2.1 ≠ (T3 b).2.1 := by decide +kernel
theorem nm4_ok : ∀ a, a < 5 → ∀ b, b < 5 → a ≠ b → (T4 a).2.1 ≠ (T4 b).2.1 := by decide +kernel
theorem nm5_ok : ∀ a, a < 14 → ∀ b, b < 14 → a ≠ b → (T5 a).2.1 ≠ (T5 b).2.1 := by decide +kernel
theorem nm6_ok : ∀ a, a < 12 → ∀ b, b < 12 → a ≠ b → (T6 a).2.1 ≠ (T6 b).2.1 := by decide +kernel
theorem nm7_ok : ∀ a, a < 4 → ∀ b, b < 4 → a ≠ b → (T7 a).2.1 ≠ (T7 b).2.1 := by decide +kernel
theorem nm8_ok : ∀ a, a < 4 → ∀ b, b < 4 → a ≠ b → (T8 a).2.1 ≠ (T8 b).2.1 := by decide +kernel
/-- the words that stay: of a warmed machine too -/
def LW : List Cond := lw_tbl.filter goodWord
theorem LW_m {w : Cond} (h : w ∈ lw_tbl) (g : goodWord w = true) : w ∈ LW := List.mem_filter.mpr ⟨h, g⟩
theorem LW_i {w : Cond} (i : Nat) (h : lw_tbl[i]? = some w) (g : goodWord w = true) : w ∈ LW := LW_m (List.mem_of_getElem? h) g
theorem LW_good {w : Cond} (h : w ∈ LW) : (w.onTables && w.keeps) = true ∨ ∃ ty, w = .arrayClass ty := good_of_word (List.mem_filter.mp h).2
theorem LW_tbl {w : Cond} (h : w ∈ LW) : w ∈ lw_tbl := (List.mem_filter.mp h).1
set_option maxRecDepth 100000 in
theorem ws_in : ((u_ws R0 T0 8 ++ u_ws R1 T1 15 ++ u_ws R2 T2 6 ++ u_ws R3 T3 5 ++ u_ws R4 T4 5 ++ u_ws R5 T5 14 ++ u_ws R6 T6 12 ++ u_ws R7 T7 4 ++ u_ws R8 T8 4).all fun w => decide (w ∈ tables_1) && goodWord w) = true := by decide +kernel
theorem ws_in1 {w : Cond} (h : w ∈ u_ws R0 T0 8 ++ u_ws R1 T1 15 ++ u_ws R2 T2 6 ++ u_ws R3 T3 5 ++ u_ws R4 T4 5 ++ u_ws R5 T5 14 ++ u_ws R6 T6 12 ++ u_ws R7 T7 4 ++ u_ws R8 T8 4) : w ∈ LW := by
  have h1 := List.all_eq_true.mp ws_in w h
  simp only [Bool.and_eq_true, decide_eq_true_eq] at h1
  exact LW_m (List.mem_append_right _ h1.1) h1.2
theorem ws0_in : ∀ w ∈ u_ws R0 T0 8, w ∈ LW := fun w h => ws_in1 (by simp only [List.mem_append]; simp [h])
theorem ws1_in : ∀ w ∈ u_ws R1 T1 15, w ∈ LW := fun w h => ws_in1 (by simp only [List.mem_append]; simp [h])
theorem ws2_in : ∀ w ∈ u_ws R2 T2 6, w ∈ LW := fun w h => ws_in1 (by simp only [List.mem_append]; simp [h])
theorem ws3_in : ∀ w ∈ u_ws R3 T3 5, w ∈ LW := fun w h => ws_in1 (by simp only [List.mem_append]; simp [h])
theorem ws4_in : ∀ w ∈ u_ws R4 T4 5, w ∈ LW := fun w h => ws_in1 (by simp only [List.mem_append]; simp [h])
theorem ws5_in : ∀ w ∈ u_ws R5 T5 14, w ∈ LW := fun w h => ws_in1 (by simp only [List.mem_append]; simp [h])
theorem ws6_in : ∀ w ∈ u_ws R6 T6 12, w ∈ LW := fun w h => ws_in1 (by simp only [List.mem_append]; simp [h])
theorem ws7_in : ∀ w ∈ u_ws R7 T7 4, w ∈ LW := fun w h => ws_in1 (by simp only [List.mem_append]; simp [h])
theorem ws8_in : ∀ w ∈ u_ws R8 T8 4, w ∈ LW := fun w h => ws_in1 (by simp only [List.mem_append]; simp [h])
/-- what stays fixed: the base, the classes' numbers and slots, the classes of arrays (int, boolean, byte, -, Ship, Plan), how many cells, whether these are all from the base on, the String constants and their bytes, the second base (of the cells from 148 on), cells that stay as they are, the script (its place, length, numbers), the rows of digits -/
abbrev GT : Type := Nat × va_G × (Nat → ClassId) × Nat × Bool × (Nat → Nat) × (Nat → Nat) × Nat × va_W × (Nat × Nat × (Nat → Int32)) × Nat × Nat
abbrev gB (G : GT) : Nat := G.1
abbrev gD (G : GT) : va_G := G.2.1
abbrev gA (G : GT) : Nat → ClassId := G.2.2.1
abbrev gN (G : GT) : Nat := G.2.2.2.1
abbrev gX (G : GT) : Bool := G.2.2.2.2.1
abbrev gK (G : GT) : Nat → Nat := G.2.2.2.2.2.1
abbrev gV (G : GT) : Nat → Nat := G.2.2.2.2.2.2.1
abbrev gC (G : GT) : Nat := G.2.2.2.2.2.2.2.1
abbrev gE (G : GT) : va_W := G.2.2.2.2.2.2.2.2.1
abbrev gSa (G : GT) : Nat := G.2.2.2.2.2.2.2.2.2.1.1
abbrev gSl (G : GT) : Nat := G.2.2.2.2.2.2.2.2.2.1.2.1
abbrev gSx (G : GT) : Nat → Int32 := G.2.2.2.2.2.2.2.2.2.1.2.2
abbrev gDo (G : GT) : Nat := G.2.2.2.2.2.2.2.2.2.2.1
abbrev gDt (G : GT) : Nat := G.2.2.2.2.2.2.2.2.2.2.2
abbrev tysG (G : GT) : List (ClassId × FieldType) := [(gA G 0, .int), (gA G 1, .boolean), (gA G 2, .byte), (gA G 3, .int), (gA G 4, .object R4), (gA G 5, .object R1)]
/-- where the cell k lies -/
def ad (G : GT) (k : Nat) : Nat := if k < 148 then gB G + k else gC G + k
theorem ad_lo {G : GT} {k : Nat} (h : k < 148) : ad G k = gB G + k := if_pos h
theorem ad_hi {G : GT} {k : Nat} (h : 148 ≤ k) : ad G k = gC G + k := if_neg (by omega)
theorem ad_z {G : GT} {k : Nat} (h : gC G = gB G) : ad G k = gB G + k := by
  unfold ad
  split
  · rfl
  · rw [h]
/-- where something may change -/
def gR (G : GT) (q : Nat) : Prop := gB G ≤ q ∧ (q < gB G + 148 ∨ gC G + 148 ≤ q)
theorem gR_ad {G : GT} {k : Nat} (h : gB G ≤ gC G) : gR G (ad G k) := by
  unfold gR ad
  split <;> omega
/-- where a plan (0 the present one, 1 the kept one, 2 to 7 the past ones, 8 and 9 the saved ones) and a setup lie -/
def aP (p : Nat) : Nat := if p < 2 then 53 + 9 * p else 58 + 9 * p
def aS (q : Nat) : Nat := 9 + 22 * q
def arI (cA : ClassId) (n : Nat) (row : Nat → Int) : va_E := .inl (cA, n, .inl (fun i => iI (row i)))
def arJ (cA : ClassId) (n : Nat) (row : Nat → Int) : va_E := .inl (cA, n, .inr (.inl (fun i => Int64.ofInt (row i))))
def arR (cA : ClassId) (n : Nat) (f : Nat → Option Nat) : va_E := .inl (cA, n, .inr (.inr (.inr (.inr f))))
abbrev vI (z : Int) : Value := .int (iI z)
def obPlan (b k : Nat) (r : Nat → Int) : va_E := .inr (1, [vI (r 0), vI (r 1), vI (r 2), vI (r 3), vI (r 4), vI (r 5), .ref (b + (k + 1)), .ref (b + (k + 2)), .ref (b + (k + 3)), .ref (b + (k + 4)), vI (r 10), .ref (b + (k + 5)), .ref (b + (k + 6)), .ref (b + (k + 7)), .ref (b + (k + 8))])
def obMain (b : Nat) (r : Nat → Int) : va_E := .inr (5, [.ref (b + 1), .ref (b + 3), .ref (b + aS (r 2).toNat), .ref (b + aS (r 3).toNat), .ref (b + aP 0), .ref (b + aP 1), .ref (b + 71), vI (r 7), vI (r 8), .ref (b + 72), .ref (b + 73), .ref (b + 74), .ref (b + 75), vI (r 13)])
def obInput (b : Nat) (r : Nat → Int) : va_E := .inr (0, [.ref (b + 2), vI (r 1), vI (r 2), vI (r 3), vI (r 4), vI (r 5), vI (r 6), vI (r 7)])
def obScript (b : Nat) (r : Nat → Int) : va_E := .inr (2, [vI (r 0), .ref (b + 4), .ref (b + 5), .ref (b + 6), .ref (b + 7), .ref (b + 8)])
def obSetup (b k : Nat) (r : Nat → Int) : va_E := .inr (3, [vI (r 0), vI (r 1), vI (r 2), vI (r 3), .ref (b + (k + 1))])
def obShip (b k : Nat) (r : Nat → Int) : va_E := .inr (4, [.ref (b + (k + 1)), vI (r 1), vI (r 2), vI (r 3), vI (r 4)])
def obOwn (b c : Nat) (r : Nat → Int) : va_E := .inr (6, [.ref (b + 0), .ref (c + 149), .ref (c + 150), .ref (c + 151), .ref (c + 152), vI (r 5), .ref (c + 153), .ref (c + 154), .ref (c + 155), .ref (c + 156), vI (r 10), vI (r 11)])
def celPlan (b : Nat) (A : Nat → ClassId) (k j : Nat) (r : Nat → Int) : va_E :=
  if j = 0 then obPlan b k r else if j = 2 then arI (A 1) 20 r else if j < 5 then arI (A 0) 20 r else if j = 6 then arI (A 1) 8 r else arI (A 0) 8 r
def celSetup (b : Nat) (A : Nat → ClassId) (k j : Nat) (r : Nat → Int) : va_E :=
  if j = 0 then obSetup b k r else if j = 1 then arR (A 4) 10 (fun i => some (b + ((k - 1) + 2 + 2 * i))) else if j % 2 = 0 then obShip b k r else arI (A 2) 6 r
/-- the cell k out of its row of numbers -/
def celOf (b c : Nat) (A : Nat → ClassId) (k : Nat) (r : Nat → Int) : va_E :=
  if k < 9 then
    if k = 0 then obMain b r else if k = 1 then obInput b r else if k = 2 then arI (A 2) 600 r else if k = 3 then obScript b r else if k = 6 then arI (A 1) 30 r else arI (A 0) 30 r
  else if k < 53 then celSetup b A k ((k - 9) % 22) r
  else if k < 71 then celPlan b A k ((k - 53) % 9) r
  else if k < 76 then
    if k = 71 then arR (A 5) 6 (fun i => some (b + (76 + 9 * i))) else if k = 72 then arR (A 5) 2 (fun i => some (b + (130 + 9 * i))) else if k = 73 then arI (A 1) 2 r else if k = 74 then arI (A 0) 8 r else arI (A 2) 320 r
  else if k < 148 then celPlan b A k ((k - 76) % 9) r
  else if k = 148 then obOwn b c r else if k = 150 then arI (A 1) 20 r else if k < 153 then arI (A 0) 20 r else if k = 154 then arI (A 1) 8 r else arI (A 0) 8 r
abbrev HT : Type := Nat → va_E
abbrev VV : Type := Nat → Nat → Int
def hV (G : GT) (V : VV) : HT := fun k => celOf (gB G) (gC G) (gA G) k (V k)
def upH (h : HT) (k : Nat) (e : va_E) : HT := fun j => if j = k then e else h j
/-- the cells of a world, by their places -/
def wsO (G : GT) (N : Nat) (h : HT) : va_W := (List.range N).map (fun k => (ad G k, h k))
theorem wsO_get {G : GT} {N : Nat} {h : HT} {k : Nat} (hk : k < N) : (wsO G N h)[k]? = some (ad G k, h k) := by
  unfold wsO
  rw [List.getElem?_map, List.getElem?_range hk]
  rfl
theorem wsO_geta {G : GT} {N a : Nat} {h : HT} {k : Nat} (hk : k < N) (ha : ad G k = a) : (wsO G N h)[k]? = some (a, h k) := by
  subst ha
  exact wsO_get hk
theorem wsO_len {G : GT} {N : Nat} {h : HT} : (wsO G N h).length = N := by simp [wsO]
theorem wsO_set {G : GT} {N : Nat} {h : HT} {k : Nat} (e : va_E) (hk : k < N) : (wsO G N h).set k (ad G k, e) = wsO G N (upH h k e) := by
  apply List.ext_getElem?
  intro i
  by_cases hi : i < N
  · by_cases e1 : i = k
    · subst e1
      rw [List.getElem?_set_self (by rw [wsO_len]; exact hi), wsO_get hi]
      simp [upH]
    · rw [List.getElem?_set_ne (Ne.symm e1), wsO_get hi, wsO_get hi]
      simp [upH, e1]
  · rw [List.getElem?_eq_none (by rw [List.length_set, wsO_len]; omega), List.getElem?_eq_none (by rw [wsO_len]; omega)]
theorem wsO_push {G : GT} {N : Nat} {h : HT} (e : va_E) : wsO G N h ++ [(ad G N, e)] = wsO G (N + 1) (upH h N e) := by
  unfold wsO
  rw [List.range_succ, List.map_append]
  congr 1
  · apply List.map_congr_left
    intro k hk
    have h9 : k < N := List.mem_range.mp hk
    simp [upH, Nat.ne_of_lt h9]
  · simp [upH]
theorem ad_inj {G : GT} {i j : Nat} (hC : gB G ≤ gC G) (e : ad G i = ad G j) : i = j := by
  unfold ad at e
  split at e <;> split at e <;> omega
theorem wsO_key {G : GT} {N : Nat} {h : HT} {k : Nat} {q : Nat × va_E} (hk : (wsO G N h)[k]? = some q) : q.1 = ad G k ∧ k < N := by
  have hl := (List.getElem?_eq_some_iff.mp hk).1
  rw [wsO_len] at hl
  rw [wsO_get hl] at hk
  cases hk
  exact ⟨rfl, hl⟩
theorem wsO_D {G : GT} {N : Nat} {h : HT} (hC : gB G ≤ gC G) : va_D (gR G) (wsO G N h) := by
  refine ⟨fun i j p q hi hj e => ?_, fun k q hk => ?_⟩
  · rw [(wsO_key hi).1, (wsO_key hj).1] at e
    exact ad_inj hC e
  · show gR G q.1
    rw [(wsO_key hk).1]
    exact gR_ad hC
theorem wsO_ext {G : GT} {N : Nat} {h h' : HT} (e : ∀ k, k < N → h k = h' k) : wsO G N h = wsO G N h' := by
  unfold wsO
  apply List.map_congr_left
  intro k hk
  rw [e k (List.mem_range.mp hk)]
def Wd (G : GT) (N : Nat) (h : HT) (H : Heap) : Prop := ((gB G ≤ gC G ∧ gB G ≤ H.size) ∧ va_P (gD G) cls7 (gE G) H ∧ ∀ q ∈ gE G, ¬ gR G q.1) ∧ (gX G = true → H.size = ad G N) ∧ va_P (gD G) cls7 (wsO G N h) H
end
section
/-! THE ENGINE: a frame's walk over the cells of a world, told by their places -/
/-- the String constants: the class's three, the law's two; their places in the pools, their texts, lengths and bytes -/
def txS : List String := ["channel 5 10 3;ship ann 20 3 4;ship bob 12 0 9;ship cid 30 5 2;ship dot 15 2 7;", "channel", "ship", "channel ", "ship s"]
def ixX : List Nat := [72, 391, 407]
def ixL : List Nat := [36, 52]
def bySn : List (List Nat) := [[99, 104, 97, 110, 110, 101, 108, 32, 53, 32, 49, 48, 32, 51, 59, 115, 104, 105, 112, 32, 97, 110, 110, 32, 50, 48, 32, 51, 32, 52, 59, 115, 104, 105, 112, 32, 98, 111, 98, 32, 49, 50, 32, 48, 32, 57, 59, 115, 104, 105, 112, 32, 99, 105, 100, 32, 51, 48, 32, 53, 32, 50, 59, 115, 104, 105, 112, 32, 100, 111, 116, 32, 49, 53, 32, 50, 32, 55, 59], [99, 104, 97, 110, 110, 101, 108], [115, 104, 105, 112], [99, 104, 97, 110, 110, 101, 108, 32], [115, 104, 105, 112, 32, 115]]
def byS : List (List Int32) := bySn.map (fun l => l.map nI)
def leS : List Nat := bySn.map List.length
/-- what stays as it is, outside: constants, statics, the script -/
def SF (G : GT) (U : State) (H : Heap) : Prop :=
  va_Z "java/lang/String" "COMPACT_STRINGS" "Z" (.int 1) (gR G) U H ∧ va_Zq "jdk/internal/util/Preconditions" "SIOOBE_FORMATTER" "Ljava/util/function/BiFunction;" (gR G) U H ∧
  (va_Z "java/lang/Integer" "DigitOnes" "[B" (.ref (gDo G)) (gR G) U H ∧ va_Z "java/lang/Integer" "DigitTens" "[B" (.ref (gDt G)) (gR G) U H ∧ va_T .byte (gDo G) 100 (fun j => .int (iI ((48 + j % 10 : Nat) : Int))) (gR G) U H ∧ va_T .byte (gDt G) 100 (fun j => .int (iI ((48 + j / 10 : Nat) : Int))) (gR G) U H) ∧
  vk_S 5 leS byS (gK G) (gV G) (gR G) U H ∧
  (∀ i : Nat, i < 3 → vk_R "ChannelSchedule" (ixX.getD i 0) (txS.getD i "") (gK G i) U) ∧ (∀ i : Nat, i < 2 → vk_R "ChannelScheduleLaw" (ixL.getD i 0) (txS.getD (3 + i) "") (gK G (3 + i)) U) ∧
  (va_X (gSa G) (gSl G) (gSx G) U H ∧ ¬ gR G (gSa G) ∧ gSl G ≤ 260)
theorem va_X.lt {b L : Nat} {xs : Nat → Int32} {U : State} {H : Heap} (h : va_X b L xs U H) : b < H.size := by
  obtain ⟨scr, h1, -⟩ := h
  exact (Array.getElem?_eq_some_iff.mp h1).1
theorem SF.kept {G : GT} {U : State} {H H1 : Heap} (h : SF G U H) (hq : ∀ a : Nat, a < H.size → ¬ gR G a → H1[a]? = H[a]?) : SF G U H1 :=
  ⟨h.1.kept hq, h.2.1.kept hq, ⟨h.2.2.1.1.kept hq, h.2.2.1.2.1.kept hq, h.2.2.1.2.2.1.kept hq, h.2.2.1.2.2.2.kept hq⟩, h.2.2.2.1.kept hq, h.2.2.2.2.1, h.2.2.2.2.2.1, h.2.2.2.2.2.2.1.kept (hq _ h.2.2.2.2.2.2.1.lt h.2.2.2.2.2.2.2.1), h.2.2.2.2.2.2.2⟩
theorem SF.moved {G : GT} {u U : State} {H : Heap} (hw : u.WarmedH U.vm) (h : SF G u H) : SF G U H :=
  ⟨h.1.moved hw.alike, h.2.1.moved hw.alike, ⟨h.2.2.1.1.moved hw.alike, h.2.2.1.2.1.moved hw.alike, h.2.2.1.2.2.1.moved hw.alike, h.2.2.1.2.2.2.moved hw.alike⟩, h.2.2.2.1.moved hw.alike, fun i hi => (h.2.2.2.2.1 i hi).warm hw, fun i hi => (h.2.2.2.2.2.1 i hi).warm hw, h.2.2.2.2.2.2.1.moved hw.alike, h.2.2.2.2.2.2.2⟩
/-- a frame's fixed things -/
abbrev CT : Type := Program × Launch × Env × Room × State × MethodId × Array Value × List Frame × Method × Code × (State → Prop) × Nat
/-- the locals: of two with one number the first counts -/
def lh (ls : Array Slot) (nL : Nat) (lv : List (Nat × Value)) : Prop := ls.size = nL ∧ lv_wf ls ∧ ∀ (i : Nat) (v : Value), lv.lookup i = some v → ls[i]? = some (.val v) ∧ v.category = 1
theorem lh_st {ls : Array Slot} {nL : Nat} {lv : List (Nat × Value)} {i : Nat} {v : Value} (h : lh ls nL lv) (hi : i < nL) (hc : v.category = 1) : ∃ ls', storeLocals ls i v = some ls' ∧ lh ls' nL ((i, v) :: lv) := by
  obtain ⟨h1, h2, h3⟩ := h
  obtain ⟨ls', e', g⟩ := lv_store1 (l := []) (v := v) ⟨h1, h2, fun q hq => absurd hq List.not_mem_nil⟩ hi hc
  refine ⟨ls', e', g.1, g.2.1, fun j w hj => ?_⟩
  rw [List.lookup_cons] at hj
  by_cases hji : j = i
  · subst hji
    simp at hj
    subst hj
    exact ⟨g.2.2 _ List.mem_cons_self, hc⟩
  · have hb : (j == i) = false := by simp [hji]
    rw [hb] at hj
    obtain ⟨w1, w2⟩ := h3 j w hj
    obtain ⟨ls2, e2, g2⟩ := lv_store1 (l := [(j, w)]) (v := v) ⟨h1, h2, fun q hq => by rw [List.mem_singleton.mp hq]; exact w1⟩ hi hc
    have e3 : ls2 = ls' := Option.some.inj (e2.symm.trans e')
    subst e3
    refine ⟨g2.2.2 (j, w) ?_, w2⟩
    simp [hji, w2]
theorem lh_w {ls : Array Slot} {nL : Nat} {lv lw : List (Nat × Value)} (h : lh ls nL lv) (hw : ∀ q ∈ lw, lv.lookup q.1 = some q.2) : lh ls nL lw := by
  refine ⟨h.1, h.2.1, fun i v hi => ?_⟩
  have hm : (i, v) ∈ lw := by
    clear hw h
    induction lw with
    | nil => simp at hi
    | cons a l ih =>
      rw [List.lookup_cons] at hi
      by_cases e : i = a.1
      · subst e
        simp at hi
        subst hi
        exact List.mem_cons_self
      · have hb : (i == a.1) = false := by simp [e]
        rw [hb] at hi
        exact List.mem_cons_of_mem _ (ih hi)
  exact h.2.2 i v (hw _ hm)
def AtH (G : GT) (X : CT) (cells slots pc : Nat) (lv : List (Nat × Value)) (st : List Value) (N : Nat) (h : HT) : Prop :=
  match X with
  | (p, l, e, R, s, m, args, below, meth, c, Q, nL) => ∀ (H : Heap) (locs : List Loc) (ls : Array Slot), Wd G N h H → va_S (gR G) s.heap H locs → lh ls nL lv → W p l e R s m args below meth c H locs cells slots Q (F0 m pc ls st)
abbrev At (G : GT) (X : CT) (cells slots pc : Nat) (lv : List (Nat × Value)) (st : List Value) (V : VV) : Prop := AtH G X cells slots pc lv st (gN G) (hV G V)
def Cx (G : GT) (X : CT) (own : String) (cc : ByteArray) : Prop :=
  match X with
  | (p, l, e, R, s, m, args, below, meth, c, Q, nL) => p.tables.exec = Jvm.exec ∧ c.code = cc ∧ c.maxLocals = nL ∧ s.vm.findClass own = some m.cls ∧ (∀ w ∈ LW, w.before args s = true) ∧ va_K (gD G) cls7 (tysG G) s ∧ SF G s s.heap ∧ meth.locks = false ∧ l.stackTraces = false ∧ gB G ≤ s.heap.size
def rmD (d mc ms : Nat) : Room := { frames := d, cells := mc, slots := ms, locals := 40 * d }
def PH (G : GT) (av : List Value) (N : Nat) (h : HT) : Array Value → State → Prop := fun a U => a = av.toArray ∧ Wd G N h U.heap ∧ va_K (gD G) cls7 (tysG G) U ∧ SF G U U.heap
def QH (G : GT) (post : Option Value → Nat → HT → Prop) : Array Value → State → Outcome → State → Prop := fun _ st o t => ∃ (v : Option Value) (N' : Nat) (h' : HT), o = .returned v ∧ post v N' h' ∧ Wd G N' h' t.heap ∧ va_F (gR G) st t
def XH (G : GT) (postX : String → Nat → HT → Prop) : String → State → State → Prop := fun E st t => ∃ (N' : Nat) (h' : HT), postX E N' h' ∧ Wd G N' h' t.heap ∧ va_F (gR G) st t
def EvH (G : GT) (l : Launch) (y : MethodName) (cc : ByteArray) (nL : Nat) (ret : Option FieldType) (d mc ms : Nat) (av : List Value) (N : Nat) (h : HT) (post : Option Value → Nat → HT → Prop) (postX : String → Nat → HT → Prop) : Prop :=
  vx_Met l y (.code y cc nL ret :: LW) (rmD d mc ms) (PH G av N h) (QH G post) (XH G postX) mc ms (gR G)
def vP (G : GT) (post : Option Value → VV → Prop) : Option Value → Nat → HT → Prop := fun v N' h' => N' = gN G ∧ ∃ V', h' = hV G V' ∧ post v V'
def vX (G : GT) (postX : String → VV → Prop) : String → Nat → HT → Prop := fun E N' h' => N' = gN G ∧ ∃ V', h' = hV G V' ∧ postX E V'
abbrev Ev (G : GT) (l : Launch) (y : MethodName) (cc : ByteArray) (nL : Nat) (ret : Option FieldType) (d mc ms : Nat) (av : List Value) (V : VV) (post : Option Value → VV → Prop) (postX : String → VV → Prop) : Prop :=
  EvH G l y cc nL ret d mc ms av (gN G) (hV G V) (vP G post) (vX G postX)
def noX : String → VV → Prop := fun _ _ => False
def noH : String → Nat → HT → Prop := fun _ _ _ => False
/-- what the end of a body owes -/
def Mx (G : GT) (X : CT) (d mc ms : Nat) (ret : Option FieldType) (post : Option Value → Nat → HT → Prop) (postX : String → Nat → HT → Prop) : Prop :=
  match X with
  | (p, l, e, R, s, m, args, below, meth, c, Q, nL) => R = rmD d mc ms ∧ Q = vx_MQ below (QH G post) (XH G postX) args s mc ms (gR G) ∧ meth.sig.returnType = ret ∧ ∀ x ∈ c.exceptionTable.toList, False
abbrev xl (X : CT) : Launch := X.2.1
abbrev xR (X : CT) : Room := X.2.2.2.1
abbrev xN (X : CT) : Nat := X.2.2.2.2.2.2.2.2.2.2.2
/-- the words of a method that is called -/
def YV (y : MethodName) (cc : ByteArray) (nL : Nat) (ret : Option FieldType) (n : Nat) : Prop :=
  .instanceMethod y ∈ LW ∧ .selects y.cls y y ∈ LW ∧ .initialized y.cls ∈ LW ∧ .code y cc nL ret ∈ LW ∧ (y.cls ≠ "java/lang/invoke/MethodHandle" ∧ y.cls ≠ "java/lang/invoke/VarHandle") ∧ (parseMethodDescriptor y.desc).map (fun d => d.parameters.length) = some n
def YS (y : MethodName) (cc : ByteArray) (nL : Nat) (ret : Option FieldType) (n : Nat) : Prop :=
  .static y ∈ LW ∧ .initialized y.cls ∈ LW ∧ .code y cc nL ret ∈ LW ∧ (y.cls ≠ "java/lang/invoke/MethodHandle" ∧ y.cls ≠ "java/lang/invoke/VarHandle") ∧ (parseMethodDescriptor y.desc).map (fun d => d.parameters.length) = some n
def YI (y : MethodName) (cc : ByteArray) (nL : Nat) (n : Nat) : Prop :=
  .instanceMethod y ∈ LW ∧ .initialized y.cls ∈ LW ∧ .code y cc nL none ∈ LW ∧ (y.cls ≠ "java/lang/invoke/MethodHandle" ∧ y.cls ≠ "java/lang/invoke/VarHandle") ∧ (parseMethodDescriptor y.desc).map (fun d => d.parameters.length) = some n ∧ y.name = "<init>"
theorem LW_callB {R : Room} {s : State} {args : Array Value} {own : String} {index : Nat} {y : MethodName} {cc : ByteArray} {nL n d mc ms : Nat} {ret : Option FieldType} (hts : ∀ w ∈ LW, w.before args s = true) (hl : .methodLink own index y ∈ LW) (hi : .initialized y.cls ∈ LW) (hc : .code y cc nL ret ∈ LW) (hy : y.cls ≠ "java/lang/invoke/MethodHandle" ∧ y.cls ≠ "java/lang/invoke/VarHandle") (hn : (parseMethodDescriptor y.desc).map (fun d => d.parameters.length) = some n)
    (h1 : d + 1 ≤ R.frames) (h2 : 8 + (nL + 11) + 40 * d ≤ R.locals) : CallB R s args own index y cc nL ret (.code y cc nL ret :: LW) (rmD d mc ms) mc ms n := by
  refine ⟨rfl, rfl, h1, h2, ?_, List.mem_cons_self, hts _ hc, hts _ hi, hy, fun sig h => ?_, hts _ hl⟩
  · intro w hw a' U hW
    have hm : w ∈ LW := by
      rcases List.mem_cons.mp hw with e | e
      · rw [e]; exact hc
      · exact e
    exact word_at hW (LW_good hm) (hts w hm)
  · rw [h] at hn
    exact (Option.some.inj hn).symm
theorem PH_blind {G : GT} {av : List Value} {N : Nat} {h : HT} : FrameBlind (PH G av N h) := by
  intro a U g mk q
  obtain ⟨q0, q1, q2, q3⟩ := q
  exact ⟨q0, q1, va_K.moved (u := U) (U := U.calling g mk a) (Vm.Alike.refl U.vm) q2, SF.moved (u := U) (U := U.calling g mk a) (State.WarmedH.refl U) q3⟩
section
variable {G : GT} {X : CT} {cells slots pc N : Nat} {lv : List (Nat × Value)} {st : List Value} {h : HT} {own : String} {cc : ByteArray}
/-- fewer locals told -/
theorem AtH.w {lw : List (Nat × Value)} (hw : ∀ q ∈ lw, lv.lookup q.1 = some q.2) (k : AtH G X cells slots pc lw st N h) : AtH G X cells slots pc lv st N h := by
  obtain ⟨p, l, e, R, s, m, args, below, meth, c, Q, nL⟩ := X
  intro H locs ls hW hS hl
  exact k H locs ls hW hS (lh_w hl hw)
theorem AtH.e {h' : HT} (he : ∀ k, k < N → h k = h' k) (k : AtH G X cells slots pc lv st N h') : AtH G X cells slots pc lv st N h := by
  obtain ⟨p, l, e, R, s, m, args, below, meth, c, Q, nL⟩ := X
  intro H locs ls hW hS hl
  exact k H locs ls ⟨hW.1, hW.2.1, by rw [← wsO_ext he]; exact hW.2.2⟩ hS hl
theorem r_aload_n {i : Fin 4} {a : Nat} (C : Cx G X own cc) (d : decode cc pc = .ok (.aload_n i, 1)) (hl : lv.lookup (i : Nat) = some (.ref a)) (k : AtH G X cells slots (pc + 1) lv (.ref a :: st) N h) : AtH G X cells slots pc lv st N h := by
  obtain ⟨p, l, e, R, s, m, args, below, meth, c, Q, nL⟩ := X
  intro H locs ls hW hS hls
  exact lv_aload_n C.1 C.2.1 d rfl (hls.2.2 _ _ hl).1 (k H locs ls hW hS hls)
theorem r_aload {i a : Nat} (C : Cx G X own cc) (d : decode cc pc = .ok (.aload i, 2)) (hl : lv.lookup i = some (.ref a)) (k : AtH G X cells slots (pc + 2) lv (.ref a :: st) N h) : AtH G X cells slots pc lv st N h := by
  obtain ⟨p, l, e, R, s, m, args, below, meth, c, Q, nL⟩ := X
  intro H locs ls hW hS hls
  exact lv_aload C.1 C.2.1 d (hls.2.2 _ _ hl).1 (k H locs ls hW hS hls)
theorem r_iload_n {i : Fin 4} {z : Int} (C : Cx G X own cc) (d : decode cc pc = .ok (.iload_n i, 1)) (hl : lv.lookup (i : Nat) = some (vI z)) (k : AtH G X cells slots (pc + 1) lv (vI z :: st) N h) : AtH G X cells slots pc lv st N h := by
  obtain ⟨p, l, e, R, s, m, args, below, meth, c, Q, nL⟩ := X
  intro H locs ls hW hS hls
  exact lv_iload_n C.1 C.2.1 d rfl (hls.2.2 _ _ hl).1 (k H locs ls hW hS hls)
theorem r_iload {i : Nat} {z : Int} (C : Cx G X own cc) (d : decode cc pc = .ok (.iload i, 2)) (hl : lv.lookup i = some (vI z)) (k : AtH G X cells slots (pc + 2) lv (vI z :: st) N h) : AtH G X cells slots pc lv st N h := by
  obtain ⟨p, l, e, R, s, m, args, below, meth, c, Q, nL⟩ := X
  intro H locs ls hW hS hls
  exact lv_iload C.1 C.2.1 d (hls.2.2 _ _ hl).1 (k H locs ls hW hS hls)
theorem r_istore_n {i : Fin 4} {z : Int} (C : Cx G X own cc) (d : decode cc pc = .ok (.istore_n i, 1)) (hn : (i : Nat) < xN X) (k : AtH G X cells slots (pc + 1) (((i : Nat), vI z) :: lv) st N h) : AtH G X cells slots pc lv (vI z :: st) N h := by
  obtain ⟨p, l, e, R, s, m, args, below, meth, c, Q, nL⟩ := X
  intro H locs ls hW hS hls
  obtain ⟨hexec, hb, -⟩ := C
  obtain ⟨ls', e', g⟩ := lh_st (v := vI z) hls hn rfl
  intro T hT X0
  obtain ⟨t, a1, b1⟩ := k H locs ls' hW hS g T hT X0
  refine ⟨t, ?_, b1⟩
  jvm_step X0.here [X0.here.top, ↓top_set X0.here.top, hexec, hb, d, e']
  exact a1
theorem r_istore {i : Nat} {z : Int} (C : Cx G X own cc) (d : decode cc pc = .ok (.istore i, 2)) (hn : i < xN X) (k : AtH G X cells slots (pc + 2) ((i, vI z) :: lv) st N h) : AtH G X cells slots pc lv (vI z :: st) N h := by
  obtain ⟨p, l, e, R, s, m, args, below, meth, c, Q, nL⟩ := X
  intro H locs ls hW hS hls
  obtain ⟨hexec, hb, -⟩ := C
  obtain ⟨ls', e', g⟩ := lh_st (v := vI z) hls hn rfl
  intro T hT X0
  obtain ⟨t, a1, b1⟩ := k H locs ls' hW hS g T hT X0
  refine ⟨t, ?_, b1⟩
  jvm_step X0.here [X0.here.top, ↓top_set X0.here.top, hexec, hb, d, e']
  exact a1
theorem r_astore_n {i : Fin 4} {a : Nat} (C : Cx G X own cc) (d : decode cc pc = .ok (.astore_n i, 1)) (hn : (i : Nat) < xN X) (k : AtH G X cells slots (pc + 1) (((i : Nat), .ref a) :: lv) st N h) : AtH G X cells slots pc lv (.ref a :: st) N h := by
  obtain ⟨p, l, e, R, s, m, args, below, meth, c, Q, nL⟩ := X
  intro H locs ls hW hS hls
  obtain ⟨hexec, hb, -⟩ := C
  obtain ⟨ls', e', g⟩ := lh_st (v := .ref a) hls hn rfl
  intro T hT X0
  obtain ⟨t, a1, b1⟩ := k H locs ls' hW hS g T hT X0
  refine ⟨t, ?_, b1⟩
  jvm_step X0.here [X0.here.top, ↓top_set X0.here.top, hexec, hb, d, e', Value.isRef]
  exact a1
theorem r_astore {i : Nat} {a : Nat} (C : Cx G X own cc) (d : decode cc pc = .ok (.astore i, 2)) (hn : i < xN X) (k : AtH G X cells slots (pc + 2) ((i, .ref a) :: lv) st N h) : AtH G X cells slots pc lv (.ref a :: st) N h := by
  obtain ⟨p, l, e, R, s, m, args, below, meth, c, Q, nL⟩ := X
  intro H locs ls hW hS hls
  obtain ⟨hexec, hb, -⟩ := C
  obtain ⟨ls', e', g⟩ := lh_st (v := .ref a) hls hn rfl
  intro T hT X0
  obtain ⟨t, a1, b1⟩ := k H locs ls' hW hS g T hT X0
  refine ⟨t, ?_, b1⟩
  jvm_step X0.here [X0.here.top, ↓top_set X0.here.top, hexec, hb, d, e', Value.isRef]
  exact a1
theorem r_iinc {i : Nat} {n z : Int} (C : Cx G X own cc) (d : decode cc pc = .ok (.iinc i n, 3)) (hl : lv.lookup i = some (vI z)) (hn : i < xN X) (k : AtH G X cells slots (pc + 3) ((i, vI (z + n)) :: lv) st N h) : AtH G X cells slots pc lv st N h := by
  obtain ⟨p, l, e, R, s, m, args, below, meth, c, Q, nL⟩ := X
  intro H locs ls hW hS hls
  obtain ⟨hexec, hb, -⟩ := C
  have hg := (hls.2.2 _ _ hl).1
  obtain ⟨ls', e', g⟩ := lh_st (v := vI (z + n)) hls hn rfl
  have e2 : iI z + Int32.ofInt n = iI (z + n) := iI_add z n
  have e' : storeLocals ls i (.int (iI z + Int32.ofInt n)) = some ls' := by rw [e2]; exact e'
  intro T hT X0
  obtain ⟨t, a1, b1⟩ := k H locs ls' hW hS g T hT X0
  refine ⟨t, ?_, b1⟩
  jvm_step X0.here [X0.here.top, ↓top_set X0.here.top, hexec, hb, d, hg, e']
  exact a1
theorem r_iconst {n : Int} (C : Cx G X own cc) (d : decode cc pc = .ok (.iconst n, 1)) (k : AtH G X cells slots (pc + 1) lv (vI n :: st) N h) : AtH G X cells slots pc lv st N h := by
  obtain ⟨p, l, e, R, s, m, args, below, meth, c, Q, nL⟩ := X
  intro H locs ls hW hS hls
  exact lv_iconst C.1 C.2.1 d rfl (k H locs ls hW hS hls)
theorem r_bipush {n : Int} (C : Cx G X own cc) (d : decode cc pc = .ok (.bipush n, 2)) (hn : (Int8.ofInt n).toInt32 = iI n) (k : AtH G X cells slots (pc + 2) lv (vI n :: st) N h) : AtH G X cells slots pc lv st N h := by
  obtain ⟨p, l, e, R, s, m, args, below, meth, c, Q, nL⟩ := X
  intro H locs ls hW hS hls
  exact lv_bipush C.1 C.2.1 d hn (k H locs ls hW hS hls)
theorem r_sipush {n : Int} (C : Cx G X own cc) (d : decode cc pc = .ok (.sipush n, 3)) (hn : (Int16.ofInt n).toInt32 = iI n) (k : AtH G X cells slots (pc + 3) lv (vI n :: st) N h) : AtH G X cells slots pc lv st N h := by
  obtain ⟨p, l, e, R, s, m, args, below, meth, c, Q, nL⟩ := X
  intro H locs ls hW hS hls
  exact lv_sipush C.1 C.2.1 d hn (k H locs ls hW hS hls)
theorem r_iadd {x y : Int} (C : Cx G X own cc) (d : decode cc pc = .ok (.iadd, 1)) (k : AtH G X cells slots (pc + 1) lv (vI (x + y) :: st) N h) : AtH G X cells slots pc lv (vI y :: vI x :: st) N h := by
  obtain ⟨p, l, e, R, s, m, args, below, meth, c, Q, nL⟩ := X
  intro H locs ls hW hS hls
  refine lv_iadd C.1 C.2.1 d ?_
  rw [iI_add]
  exact k H locs ls hW hS hls
theorem r_isub {x y : Int} (C : Cx G X own cc) (d : decode cc pc = .ok (.isub, 1)) (k : AtH G X cells slots (pc + 1) lv (vI (x - y) :: st) N h) : AtH G X cells slots pc lv (vI y :: vI x :: st) N h := by
  obtain ⟨p, l, e, R, s, m, args, below, meth, c, Q, nL⟩ := X
  intro H locs ls hW hS hls
  refine lv_isub C.1 C.2.1 d ?_
  rw [iI_sub]
  exact k H locs ls hW hS hls
theorem r_imul {x y : Int} (C : Cx G X own cc) (d : decode cc pc = .ok (.imul, 1)) (k : AtH G X cells slots (pc + 1) lv (vI (x * y) :: st) N h) : AtH G X cells slots pc lv (vI y :: vI x :: st) N h := by
  obtain ⟨p, l, e, R, s, m, args, below, meth, c, Q, nL⟩ := X
  intro H locs ls hW hS hls
  refine lv_imul C.1 C.2.1 d ?_
  rw [iI_mul]
  exact k H locs ls hW hS hls
theorem r_ineg {x : Int} (C : Cx G X own cc) (d : decode cc pc = .ok (.ineg, 1)) (k : AtH G X cells slots (pc + 1) lv (vI (-x) :: st) N h) : AtH G X cells slots pc lv (vI x :: st) N h := by
  obtain ⟨p, l, e, R, s, m, args, below, meth, c, Q, nL⟩ := X
  intro H locs ls hW hS hls
  refine lv_ineg C.1 C.2.1 d ?_
  rw [iI_neg]
  exact k H locs ls hW hS hls
theorem r_idiv {x y : Int} (C : Cx G X own cc) (d : decode cc pc = .ok (.idiv, 1)) (hx : rg x) (hy : rg y) (h0 : 0 < y) (k : AtH G X cells slots (pc + 1) lv (vI (x.tdiv y) :: st) N h) : AtH G X cells slots pc lv (vI y :: vI x :: st) N h := by
  obtain ⟨p, l, e, R, s, m, args, below, meth, c, Q, nL⟩ := X
  intro H locs ls hW hS hls
  refine lv_idiv C.1 C.2.1 d (fun e9 => ?_) ?_
  · have := (iI_eq hy ⟨by omega, by omega⟩).mp (e9.trans iI_zero.symm)
    omega
  · rw [iI_div hx hy (by omega)]
    exact k H locs ls hW hS hls
theorem r_irem {x y : Int} (C : Cx G X own cc) (d : decode cc pc = .ok (.irem, 1)) (hx : rg x) (hy : rg y) (h0 : 0 < y) (k : AtH G X cells slots (pc + 1) lv (vI (x.tmod y) :: st) N h) : AtH G X cells slots pc lv (vI y :: vI x :: st) N h := by
  obtain ⟨p, l, e, R, s, m, args, below, meth, c, Q, nL⟩ := X
  intro H locs ls hW hS hls
  refine lv_irem C.1 C.2.1 d (fun e9 => ?_) ?_
  · have := (iI_eq hy ⟨by omega, by omega⟩).mp (e9.trans iI_zero.symm)
    omega
  · rw [iI_rem hx hy (by omega)]
    exact k H locs ls hW hS hls
theorem r_i2b {x : Int} (C : Cx G X own cc) (d : decode cc pc = .ok (.i2b, 1)) (k : AtH G X cells slots (pc + 1) lv (vI (wB x) :: st) N h) : AtH G X cells slots pc lv (vI x :: st) N h := by
  obtain ⟨p, l, e, R, s, m, args, below, meth, c, Q, nL⟩ := X
  intro H locs ls hW hS hls
  exact lv_i2b C.1 C.2.1 d (iI_i2b x) (k H locs ls hW hS hls)
theorem r_iand {x y z : Int} (C : Cx G X own cc) (d : decode cc pc = .ok (.iand, 1)) (hz : iI x &&& iI y = iI z) (k : AtH G X cells slots (pc + 1) lv (vI z :: st) N h) : AtH G X cells slots pc lv (vI y :: vI x :: st) N h := by
  obtain ⟨p, l, e, R, s, m, args, below, meth, c, Q, nL⟩ := X
  intro H locs ls hW hS hls
  refine lv_iand C.1 C.2.1 d ?_
  rw [hz]
  exact k H locs ls hW hS hls
theorem r_ior {x y z : Int} (C : Cx G X own cc) (d : decode cc pc = .ok (.ior, 1)) (hz : iI x ||| iI y = iI z) (k : AtH G X cells slots (pc + 1) lv (vI z :: st) N h) : AtH G X cells slots pc lv (vI y :: vI x :: st) N h := by
  obtain ⟨p, l, e, R, s, m, args, below, meth, c, Q, nL⟩ := X
  intro H locs ls hW hS hls
  refine lv_ior C.1 C.2.1 d ?_
  rw [hz]
  exact k H locs ls hW hS hls
theorem r_ixor {x y z : Int} (C : Cx G X own cc) (d : decode cc pc = .ok (.ixor, 1)) (hz : iI x ^^^ iI y = iI z) (k : AtH G X cells slots (pc + 1) lv (vI z :: st) N h) : AtH G X cells slots pc lv (vI y :: vI x :: st) N h := by
  obtain ⟨p, l, e, R, s, m, args, below, meth, c, Q, nL⟩ := X
  intro H locs ls hW hS hls
  refine lv_ixor C.1 C.2.1 d ?_
  rw [hz]
  exact k H locs ls hW hS hls
theorem r_ishl {x y z : Int} (C : Cx G X own cc) (d : decode cc pc = .ok (.ishl, 1)) (hz : iI x <<< (iI y &&& 31) = iI z) (k : AtH G X cells slots (pc + 1) lv (vI z :: st) N h) : AtH G X cells slots pc lv (vI y :: vI x :: st) N h := by
  obtain ⟨p, l, e, R, s, m, args, below, meth, c, Q, nL⟩ := X
  intro H locs ls hW hS hls
  refine lv_ishl C.1 C.2.1 d ?_
  rw [hz]
  exact k H locs ls hW hS hls
theorem r_ishr {x y z : Int} (C : Cx G X own cc) (d : decode cc pc = .ok (.ishr, 1)) (hz : iI x >>> (iI y &&& 31) = iI z) (k : AtH G X cells slots (pc + 1) lv (vI z :: st) N h) : AtH G X cells slots pc lv (vI y :: vI x :: st) N h := by
  obtain ⟨p, l, e, R, s, m, args, below, meth, c, Q, nL⟩ := X
  intro H locs ls hW hS hls
  refine lv_ishr C.1 C.2.1 d ?_
  rw [hz]
  exact k H locs ls hW hS hls
theorem r_iushr {x y z : Int} (C : Cx G X own cc) (d : decode cc pc = .ok (.iushr, 1)) (hz : ((iI x).toUInt32 >>> ((iI y).toUInt32 &&& Int32.toUInt32 31)).toInt32 = iI z) (k : AtH G X cells slots (pc + 1) lv (vI z :: st) N h) : AtH G X cells slots pc lv (vI y :: vI x :: st) N h := by
  obtain ⟨p, l, e, R, s, m, args, below, meth, c, Q, nL⟩ := X
  intro H locs ls hW hS hls
  exact lv_iushr C.1 C.2.1 d hz (k H locs ls hW hS hls)
theorem r_dup {v : Value} (C : Cx G X own cc) (d : decode cc pc = .ok (.dup, 1)) (hv : v.category = 1) (k : AtH G X cells slots (pc + 1) lv (v :: v :: st) N h) : AtH G X cells slots pc lv (v :: st) N h := by
  obtain ⟨p, l, e, R, s, m, args, below, meth, c, Q, nL⟩ := X
  intro H locs ls hW hS hls
  exact lv_dup C.1 C.2.1 d hv (k H locs ls hW hS hls)
theorem r_dup2 {v w : Value} (C : Cx G X own cc) (d : decode cc pc = .ok (.dup2, 1)) (hv : v.category = 1) (hw : w.category = 1) (k : AtH G X cells slots (pc + 1) lv (v :: w :: v :: w :: st) N h) : AtH G X cells slots pc lv (v :: w :: st) N h := by
  obtain ⟨p, l, e, R, s, m, args, below, meth, c, Q, nL⟩ := X
  intro H locs ls hW hS hls
  exact lv_dup2_11 C.1 C.2.1 d hv hw (k H locs ls hW hS hls)
theorem r_pop {v : Value} (C : Cx G X own cc) (d : decode cc pc = .ok (.pop, 1)) (hv : v.category = 1) (k : AtH G X cells slots (pc + 1) lv st N h) : AtH G X cells slots pc lv (v :: st) N h := by
  obtain ⟨p, l, e, R, s, m, args, below, meth, c, Q, nL⟩ := X
  intro H locs ls hW hS hls
  exact lv_pop C.1 C.2.1 d hv (k H locs ls hW hS hls)
theorem r_goto {off : Int} {tgt : Nat} (C : Cx G X own cc) (d : decode cc pc = .ok (.goto off, 3)) (ht : (pc : Int) + off = (tgt : Int)) (k : AtH G X cells slots tgt lv st N h) : AtH G X cells slots pc lv st N h := by
  obtain ⟨p, l, e, R, s, m, args, below, meth, c, Q, nL⟩ := X
  intro H locs ls hW hS hls
  exact lv_goto C.1 C.2.1 d ht (k H locs ls hW hS hls)
theorem r_ifeq {z off : Int} {tgt : Nat} (C : Cx G X own cc) (d : decode cc pc = .ok (.ifCond .eq off, 3)) (ht : (pc : Int) + off = (tgt : Int)) (hz : rg z) (k1 : z = 0 → AtH G X cells slots tgt lv st N h) (k2 : z ≠ 0 → AtH G X cells slots (pc + 3) lv st N h) : AtH G X cells slots pc lv (vI z :: st) N h := by
  obtain ⟨p, l, e, R, s, m, args, below, meth, c, Q, nL⟩ := X
  intro H locs ls hW hS hls
  have e9 : iI z = 0 ↔ z = 0 := iI_eq (b := 0) hz ⟨by omega, by omega⟩
  exact lv_if_eq C.1 C.2.1 d ht (fun q => k1 (e9.mp q) H locs ls hW hS hls) (fun q => k2 (fun z => q (e9.mpr z)) H locs ls hW hS hls)
theorem r_ifne {z off : Int} {tgt : Nat} (C : Cx G X own cc) (d : decode cc pc = .ok (.ifCond .ne off, 3)) (ht : (pc : Int) + off = (tgt : Int)) (hz : rg z) (k1 : z ≠ 0 → AtH G X cells slots tgt lv st N h) (k2 : z = 0 → AtH G X cells slots (pc + 3) lv st N h) : AtH G X cells slots pc lv (vI z :: st) N h := by
  obtain ⟨p, l, e, R, s, m, args, below, meth, c, Q, nL⟩ := X
  intro H locs ls hW hS hls
  have e9 : iI z = 0 ↔ z = 0 := iI_eq (b := 0) hz ⟨by omega, by omega⟩
  exact lv_if_ne C.1 C.2.1 d ht (fun q => k1 (fun z => q (e9.mpr z)) H locs ls hW hS hls) (fun q => k2 (e9.mp q) H locs ls hW hS hls)
theorem r_iflt {z off : Int} {tgt : Nat} (C : Cx G X own cc) (d : decode cc pc = .ok (.ifCond .lt off, 3)) (ht : (pc : Int) + off = (tgt : Int)) (hz : rg z) (k1 : z < 0 → AtH G X cells slots tgt lv st N h) (k2 : ¬ z < 0 → AtH G X cells slots (pc + 3) lv st N h) : AtH G X cells slots pc lv (vI z :: st) N h := by
  obtain ⟨p, l, e, R, s, m, args, below, meth, c, Q, nL⟩ := X
  intro H locs ls hW hS hls
  have e9 : iI z < 0 ↔ z < 0 := iI_lt (b := 0) hz ⟨by omega, by omega⟩
  exact lv_if_lt C.1 C.2.1 d ht (fun q => k1 (e9.mp q) H locs ls hW hS hls) (fun q => k2 (fun z => q (e9.mpr z)) H locs ls hW hS hls)
theorem r_ifge {z off : Int} {tgt : Nat} (C : Cx G X own cc) (d : decode cc pc = .ok (.ifCond .ge off, 3)) (ht : (pc : Int) + off = (tgt : Int)) (hz : rg z) (k1 : 0 ≤ z → AtH G X cells slots tgt lv st N h) (k2 : ¬ 0 ≤ z → AtH G X cells slots (pc + 3) lv st N h) : AtH G X cells slots pc lv (vI z :: st) N h := by
  obtain ⟨p, l, e, R, s, m, args, below, meth, c, Q, nL⟩ := X
  intro H locs ls hW hS hls
  have e9 : 0 ≤ iI z ↔ 0 ≤ z := iI_le (a := 0) ⟨by omega, by omega⟩ hz
  exact lv_if_ge C.1 C.2.1 d ht (fun q => k1 (e9.mp q) H locs ls hW hS hls) (fun q => k2 (fun z => q (e9.mpr z)) H locs ls hW hS hls)
theorem r_ifgt {z off : Int} {tgt : Nat} (C : Cx G X own cc) (d : decode cc pc = .ok (.ifCond .gt off, 3)) (ht : (pc : Int) + off = (tgt : Int)) (hz : rg z) (k1 : 0 < z → AtH G X cells slots tgt lv st N h) (k2 : ¬ 0 < z → AtH G X cells slots (pc + 3) lv st N h) : AtH G X cells slots pc lv (vI z :: st) N h := by
  obtain ⟨p, l, e, R, s, m, args, below, meth, c, Q, nL⟩ := X
  intro H locs ls hW hS hls
  have e9 : 0 < iI z ↔ 0 < z := iI_lt (a := 0) ⟨by omega, by omega⟩ hz
  exact lv_if_gt C.1 C.2.1 d ht (fun q => k1 (e9.mp q) H locs ls hW hS hls) (fun q => k2 (fun z => q (e9.mpr z)) H locs ls hW hS hls)
theorem r_ifle {z off : Int} {tgt : Nat} (C : Cx G X own cc) (d : decode cc pc = .ok (.ifCond .le off, 3)) (ht : (pc : Int) + off = (tgt : Int)) (hz : rg z) (k1 : z ≤ 0 → AtH G X cells slots tgt lv st N h) (k2 : ¬ z ≤ 0 → AtH G X cells slots (pc + 3) lv st N h) : AtH G X cells slots pc lv (vI z :: st) N h := by
  obtain ⟨p, l, e, R, s, m, args, below, meth, c, Q, nL⟩ := X
  intro H locs ls hW hS hls
  have e9 : iI z ≤ 0 ↔ z ≤ 0 := iI_le (b := 0) hz ⟨by omega, by omega⟩
  exact lv_if_le C.1 C.2.1 d ht (fun q => k1 (e9.mp q) H locs ls hW hS hls) (fun q => k2 (fun z => q (e9.mpr z)) H locs ls hW hS hls)
theorem r_icmpeq {x y off : Int} {tgt : Nat} (C : Cx G X own cc) (d : decode cc pc = .ok (.if_icmp .eq off, 3)) (ht : (pc : Int) + off = (tgt : Int)) (hx : rg x) (hy : rg y) (k1 : x = y → AtH G X cells slots tgt lv st N h) (k2 : x ≠ y → AtH G X cells slots (pc + 3) lv st N h) : AtH G X cells slots pc lv (vI y :: vI x :: st) N h := by
  obtain ⟨p, l, e, R, s, m, args, below, meth, c, Q, nL⟩ := X
  intro H locs ls hW hS hls
  have e9 := iI_eq hx hy
  exact lv_icmp_eq C.1 C.2.1 d ht (fun q => k1 (e9.mp q) H locs ls hW hS hls) (fun q => k2 (fun z => q (e9.mpr z)) H locs ls hW hS hls)
theorem r_icmpne {x y off : Int} {tgt : Nat} (C : Cx G X own cc) (d : decode cc pc = .ok (.if_icmp .ne off, 3)) (ht : (pc : Int) + off = (tgt : Int)) (hx : rg x) (hy : rg y) (k1 : x ≠ y → AtH G X cells slots tgt lv st N h) (k2 : x = y → AtH G X cells slots (pc + 3) lv st N h) : AtH G X cells slots pc lv (vI y :: vI x :: st) N h := by
  obtain ⟨p, l, e, R, s, m, args, below, meth, c, Q, nL⟩ := X
  intro H locs ls hW hS hls
  have e9 := iI_eq hx hy
  exact lv_icmp_ne C.1 C.2.1 d ht (fun q => k1 (fun z => q (e9.mpr z)) H locs ls hW hS hls) (fun q => k2 (e9.mp q) H locs ls hW hS hls)
theorem r_icmplt {x y off : Int} {tgt : Nat} (C : Cx G X own cc) (d : decode cc pc = .ok (.if_icmp .lt off, 3)) (ht : (pc : Int) + off = (tgt : Int)) (hx : rg x) (hy : rg y) (k1 : x < y → AtH G X cells slots tgt lv st N h) (k2 : ¬ x < y → AtH G X cells slots (pc + 3) lv st N h) : AtH G X cells slots pc lv (vI y :: vI x :: st) N h := by
  obtain ⟨p, l, e, R, s, m, args, below, meth, c, Q, nL⟩ := X
  intro H locs ls hW hS hls
  have e9 := iI_lt hx hy
  exact lv_icmp_lt C.1 C.2.1 d ht (fun q => k1 (e9.mp q) H locs ls hW hS hls) (fun q => k2 (fun z => q (e9.mpr z)) H locs ls hW hS hls)
theorem r_icmpge {x y off : Int} {tgt : Nat} (C : Cx G X own cc) (d : decode cc pc = .ok (.if_icmp .ge off, 3)) (ht : (pc : Int) + off = (tgt : Int)) (hx : rg x) (hy : rg y) (k1 : y ≤ x → AtH G X cells slots tgt lv st N h) (k2 : ¬ y ≤ x → AtH G X cells slots (pc + 3) lv st N h) : AtH G X cells slots pc lv (vI y :: vI x :: st) N h := by
  obtain ⟨p, l, e, R, s, m, args, below, meth, c, Q, nL⟩ := X
  intro H locs ls hW hS hls
  have e9 := iI_le hy hx
  exact lv_icmp_ge C.1 C.2.1 d ht (fun q => k1 (e9.mp q) H locs ls hW hS hls) (fun q => k2 (fun z => q (e9.mpr z)) H locs ls hW hS hls)
theorem r_icmpgt {x y off : Int} {tgt : Nat} (C : Cx G X own cc) (d : decode cc pc = .ok (.if_icmp .gt off, 3)) (ht : (pc : Int) + off = (tgt : Int)) (hx : rg x) (hy : rg y) (k1 : y < x → AtH G X cells slots tgt lv st N h) (k2 : ¬ y < x → AtH G X cells slots (pc + 3) lv st N h) : AtH G X cells slots pc lv (vI y :: vI x :: st) N h := by
  obtain ⟨p, l, e, R, s, m, args, below, meth, c, Q, nL⟩ := X
  intro H locs ls hW hS hls
  have e9 := iI_lt hy hx
  exact lv_icmp_gt C.1 C.2.1 d ht (fun q => k1 (e9.mp q) H locs ls hW hS hls) (fun q => k2 (fun z => q (e9.mpr z)) H locs ls hW hS hls)
theorem r_icmple {x y off : Int} {tgt : Nat} (C : Cx G X own cc) (d : decode cc pc = .ok (.if_icmp .le off, 3)) (ht : (pc : Int) + off = (tgt : Int)) (hx : rg x) (hy : rg y) (k1 : x ≤ y → AtH G X cells slots tgt lv st N h) (k2 : ¬ x ≤ y → AtH G X cells slots (pc + 3) lv st N h) : AtH G X cells slots pc lv (vI y :: vI x :: st) N h := by
  obtain ⟨p, l, e, R, s, m, args, below, meth, c, Q, nL⟩ := X
  intro H locs ls hW hS hls
  have e9 := iI_le hx hy
  exact lv_icmp_le C.1 C.2.1 d ht (fun q => k1 (e9.mp q) H locs ls hW hS hls) (fun q => k2 (fun z => q (e9.mpr z)) H locs ls hW hS hls)
/-- the same number, in other words -/
theorem r_top {z y : Int} (e : z = y) (k : AtH G X cells slots pc lv (vI y :: st) N h) : AtH G X cells slots pc lv (vI z :: st) N h := e ▸ k
end
end
section
/-! THE ENGINE, its heap: fields, arrays, calls, ends -/
/-- a class of the system: its place, its fields -/
def OI (ci : Nat) (C : String) (T : u_T) (n : Nat) : Prop := cls7[ci]? = some (C, T, n) ∧ (∀ w ∈ u_ws C T n, w ∈ LW) ∧ (∀ k, k < n → parseFieldDescriptor (T k).2.2.1 = some (tyO (T k).2.2.1)) ∧ ∀ a, a < n → ∀ b, b < n → a ≠ b → (T a).2.1 ≠ (T b).2.1
theorem oi0 : OI 0 R0 T0 8 := ⟨rfl, ws0_in, ty0_ok, nm0_ok⟩
theorem oi1 : OI 1 R1 T1 15 := ⟨rfl, ws1_in, ty1_ok, nm1_ok⟩
theorem oi2 : OI 2 R2 T2 6 := ⟨rfl, ws2_in, ty2_ok, nm2_ok⟩
theorem oi3 : OI 3 R3 T3 5 := ⟨rfl, ws3_in, ty3_ok, nm3_ok⟩
theorem oi4 : OI 4 R4 T4 5 := ⟨rfl, ws4_in, ty4_ok, nm4_ok⟩
theorem oi5 : OI 5 R5 T5 14 := ⟨rfl, ws5_in, ty5_ok, nm5_ok⟩
theorem oi6 : OI 6 R6 T6 12 := ⟨rfl, ws6_in, ty6_ok, nm6_ok⟩
theorem oi7 : OI 7 R7 T7 4 := ⟨rfl, ws7_in, ty7_ok, nm7_ok⟩
theorem oi8 : OI 8 R8 T8 4 := ⟨rfl, ws8_in, ty8_ok, nm8_ok⟩
theorem Wd.put {G : GT} {N k : Nat} {h : HT} {e : va_E} {H H1 : Heap} (hW : Wd G N h H) (hk : k < N) (z : H1.size = H.size) (he : va_at (gD G) cls7 (ad G k, e) H1) (oq : ∀ q : Nat, q ≠ ad G k → H1[q]? = H[q]?) : Wd G N (upH h k e) H1 := by
  refine ⟨⟨by rw [z]; exact hW.1.1, hW.1.2.1.kept (fun j x hx => oq x.1 (fun e9 => hW.1.2.2 x (List.mem_of_getElem? hx) (by rw [e9]; exact gR_ad hW.1.1.1))), hW.1.2.2⟩, fun q => by rw [z]; exact hW.2.1 q, ?_⟩
  have h1 := va_P.set hW.2.2 (wsO_D hW.1.1.1) (wsO_get hk) he oq
  rw [wsO_set e hk] at h1
  exact h1
theorem Wd.at {G : GT} {N k : Nat} {h : HT} {H : Heap} (hW : Wd G N h H) (hk : k < N) : va_at (gD G) cls7 (ad G k, h k) H := hW.2.2 k _ (wsO_get hk)
section
variable {G : GT} {X : CT} {cells slots pc N : Nat} {lv : List (Nat × Value)} {st : List Value} {h : HT} {own : String} {cc : ByteArray}
/-- getfield -/
theorem r_gf {a0 : Nat} {idx k ci n sl : Nat} {T : u_T} {K : String} {fs : List Value} {v : Value} (C : Cx G X own cc) (d : decode cc pc = .ok (.getfield idx, 3)) (ha : ad G k = a0) (hk : k < N) (he : h k = .inr (ci, fs)) (o : OI ci K T n) (hsl : sl < n) (hl : .fieldLink own idx (T sl).1 (T sl).2.1 (T sl).2.2.1 ∈ LW) (hv : fs[sl]? = some v) (kk : AtH G X cells slots (pc + 3) lv (v :: st) N h) : AtH G X cells slots pc lv (.ref a0 :: st) N h := by
  obtain ⟨p, l, e, R, s, m, args, below, meth, c, Q, nL⟩ := X
  intro H locs ls hW hS hls
  subst ha
  obtain ⟨hx, hb, hml, hown, hts, hK, -⟩ := C
  exact va_get (D := gD G) (ci := ci) (v := v) (C := K) (T := T) (N := n) (fs := fs) hx hb hts o.2.1 hown hK hW.2.2 k (by rw [wsO_get hk, he]) o.1 sl hsl (hts _ hl) (fun _ h9 => h9) hv d (kk H locs ls hW hS hls)
/-- putfield of a field that isn't final -/
theorem r_pf {a0 : Nat} {idx k ci n sl : Nat} {T : u_T} {K : String} {fs : List Value} {v : Value} {ty : FieldType} (C : Cx G X own cc) (d : decode cc pc = .ok (.putfield idx, 3)) (ha : ad G k = a0) (hk : k < N) (he : h k = .inr (ci, fs)) (o : OI ci K T n) (hsl : sl < n) (hl : .fieldLink own idx (T sl).1 (T sl).2.1 (T sl).2.2.1 ∈ LW) (hfin : (T sl).2.2.2 = false) (hd : parseFieldDescriptor (T sl).2.2.1 = some ty) (hn : narrow ty v = v) (hfit : fits ty v = true) (hlen : sl < fs.length)
    (kk : AtH G X cells slots (pc + 3) lv st N (upH h k (.inr (ci, fs.set sl v)))) : AtH G X cells slots pc lv (v :: .ref a0 :: st) N h := by
  obtain ⟨p, l, e, R, s, m, args, below, meth, c, Q, nL⟩ := X
  intro H locs ls hW hS hls
  subst ha
  obtain ⟨hx, hb, hml, hown, hts, hK, -⟩ := C
  have hap := va_apart (own := own) hts o.2.1 (fun k => tyO (T k).2.2.1) o.2.2.1 o.2.2.2 hK o.1
  have h9 := hW.at hk
  rw [he] at h9
  obtain ⟨r, h1, cell, q1, q2, q3, q4⟩ := h9
  have hr : r = (K, T, n) := Option.some.inj (h1.symm.trans o.1)
  subst hr
  obtain ⟨hSl, hfc, kC, hkC, hkind⟩ := hK.1 ci _ o.1
  obtain ⟨cf, kf, fi, f, hi, hsl2⟩ := hSl sl hsl
  have hlay := hts _ (o.2.1 _ (u_in_lay hsl))
  unfold u_lay at hlay
  rw [if_neg (by rw [hfin]; decide)] at hlay
  have hst := (u_facts hfc hkC (u_lays hts o.2.1 hsl) hi).1
  have h6 := u_store hfc hkC hkind hlay hi hd hn hfit
  refine W.putK hx hb (f := f) ⟨hown, hts _ hl, ⟨_, _, _, hi⟩, hst⟩ (by rw [q2]; exact h6) q1 q3 (by rw [hsl2]; exact k2_hasslot (q4 sl hsl)) rfl rfl d fun H' e1 e2 e3 => ?_
  rw [hsl2] at e1 ⊢
  exact kk H' _ ls (hW.put hk e2 ⟨_, o.1, t_OB.to (V := updV (vp_V fs) sl v) ⟨_, e1, q2, q3, t_set q4 hap hsl v⟩ (fun j _ => vp_updV_set hlen v j)⟩ e3) (hS.put e2 e3 (gR_ad hW.1.1.1)) hls
/-- array reads -/
theorem r_iald {a0 : Nat} {k n : Nat} {row : Nat → Int} {j : Int} (C : Cx G X own cc) (d : decode cc pc = .ok (.iaload, 1)) (ha : ad G k = a0) (hk : k < N) (he : h k = arI (gA G 0) n row) (h0 : 0 ≤ j) (h1 : j < n) (hn : (n : Int) ≤ 2147483647) (kk : AtH G X cells slots (pc + 1) lv (vI (row j.toNat) :: st) N h) : AtH G X cells slots pc lv (vI j :: .ref a0 :: st) N h := by
  obtain ⟨p, l, e, R, s, m, args, below, meth, c, Q, nL⟩ := X
  intro H locs ls hW hS hls
  subst ha
  refine va_iald (D := gD G) C.1 C.2.1 C.2.2.2.2.2.1 hW.2.2 k 0 (n := n) (f := fun i => iI (row i)) (by rw [wsO_get hk, he]; rfl) rfl (iI_in h0 h1 hn) d ?_
  rw [iI_clamp h0 ⟨by omega, by omega⟩]
  exact kk H locs ls hW hS hls
theorem r_zald {a0 : Nat} {k n : Nat} {row : Nat → Int} {j : Int} (C : Cx G X own cc) (d : decode cc pc = .ok (.baload, 1)) (ha : ad G k = a0) (hk : k < N) (he : h k = arI (gA G 1) n row) (h0 : 0 ≤ j) (h1 : j < n) (hn : (n : Int) ≤ 2147483647) (kk : AtH G X cells slots (pc + 1) lv (vI (row j.toNat) :: st) N h) : AtH G X cells slots pc lv (vI j :: .ref a0 :: st) N h := by
  obtain ⟨p, l, e, R, s, m, args, below, meth, c, Q, nL⟩ := X
  intro H locs ls hW hS hls
  subst ha
  refine va_zald (D := gD G) C.1 C.2.1 C.2.2.2.2.2.1 hW.2.2 k 1 (n := n) (f := fun i => iI (row i)) (by rw [wsO_get hk, he]; rfl) rfl (iI_in h0 h1 hn) d ?_
  rw [iI_clamp h0 ⟨by omega, by omega⟩]
  exact kk H locs ls hW hS hls
theorem r_bald {a0 : Nat} {k n : Nat} {row : Nat → Int} {j : Int} (C : Cx G X own cc) (d : decode cc pc = .ok (.baload, 1)) (ha : ad G k = a0) (hk : k < N) (he : h k = arI (gA G 2) n row) (h0 : 0 ≤ j) (h1 : j < n) (hn : (n : Int) ≤ 2147483647) (kk : AtH G X cells slots (pc + 1) lv (vI (row j.toNat) :: st) N h) : AtH G X cells slots pc lv (vI j :: .ref a0 :: st) N h := by
  obtain ⟨p, l, e, R, s, m, args, below, meth, c, Q, nL⟩ := X
  intro H locs ls hW hS hls
  subst ha
  refine va_bald (D := gD G) C.1 C.2.1 C.2.2.2.2.2.1 hW.2.2 k 2 (n := n) (f := fun i => iI (row i)) (by rw [wsO_get hk, he]; rfl) rfl (iI_in h0 h1 hn) d ?_
  rw [iI_clamp h0 ⟨by omega, by omega⟩]
  exact kk H locs ls hW hS hls
theorem r_aald4 {a0 : Nat} {k n a : Nat} {f : Nat → Option Nat} {j : Int} (C : Cx G X own cc) (d : decode cc pc = .ok (.aaload, 1)) (ha : ad G k = a0) (hk : k < N) (he : h k = arR (gA G 4) n f) (h0 : 0 ≤ j) (h1 : j < n) (hn : (n : Int) ≤ 2147483647) (hf : f j.toNat = some a) (kk : AtH G X cells slots (pc + 1) lv (.ref a :: st) N h) : AtH G X cells slots pc lv (vI j :: .ref a0 :: st) N h := by
  obtain ⟨p, l, e, R, s, m, args, below, meth, c, Q, nL⟩ := X
  intro H locs ls hW hS hls
  subst ha
  refine va_aldq (D := gD G) C.1 C.2.1 C.2.2.2.2.2.1 hW.2.2 k 4 (n := n) (f := f) (C := R4) (by rw [wsO_get hk, he]; rfl) rfl (iI_in h0 h1 hn) d ?_
  rw [iI_clamp h0 ⟨by omega, by omega⟩, hf]
  exact kk H locs ls hW hS hls
theorem r_aald5 {a0 : Nat} {k n a : Nat} {f : Nat → Option Nat} {j : Int} (C : Cx G X own cc) (d : decode cc pc = .ok (.aaload, 1)) (ha : ad G k = a0) (hk : k < N) (he : h k = arR (gA G 5) n f) (h0 : 0 ≤ j) (h1 : j < n) (hn : (n : Int) ≤ 2147483647) (hf : f j.toNat = some a) (kk : AtH G X cells slots (pc + 1) lv (.ref a :: st) N h) : AtH G X cells slots pc lv (vI j :: .ref a0 :: st) N h := by
  obtain ⟨p, l, e, R, s, m, args, below, meth, c, Q, nL⟩ := X
  intro H locs ls hW hS hls
  subst ha
  refine va_aldq (D := gD G) C.1 C.2.1 C.2.2.2.2.2.1 hW.2.2 k 5 (n := n) (f := f) (C := R1) (by rw [wsO_get hk, he]; rfl) rfl (iI_in h0 h1 hn) d ?_
  rw [iI_clamp h0 ⟨by omega, by omega⟩, hf]
  exact kk H locs ls hW hS hls
theorem r_alen2 {a0 : Nat} {k n : Nat} {row : Nat → Int} (C : Cx G X own cc) (d : decode cc pc = .ok (.arraylength, 1)) (ha : ad G k = a0) (hk : k < N) (he : h k = arI (gA G 2) n row) (kk : AtH G X cells slots (pc + 1) lv (vI (n : Int) :: st) N h) : AtH G X cells slots pc lv (.ref a0 :: st) N h := by
  obtain ⟨p, l, e, R, s, m, args, below, meth, c, Q, nL⟩ := X
  intro H locs ls hW hS hls
  subst ha
  exact va_alen (D := gD G) (x := (n, .inl (fun i => iI (row i)))) (v := iI (n : Int)) (cA := gA G 2) C.1 C.2.1 C.2.2.2.2.2.1 hW.2.2 k 2 (by rw [wsO_get hk, he]; rfl) rfl (iI_nI n) d (kk H locs ls hW hS hls)
theorem arI_up {cA : ClassId} {n : Nat} {row : Nat → Int} {j z : Int} (h0 : 0 ≤ j) (hj : rg j) : ((Sum.inl (cA, n, .inl (upd (fun i => iI (row i)) (iI j).toNatClampNeg (iI z)))) : va_E) = arI cA n (updI row j.toNat z) := by
  unfold arI
  congr 4
  funext q
  rw [iI_clamp h0 hj]
  unfold upd updI
  split <;> rfl
/-- array writes -/
theorem r_iast {a0 : Nat} {k n : Nat} {row : Nat → Int} {j z : Int} (C : Cx G X own cc) (d : decode cc pc = .ok (.iastore, 1)) (ha : ad G k = a0) (hk : k < N) (he : h k = arI (gA G 0) n row) (h0 : 0 ≤ j) (h1 : j < n) (hn : (n : Int) ≤ 2147483647) (kk : AtH G X cells slots (pc + 1) lv st N (upH h k (arI (gA G 0) n (updI row j.toNat z)))) : AtH G X cells slots pc lv (vI z :: vI j :: .ref a0 :: st) N h := by
  obtain ⟨p, l, e, R, s, m, args, below, meth, c, Q, nL⟩ := X
  intro H locs ls hW hS hls
  subst ha
  have h9 := hW.at hk
  rw [he] at h9
  have hin := iI_in h0 h1 hn
  refine W.iast (cell := arrV (gA G 0) n (fun i => .int (iI (row i)))) C.1 C.2.1 h9 ((C.2.2.2.2.2.1.2 0 _ rfl).1 n (fun j => .int (iI (row j)))) (fun q => by cases q) (by rw [arrV_size]; exact hin) rfl rfl d fun H1 e z1 oq => ?_
  refine kk H1 _ ls (hW.put hk z1 ?_ oq) (hS.put z1 oq (gR_ad hW.1.1.1)) hls
  show H1[ad G k]? = some (vp_cell _ _)
  rw [e, vp_cell_i, arrV_store]
  congr 2
  funext q
  rw [iI_clamp h0 ⟨by omega, by omega⟩]
  by_cases hq : q = j.toNat
  · simp [updV, updI, hq]
  · simp [updV, updI, hq]
theorem r_bast {a0 : Nat} {k n : Nat} {row : Nat → Int} {j z : Int} (C : Cx G X own cc) (d : decode cc pc = .ok (.bastore, 1)) (ha : ad G k = a0) (hk : k < N) (he : h k = arI (gA G 2) n row) (h0 : 0 ≤ j) (h1 : j < n) (hn : (n : Int) ≤ 2147483647) (kk : AtH G X cells slots (pc + 1) lv st N (upH h k (arI (gA G 2) n (updI row j.toNat (wB z))))) : AtH G X cells slots pc lv (vI z :: vI j :: .ref a0 :: st) N h := by
  obtain ⟨p, l, e, R, s, m, args, below, meth, c, Q, nL⟩ := X
  intro H locs ls hW hS hls
  subst ha
  have h9 := hW.at hk
  rw [he] at h9
  have hin := iI_in h0 h1 hn
  refine W.bast (cell := arrV (gA G 2) n (fun i => .int (iI (row i)))) C.1 C.2.1 h9 ((C.2.2.2.2.2.1.2 2 _ rfl).1 n (fun j => .int (iI (row j)))) (fun q => by cases q) (by rw [arrV_size]; exact hin) rfl rfl d fun H1 e z1 oq => ?_
  refine kk H1 _ ls (hW.put hk z1 ?_ oq) (hS.put z1 oq (gR_ad hW.1.1.1)) hls
  show H1[ad G k]? = some (vp_cell _ _)
  rw [e, vp_cell_i, arrV_store]
  congr 2
  funext q
  rw [iI_clamp h0 ⟨by omega, by omega⟩]
  have e8 : narrow .byte (.int (iI z)) = .int (iI (wB z)) := by rw [narrow_byte, iI_i2b]
  by_cases hq : q = j.toNat
  · simp only [updV, updI, hq, if_true]
    first | exact e8 | (rw [← iI_i2b])
  · simp [updV, updI, hq]
theorem r_zast {a0 : Nat} {k n : Nat} {row : Nat → Int} {j z : Int} (C : Cx G X own cc) (d : decode cc pc = .ok (.bastore, 1)) (ha : ad G k = a0) (hk : k < N) (he : h k = arI (gA G 1) n row) (h0 : 0 ≤ j) (h1 : j < n) (hn : (n : Int) ≤ 2147483647) (hz : z = 0 ∨ z = 1) (kk : AtH G X cells slots (pc + 1) lv st N (upH h k (arI (gA G 1) n (updI row j.toNat z)))) : AtH G X cells slots pc lv (vI z :: vI j :: .ref a0 :: st) N h := by
  obtain ⟨p, l, e, R, s, m, args, below, meth, c, Q, nL⟩ := X
  intro H locs ls hW hS hls
  subst ha
  have h9 := hW.at hk
  rw [he] at h9
  have hin := iI_in h0 h1 hn
  refine W.zast (cell := arrV (gA G 1) n (fun i => .int (iI (row i)))) C.1 C.2.1 h9 ((C.2.2.2.2.2.1.2 1 _ rfl).1 n (fun j => .int (iI (row j)))) (fun q => by cases q) (by rw [arrV_size]; exact hin) rfl rfl d fun H1 e z1 oq => ?_
  refine kk H1 _ ls (hW.put hk z1 ?_ oq) (hS.put z1 oq (gR_ad hW.1.1.1)) hls
  show H1[ad G k]? = some (vp_cell _ _)
  rw [e, vp_cell_i, arrV_store]
  congr 2
  funext q
  rw [iI_clamp h0 ⟨by omega, by omega⟩]
  have e8 : narrow .boolean (.int (iI z)) = .int (iI z) := by rcases hz with e | e <;> subst e <;> rfl
  by_cases hq : q = j.toNat
  · simp only [updV, updI, hq, if_true]
    first | exact e8 | rfl
  · simp [updV, updI, hq]
/-- a call by the receiver's class; it may throw what this method hands on -/
theorem r_callV {a0 : Nat} {idx kk0 nLy n dy mc ms d0 mc0 ms0 : Nat} {y : MethodName} {ccy : ByteArray} {ret ret0 : Option FieldType} {As rest st0 : List Value} {post : Option Value → Nat → HT → Prop} {postX : String → Nat → HT → Prop} {p0 : Option Value → Nat → HT → Prop} {pX0 : String → Nat → HT → Prop} {ci : Nat} {fs : List Value}
    (C : Cx G X own cc) (M : Mx G X d0 mc0 ms0 ret0 p0 pX0) (d : decode cc pc = .ok (.invokevirtual idx, 3)) (wl : .methodLink own idx y ∈ LW) (wy : YV y ccy nLy ret n) (hE : EvH G (xl X) y ccy nLy ret dy mc ms (.ref a0 :: As) N h post postX) (hst : st0 = As.reverse ++ .ref a0 :: rest) (hn : As.length = n) (ha : ad G kk0 = a0) (hk : kk0 < N) (he : h kk0 = .inr (ci, fs)) (hci : (cls7[ci]?).map (fun q => q.1) = some y.cls)
    (hcat : (rest.map fun v => v.category).sum ≤ 8) (hd : dy + 1 ≤ d0) (hnl : nLy ≤ 21) (hmc : cells + mc ≤ mc0) (hms : slots + ms ≤ ms0)
    (hx : ∀ (E : String) (N' : Nat) (h' : HT), postX E N' h' → pX0 E N' h')
    (kk : ∀ (v : Option Value) (N' : Nat) (h' : HT), post v N' h' → AtH G X (cells + mc) (slots + ms) (pc + 3) lv (v.toList ++ rest) N' h') : AtH G X cells slots pc lv st0 N h := by
  obtain ⟨p, l, e, R, s, m, args, below, meth, c, Q, nL⟩ := X
  intro H locs ls hW hS hls
  subst ha
  obtain ⟨hR, hQ, -, htab⟩ := M
  subst hR
  obtain ⟨hexec, hb, hml, hown, hts, hK, hF, hlocks, -, hbs⟩ := C
  obtain ⟨w1, w2, w3, w4, w5, w6⟩ := wy
  have hcb : CallB (rmD d0 mc0 ms0) s args own idx y ccy nLy ret (.code y ccy nLy ret :: LW) (rmD dy mc ms) mc ms n := LW_callB hts wl w3 w4 w5 w6 (by show dy + 1 ≤ d0; exact hd) (by show 8 + (nLy + 11) + 40 * dy ≤ 40 * d0; omega)
  have hA : ∀ q, q < H.size → gR G q → gR G q := fun _ _ q => q
  have hwat := hW.at hk
  rw [he] at hwat
  obtain ⟨r9, hr9, cell9, q1, q2, q3, -⟩ := hwat
  have hcls : s.vm.findClass y.cls = some cell9.cls := by
    have h1 := (hK.1 ci r9 hr9).2.1
    rw [hr9] at hci
    have h2 : r9.1 = y.cls := Option.some.inj hci
    rw [← h2, q2]
    exact h1
  have hpre : PreV s H y.cls (ad G kk0) (PH G (.ref (ad G kk0) :: As) N h) As := by
    refine ⟨PH_blind, ⟨cell9, q1, by rw [q3]; rfl, hcls⟩, fun U hU hWm => ⟨rfl, by rw [hU]; exact hW, va_K.moved hWm.alike hK, ?_⟩⟩
    rw [hU]
    exact (hF.kept (fun a h1 h2 => hS.2.1 a h1 h2)).moved hWm
  have hrun := vx_runV (H := H) (locs := locs) (cells := cells) (slots := slots) (p := p) (e := e) (below := below) (meth := meth) (rest := rest) (As := As) (b := ad G kk0) (g := F0 m pc ls st0) ⟨hexec, hb, hml, hown, hts⟩ hE ⟨hcb, hts _ w1, hts _ w2⟩ hpre rfl hn hls.1 hst (lv_room hcat) d ⟨hmc, hms⟩
  intro T hT X0
  rcases hrun T hT X0 with ⟨v, st₀, t, T', L, h0, X', hL, e1, e2, ⟨v', N', h', hv, hp, hWd, hFr⟩, stp⟩ | ⟨q, st₀, t, T', L, E, ce, h0, X', hL, e1, e2, ⟨N', h', hp, hWd, hFr⟩, hce, hcv, hcl, stp⟩
  · cases hv
    obtain ⟨k1, k2, k3⟩ := vx_keep h0 e1 hS hA (fun _ q => q) hL hFr
    obtain ⟨t2, a1, b1⟩ := kk v N' h' hp T'.heap (locs ++ L) ls (by rw [e1]; exact hWd) k3 hls T' rfl X'
    exact ⟨t2, stp t2 a1, b1⟩
  · obtain ⟨k1, k2, k3⟩ := vx_keep h0 e1 hS hA (fun _ q => q) hL hFr
    subst hQ
    have hout := vx_out (p := p) (l := l) (e := e) (R := rmD d0 mc0 ms0) (args := args) (below := below) (Qc := QH G p0) (XC := XH G pX0) (meth := meth) (c := c) (pc := pc) (ls := ls) (rest := rest) (free := gR G) (m := m) (H := T'.heap) (locs := locs ++ L) (fun x hx9 => (htab x hx9).elim) hlocks (by rw [e1]; exact hce) hcv hcl (fun t9 ht9 hal9 => ⟨N', h', hx E N' h' hp, by rw [ht9, e1]; exact hWd, k3.F ht9⟩) k3.2.2 hmc hms
    obtain ⟨t2, a1, b1⟩ := hout T' rfl X'
    exact ⟨t2, stp.trans a1, b1⟩
/-- a call of a static method -/
theorem r_callS {idx nLy n dy mc ms d0 mc0 ms0 : Nat} {y : MethodName} {ccy : ByteArray} {ret ret0 : Option FieldType} {As rest st0 : List Value} {post : Option Value → Nat → HT → Prop} {postX : String → Nat → HT → Prop} {p0 : Option Value → Nat → HT → Prop} {pX0 : String → Nat → HT → Prop}
    (C : Cx G X own cc) (M : Mx G X d0 mc0 ms0 ret0 p0 pX0) (d : decode cc pc = .ok (.invokestatic idx, 3)) (wl : .methodLink own idx y ∈ LW) (wy : YS y ccy nLy ret n) (hE : EvH G (xl X) y ccy nLy ret dy mc ms As N h post postX) (hst : st0 = As.reverse ++ rest) (hn : As.length = n)
    (hcat : (rest.map fun v => v.category).sum ≤ 8) (hd : dy + 1 ≤ d0) (hnl : nLy ≤ 21) (hmc : cells + mc ≤ mc0) (hms : slots + ms ≤ ms0)
    (hx : ∀ (E : String) (N' : Nat) (h' : HT), postX E N' h' → pX0 E N' h')
    (kk : ∀ (v : Option Value) (N' : Nat) (h' : HT), post v N' h' → AtH G X (cells + mc) (slots + ms) (pc + 3) lv (v.toList ++ rest) N' h') : AtH G X cells slots pc lv st0 N h := by
  obtain ⟨p, l, e, R, s, m, args, below, meth, c, Q, nL⟩ := X
  intro H locs ls hW hS hls
  obtain ⟨hR, hQ, -, htab⟩ := M
  subst hR
  obtain ⟨hexec, hb, hml, hown, hts, hK, hF, hlocks, -, hbs⟩ := C
  obtain ⟨w2, w3, w4, w5, w6⟩ := wy
  have hcb : CallB (rmD d0 mc0 ms0) s args own idx y ccy nLy ret (.code y ccy nLy ret :: LW) (rmD dy mc ms) mc ms n := LW_callB hts wl w3 w4 w5 w6 (by show dy + 1 ≤ d0; exact hd) (by show 8 + (nLy + 11) + 40 * dy ≤ 40 * d0; omega)
  have hA : ∀ q, q < H.size → gR G q → gR G q := fun _ _ q => q
  have hpre : PreS s H (PH G As N h) As := by
    refine ⟨PH_blind, fun U hU hWm => ⟨rfl, by rw [hU]; exact hW, va_K.moved hWm.alike hK, ?_⟩⟩
    rw [hU]
    exact (hF.kept (fun a h1 h2 => hS.2.1 a h1 h2)).moved hWm
  have hrun := vx_runS (H := H) (locs := locs) (cells := cells) (slots := slots) (p := p) (e := e) (below := below) (meth := meth) (rest := rest) (As := As) (g := F0 m pc ls st0) ⟨hexec, hb, hml, hown, hts⟩ hE ⟨hcb, hts _ w2⟩ hpre rfl hn hls.1 hst (lv_room hcat) d ⟨hmc, hms⟩
  intro T hT X0
  rcases hrun T hT X0 with ⟨v, st₀, t, T', L, h0, X', hL, e1, e2, ⟨v', N', h', hv, hp, hWd, hFr⟩, stp⟩ | ⟨q, st₀, t, T', L, E, ce, h0, X', hL, e1, e2, ⟨N', h', hp, hWd, hFr⟩, hce, hcv, hcl, stp⟩
  · cases hv
    obtain ⟨k1, k2, k3⟩ := vx_keep h0 e1 hS hA (fun _ q => q) hL hFr
    obtain ⟨t2, a1, b1⟩ := kk v N' h' hp T'.heap (locs ++ L) ls (by rw [e1]; exact hWd) k3 hls T' rfl X'
    exact ⟨t2, stp t2 a1, b1⟩
  · obtain ⟨k1, k2, k3⟩ := vx_keep h0 e1 hS hA (fun _ q => q) hL hFr
    subst hQ
    have hout := vx_out (p := p) (l := l) (e := e) (R := rmD d0 mc0 ms0) (args := args) (below := below) (Qc := QH G p0) (XC := XH G pX0) (meth := meth) (c := c) (pc := pc) (ls := ls) (rest := rest) (free := gR G) (m := m) (H := T'.heap) (locs := locs ++ L) (fun x hx9 => (htab x hx9).elim) hlocks (by rw [e1]; exact hce) hcv hcl (fun t9 ht9 hal9 => ⟨N', h', hx E N' h' hp, by rw [ht9, e1]; exact hWd, k3.F ht9⟩) k3.2.2 hmc hms
    obtain ⟨t2, a1, b1⟩ := hout T' rfl X'
    exact ⟨t2, stp.trans a1, b1⟩
/-- the ends -/
theorem r_iret {d0 mc0 ms0 : Nat} {ty : FieldType} {post : Option Value → Nat → HT → Prop} {postX : String → Nat → HT → Prop} {z : Int} (C : Cx G X own cc) (M : Mx G X d0 mc0 ms0 (some ty) post postX) (d : decode cc pc = .ok (.ireturn, 1)) (hn : narrow ty (vI z) = vI z) (hmc : cells ≤ mc0) (hms : slots ≤ ms0) (hp : post (some (vI z)) N h) : AtH G X cells slots pc lv [vI z] N h := by
  obtain ⟨p, l, e, R, s, m, args, below, meth, c, Q, nL⟩ := X
  intro H locs ls hW hS hls
  obtain ⟨hR, hQ, hr, -⟩ := M
  have hlocks : meth.locks = false := C.2.2.2.2.2.2.2.1
  subst hQ
  refine W.widen hmc hms (vx_ret ?_)
  exact W.zret C.1 C.2.1 hr hn (fun t ht hW9 => ⟨_, N, h, rfl, hp, by rw [ht]; exact hW, hS.F ht⟩) hS.2.2 d hlocks
theorem r_vret {d0 mc0 ms0 : Nat} {post : Option Value → Nat → HT → Prop} {postX : String → Nat → HT → Prop} (C : Cx G X own cc) (M : Mx G X d0 mc0 ms0 none post postX) (d : decode cc pc = .ok (.return_, 1)) (hmc : cells ≤ mc0) (hms : slots ≤ ms0) (hp : post none N h) : AtH G X cells slots pc lv [] N h := by
  obtain ⟨p, l, e, R, s, m, args, below, meth, c, Q, nL⟩ := X
  intro H locs ls hW hS hls
  obtain ⟨hR, hQ, hr, -⟩ := M
  have hlocks : meth.locks = false := C.2.2.2.2.2.2.2.1
  subst hQ
  refine W.widen hmc hms (vx_ret ?_)
  exact W.vret C.1 C.2.1 hr (fun t ht hW9 => ⟨none, N, h, rfl, hp, by rw [ht]; exact hW, hS.F ht⟩) hS.2.2 d hlocks
end
/-- a contract out of a body's walk -/
theorem ev_of {G : GT} {l : Launch} {y : MethodName} {cc : ByteArray} {nL : Nat} {ret : Option FieldType} {d mc ms : Nat} {av : List Value} {N : Nat} {h : HT} {post : Option Value → Nat → HT → Prop} {postX : String → Nat → HT → Prop} (hlt : l.stackTraces = false) (hy : plainName y.cls = true) (hlen : (lg_sl av).length ≤ nL) (hav : ∀ q ∈ lv_args 0 av, q.2.category = 1) (hnd : (lv_args 0 av).all (fun q => decide ((lv_args 0 av).lookup q.1 = some q.2)) = true ∨ True)
    (body : ∀ X : CT, xl X = l → xN X = nL → Cx G X y.cls cc → Mx G X d mc ms ret post postX → AtH G X 0 0 0 (lv_args 0 av) [] N h) : EvH G l y cc nL ret d mc ms av N h post postX := by
  refine vx_ofW hy rfl ?_
  intro p e s m args below meth c s₁ B hml ht hv
  obtain ⟨rfl, hW, hK, hF⟩ := hv
  have hts := atoms_spec (ws := .code y cc nL ret :: LW) B.pre
  have hl := lv_entry av hlen
  rw [lg_entry_eq]
  generalize (lg_sl av ++ List.replicate (nL - (lg_sl av).length) Slot.unset).toArray = ls at hl ⊢
  have hb9 : gB G ≤ s.heap.size := by have := hW.1; omega
  refine body (p, l, e, rmD d mc ms, s, m, av.toArray, below, meth, c, vx_MQ below (QH G post) (XH G postX) av.toArray s mc ms (gR G), nL) rfl rfl
    ⟨B.exec, B.bytes, hml, findClass_of_methodNamed B.named, fun w hw => hts w (List.mem_cons_of_mem _ hw), hK, hF, B.notSynchronized, hlt, hb9⟩ ⟨rfl, rfl, B.returns, ht⟩ s.heap [] ls hW va_S.rf ⟨hl.1, hl.2.1, fun i v hi => ?_⟩
  have hm : (i, v) ∈ lv_args 0 av := by
    clear hl hnd hav
    revert hi
    generalize lv_args 0 av = lw
    intro hi
    induction lw with
    | nil => simp at hi
    | cons a l9 ih =>
      rw [List.lookup_cons] at hi
      by_cases e9 : i = a.1
      · subst e9
        simp at hi
        subst hi
        exact List.mem_cons_self
      · have hb : (i == a.1) = false := by simp [e9]
        rw [hb] at hi
        exact List.mem_cons_of_mem _ (ih hi)
  exact ⟨hl.2.2 _ hm, hav _ hm⟩
end
section
/-! rows over numbered cells: the heap as numbers V k i -/
theorem celP_0 {b c : Nat} {A : Nat → ClassId} {p : Nat} (hp : p < 10) : ∀ r, celOf b c A (aP p) r = obPlan b (aP p) r := by
  intro r
  have : p = 0 ∨ p = 1 ∨ p = 2 ∨ p = 3 ∨ p = 4 ∨ p = 5 ∨ p = 6 ∨ p = 7 ∨ p = 8 ∨ p = 9 := by omega
  rcases this with h | h | h | h | h | h | h | h | h | h <;> subst h <;> rfl
theorem celP_I {b c : Nat} {A : Nat → ClassId} {p j : Nat} (hp : p < 10) (hj : j = 1 ∨ j = 3 ∨ j = 4) : ∀ r, celOf b c A (aP p + j) r = arI (A 0) 20 r := by
  intro r
  have : p = 0 ∨ p = 1 ∨ p = 2 ∨ p = 3 ∨ p = 4 ∨ p = 5 ∨ p = 6 ∨ p = 7 ∨ p = 8 ∨ p = 9 := by omega
  rcases hj with e | e | e <;> subst e <;> rcases this with h | h | h | h | h | h | h | h | h | h <;> subst h <;> rfl
theorem celP_Z {b c : Nat} {A : Nat → ClassId} {p : Nat} (hp : p < 10) : ∀ r, celOf b c A (aP p + 2) r = arI (A 1) 20 r := by
  intro r
  have : p = 0 ∨ p = 1 ∨ p = 2 ∨ p = 3 ∨ p = 4 ∨ p = 5 ∨ p = 6 ∨ p = 7 ∨ p = 8 ∨ p = 9 := by omega
  rcases this with h | h | h | h | h | h | h | h | h | h <;> subst h <;> rfl
theorem celP_J {b c : Nat} {A : Nat → ClassId} {p j : Nat} (hp : p < 10) (hj : j = 5 ∨ j = 7 ∨ j = 8) : ∀ r, celOf b c A (aP p + j) r = arI (A 0) 8 r := by
  intro r
  have : p = 0 ∨ p = 1 ∨ p = 2 ∨ p = 3 ∨ p = 4 ∨ p = 5 ∨ p = 6 ∨ p = 7 ∨ p = 8 ∨ p = 9 := by omega
  rcases hj with e | e | e <;> subst e <;> rcases this with h | h | h | h | h | h | h | h | h | h <;> subst h <;> rfl
theorem celP_Y {b c : Nat} {A : Nat → ClassId} {p : Nat} (hp : p < 10) : ∀ r, celOf b c A (aP p + 6) r = arI (A 1) 8 r := by
  intro r
  have : p = 0 ∨ p = 1 ∨ p = 2 ∨ p = 3 ∨ p = 4 ∨ p = 5 ∨ p = 6 ∨ p = 7 ∨ p = 8 ∨ p = 9 := by omega
  rcases this with h | h | h | h | h | h | h | h | h | h <;> subst h <;> rfl
theorem celS_0 {b c : Nat} {A : Nat → ClassId} {q : Nat} (hq : q < 2) : ∀ r, celOf b c A (aS q) r = obSetup b (aS q) r := by
  intro r
  have : q = 0 ∨ q = 1 := by omega
  rcases this with h | h <;> subst h <;> rfl
theorem celS_A {b c : Nat} {A : Nat → ClassId} {q : Nat} (hq : q < 2) : ∀ r, celOf b c A (aS q + 1) r = arR (A 4) 10 (fun i => some (b + (aS q + (2 + 2 * i)))) := by
  intro r
  have : q = 0 ∨ q = 1 := by omega
  rcases this with h | h <;> subst h <;> (show arR _ _ _ = arR _ _ _) <;> congr 1 <;> funext i <;> congr 2 <;> unfold aS <;> omega
theorem celS_H {b c : Nat} {A : Nat → ClassId} {q i : Nat} (hq : q < 2) (hi : i < 10) : ∀ r, celOf b c A (aS q + (2 + 2 * i)) r = obShip b (aS q + (2 + 2 * i)) r := by
  intro r
  have h1 : q = 0 ∨ q = 1 := by omega
  have : i = 0 ∨ i = 1 ∨ i = 2 ∨ i = 3 ∨ i = 4 ∨ i = 5 ∨ i = 6 ∨ i = 7 ∨ i = 8 ∨ i = 9 := by omega
  rcases h1 with e | e <;> subst e <;> rcases this with h | h | h | h | h | h | h | h | h | h <;> subst h <;> rfl
theorem celS_N {b c : Nat} {A : Nat → ClassId} {q i : Nat} (hq : q < 2) (hi : i < 10) : ∀ r, celOf b c A (aS q + (2 + 2 * i) + 1) r = arI (A 2) 6 r := by
  intro r
  have h1 : q = 0 ∨ q = 1 := by omega
  have : i = 0 ∨ i = 1 ∨ i = 2 ∨ i = 3 ∨ i = 4 ∨ i = 5 ∨ i = 6 ∨ i = 7 ∨ i = 8 ∨ i = 9 := by omega
  rcases h1 with e | e <;> subst e <;> rcases this with h | h | h | h | h | h | h | h | h | h <;> subst h <;> rfl
theorem aP_lt {p j : Nat} (hp : p < 10) (hj : j < 9) : aP p + j < 148 := by unfold aP; split <;> omega
theorem aP_lt0 {p : Nat} (hp : p < 10) : aP p < 148 := aP_lt (j := 0) hp (by omega)
theorem aS_lt {q j : Nat} (hq : q < 2) (hj : j < 22) : aS q + j < 148 := by unfold aS; omega
theorem aS_lt0 {q : Nat} (hq : q < 2) : aS q < 148 := aS_lt (j := 0) hq (by omega)
theorem hV_up {G : GT} {V : VV} {k i : Nat} {z : Int} {e : va_E} (he : celOf (gB G) (gC G) (gA G) k (updI (V k) i z) = e) : ∀ j, j < gN G → upH (hV G V) k e j = hV G (up2 V k i z) j := by
  intro j _
  unfold upH hV up2
  split
  · rename_i h; subst h; exact he.symm
  · rfl
section
variable {G : GT} {X : CT} {cells slots pc : Nat} {lv : List (Nat × Value)} {st : List Value} {V : VV} {own : String} {cc : ByteArray}
theorem v_gf {a0 : Nat} {idx k ci n sl : Nat} {T : u_T} {K : String} {fs : (Nat → Int) → List Value} {v : Value} (C : Cx G X own cc) (d : decode cc pc = .ok (.getfield idx, 3)) (hl : .fieldLink own idx (T sl).1 (T sl).2.1 (T sl).2.2.1 ∈ LW) (ha : ad G k = a0) (hk : k < gN G) (cf : ∀ r, celOf (gB G) (gC G) (gA G) k r = .inr (ci, fs r)) (o : OI ci K T n) (hsl : sl < n) (hv : (fs (V k))[sl]? = some v) (kk : At G X cells slots (pc + 3) lv (v :: st) V) : At G X cells slots pc lv (.ref a0 :: st) V :=
  r_gf C d ha hk (cf _) o hsl hl hv kk
theorem v_pf {a0 : Nat} {idx k ci n sl : Nat} {T : u_T} {K : String} {fs : (Nat → Int) → List Value} {z : Int} (C : Cx G X own cc) (d : decode cc pc = .ok (.putfield idx, 3)) (hl : .fieldLink own idx (T sl).1 (T sl).2.1 (T sl).2.2.1 ∈ LW) (ha : ad G k = a0) (hk : k < gN G) (cf : ∀ r, celOf (gB G) (gC G) (gA G) k r = .inr (ci, fs r)) (o : OI ci K T n) (hsl : sl < n) (hfin : (T sl).2.2.2 = false) (hd : parseFieldDescriptor (T sl).2.2.1 = some .int) (hlen : ∀ r, sl < (fs r).length) (hset : ∀ r, (fs r).set sl (vI z) = fs (updI r sl z))
    (kk : At G X cells slots (pc + 3) lv st (up2 V k sl z)) : At G X cells slots pc lv (vI z :: .ref a0 :: st) V := by
  refine r_pf C d ha hk (cf _) o hsl hl hfin hd rfl rfl (hlen _) (AtH.e (hV_up ?_) kk)
  rw [cf, hset]
theorem v_iald {a0 : Nat} {k n : Nat} {j : Int} (C : Cx G X own cc) (d : decode cc pc = .ok (.iaload, 1)) (ha : ad G k = a0) (hk : k < gN G) (ca : ∀ r, celOf (gB G) (gC G) (gA G) k r = arI (gA G 0) n r) (h0 : 0 ≤ j) (h1 : j < n) (hn : (n : Int) ≤ 2147483647) (kk : At G X cells slots (pc + 1) lv (vI (V k j.toNat) :: st) V) : At G X cells slots pc lv (vI j :: .ref a0 :: st) V :=
  r_iald C d ha hk (ca _) h0 h1 hn kk
theorem v_zald {a0 : Nat} {k n : Nat} {j : Int} (C : Cx G X own cc) (d : decode cc pc = .ok (.baload, 1)) (ha : ad G k = a0) (hk : k < gN G) (ca : ∀ r, celOf (gB G) (gC G) (gA G) k r = arI (gA G 1) n r) (h0 : 0 ≤ j) (h1 : j < n) (hn : (n : Int) ≤ 2147483647) (kk : At G X cells slots (pc + 1) lv (vI (V k j.toNat) :: st) V) : At G X cells slots pc lv (vI j :: .ref a0 :: st) V :=
  r_zald C d ha hk (ca _) h0 h1 hn kk
theorem v_bald {a0 : Nat} {k n : Nat} {j : Int} (C : Cx G X own cc) (d : decode cc pc = .ok (.baload, 1)) (ha : ad G k = a0) (hk : k < gN G) (ca : ∀ r, celOf (gB G) (gC G) (gA G) k r = arI (gA G 2) n r) (h0 : 0 ≤ j) (h1 : j < n) (hn : (n : Int) ≤ 2147483647) (kk : At G X cells slots (pc + 1) lv (vI (V k j.toNat) :: st) V) : At G X cells slots pc lv (vI j :: .ref a0 :: st) V :=
  r_bald C d ha hk (ca _) h0 h1 hn kk
theorem v_iast {a0 : Nat} {k n : Nat} {j z : Int} (C : Cx G X own cc) (d : decode cc pc = .ok (.iastore, 1)) (ha : ad G k = a0) (hk : k < gN G) (ca : ∀ r, celOf (gB G) (gC G) (gA G) k r = arI (gA G 0) n r) (h0 : 0 ≤ j) (h1 : j < n) (hn : (n : Int) ≤ 2147483647) (kk : At G X cells slots (pc + 1) lv st (up2 V k j.toNat z)) : At G X cells slots pc lv (vI z :: vI j :: .ref a0 :: st) V :=
  r_iast C d ha hk (ca _) h0 h1 hn (AtH.e (hV_up (ca _)) kk)
theorem v_zast {a0 : Nat} {k n : Nat} {j z : Int} (C : Cx G X own cc) (d : decode cc pc = .ok (.bastore, 1)) (ha : ad G k = a0) (hk : k < gN G) (ca : ∀ r, celOf (gB G) (gC G) (gA G) k r = arI (gA G 1) n r) (h0 : 0 ≤ j) (h1 : j < n) (hn : (n : Int) ≤ 2147483647) (hz : z = 0 ∨ z = 1) (kk : At G X cells slots (pc + 1) lv st (up2 V k j.toNat z)) : At G X cells slots pc lv (vI z :: vI j :: .ref a0 :: st) V :=
  r_zast C d ha hk (ca _) h0 h1 hn hz (AtH.e (hV_up (ca _)) kk)
theorem v_bast {a0 : Nat} {k n : Nat} {j z : Int} (C : Cx G X own cc) (d : decode cc pc = .ok (.bastore, 1)) (ha : ad G k = a0) (hk : k < gN G) (ca : ∀ r, celOf (gB G) (gC G) (gA G) k r = arI (gA G 2) n r) (h0 : 0 ≤ j) (h1 : j < n) (hn : (n : Int) ≤ 2147483647) (kk : At G X cells slots (pc + 1) lv st (up2 V k j.toNat (wB z))) : At G X cells slots pc lv (vI z :: vI j :: .ref a0 :: st) V :=
  r_bast C d ha hk (ca _) h0 h1 hn (AtH.e (hV_up (ca _)) kk)
/-- calls -/
theorem v_callV {a0 : Nat} {idx kk0 nLy n dy mc ms d0 mc0 ms0 : Nat} {y : MethodName} {ccy : ByteArray} {ret ret0 : Option FieldType} {As rest st0 : List Value} {post : Option Value → VV → Prop} {postX : String → VV → Prop} {p0 : Option Value → VV → Prop} {pX0 : String → VV → Prop} {ci : Nat} {fs : (Nat → Int) → List Value}
    (C : Cx G X own cc) (M : Mx G X d0 mc0 ms0 ret0 (vP G p0) (vX G pX0)) (d : decode cc pc = .ok (.invokevirtual idx, 3)) (wl : .methodLink own idx y ∈ LW) (wy : YV y ccy nLy ret n) (ha : ad G kk0 = a0) (hk : kk0 < gN G) (cf : ∀ r, celOf (gB G) (gC G) (gA G) kk0 r = .inr (ci, fs r)) (hci : (cls7[ci]?).map (fun q => q.1) = some y.cls) (hE : Ev G (xl X) y ccy nLy ret dy mc ms (.ref a0 :: As) V post postX) (hst : st0 = As.reverse ++ .ref a0 :: rest) (hn : As.length = n)
    (hcat : (rest.map fun v => v.category).sum ≤ 8) (hd : dy + 1 ≤ d0) (hnl : nLy ≤ 21) (hmc : cells + mc ≤ mc0) (hms : slots + ms ≤ ms0)
    (hx : ∀ (E : String) (V' : VV), postX E V' → pX0 E V')
    (kk : ∀ (v : Option Value) (V' : VV), post v V' → At G X (cells + mc) (slots + ms) (pc + 3) lv (v.toList ++ rest) V') : At G X cells slots pc lv st0 V :=
  r_callV C M d wl wy hE hst hn ha hk (cf _) hci hcat hd hnl hmc hms (fun E N' h' q => by obtain ⟨q1, V', q2, q3⟩ := q; exact ⟨q1, V', q2, hx E V' q3⟩) (fun v N' h' q => by obtain ⟨q1, V', q2, q3⟩ := q; subst q1; subst q2; exact kk v V' q3)
theorem v_callS {idx nLy n dy mc ms d0 mc0 ms0 : Nat} {y : MethodName} {ccy : ByteArray} {ret ret0 : Option FieldType} {As rest st0 : List Value} {post : Option Value → VV → Prop} {postX : String → VV → Prop} {p0 : Option Value → VV → Prop} {pX0 : String → VV → Prop}
    (C : Cx G X own cc) (M : Mx G X d0 mc0 ms0 ret0 (vP G p0) (vX G pX0)) (d : decode cc pc = .ok (.invokestatic idx, 3)) (wl : .methodLink own idx y ∈ LW) (wy : YS y ccy nLy ret n) (hE : Ev G (xl X) y ccy nLy ret dy mc ms As V post postX) (hst : st0 = As.reverse ++ rest) (hn : As.length = n)
    (hcat : (rest.map fun v => v.category).sum ≤ 8) (hd : dy + 1 ≤ d0) (hnl : nLy ≤ 21) (hmc : cells + mc ≤ mc0) (hms : slots + ms ≤ ms0)
    (hx : ∀ (E : String) (V' : VV), postX E V' → pX0 E V')
    (kk : ∀ (v : Option Value) (V' : VV), post v V' → At G X (cells + mc) (slots + ms) (pc + 3) lv (v.toList ++ rest) V') : At G X cells slots pc lv st0 V :=
  r_callS C M d wl wy hE hst hn hcat hd hnl hmc hms (fun E N' h' q => by obtain ⟨q1, V', q2, q3⟩ := q; exact ⟨q1, V', q2, hx E V' q3⟩) (fun v N' h' q => by obtain ⟨q1, V', q2, q3⟩ := q; subst q1; subst q2; exact kk v V' q3)
/-- a method that answers z and changes nothing -/
abbrev EvP (G : GT) (l : Launch) (y : MethodName) (cc : ByteArray) (nL : Nat) (ret : Option FieldType) (d : Nat) (av : List Value) (V : VV) (z : Int) : Prop := Ev G l y cc nL ret d 0 0 av V (fun v V' => v = some (vI z) ∧ V' = V) noX
theorem v_callVp {a0 : Nat} {idx kk0 nLy n dy d0 mc0 ms0 : Nat} {y : MethodName} {ccy : ByteArray} {ret ret0 : Option FieldType} {As rest st0 : List Value} {z : Int} {p0 : Option Value → VV → Prop} {pX0 : String → VV → Prop} {ci : Nat} {fs : (Nat → Int) → List Value}
    (C : Cx G X own cc) (M : Mx G X d0 mc0 ms0 ret0 (vP G p0) (vX G pX0)) (d : decode cc pc = .ok (.invokevirtual idx, 3)) (wl : .methodLink own idx y ∈ LW) (wy : YV y ccy nLy ret n) (ha : ad G kk0 = a0) (hk : kk0 < gN G) (cf : ∀ r, celOf (gB G) (gC G) (gA G) kk0 r = .inr (ci, fs r)) (hci : (cls7[ci]?).map (fun q => q.1) = some y.cls) (hE : EvP G (xl X) y ccy nLy ret dy (.ref a0 :: As) V z) (hst : st0 = As.reverse ++ .ref a0 :: rest) (hn : As.length = n)
    (hcat : (rest.map fun v => v.category).sum ≤ 8) (hd : dy + 1 ≤ d0) (hnl : nLy ≤ 21) (hmc : cells ≤ mc0) (hms : slots ≤ ms0)
    (kk : At G X cells slots (pc + 3) lv (vI z :: rest) V) : At G X cells slots pc lv st0 V :=
  v_callV C M d wl wy ha hk cf hci hE hst hn hcat hd hnl hmc hms (fun E V' q => q.elim) (fun v V' q => by obtain ⟨q1, q2⟩ := q; subst q1; subst q2; exact kk)
theorem v_callSp {idx nLy n dy d0 mc0 ms0 : Nat} {y : MethodName} {ccy : ByteArray} {ret ret0 : Option FieldType} {As rest st0 : List Value} {z : Int} {p0 : Option Value → VV → Prop} {pX0 : String → VV → Prop}
    (C : Cx G X own cc) (M : Mx G X d0 mc0 ms0 ret0 (vP G p0) (vX G pX0)) (d : decode cc pc = .ok (.invokestatic idx, 3)) (wl : .methodLink own idx y ∈ LW) (wy : YS y ccy nLy ret n) (hE : EvP G (xl X) y ccy nLy ret dy As V z) (hst : st0 = As.reverse ++ rest) (hn : As.length = n)
    (hcat : (rest.map fun v => v.category).sum ≤ 8) (hd : dy + 1 ≤ d0) (hnl : nLy ≤ 21) (hmc : cells ≤ mc0) (hms : slots ≤ ms0)
    (kk : At G X cells slots (pc + 3) lv (vI z :: rest) V) : At G X cells slots pc lv st0 V :=
  v_callS C M d wl wy hE hst hn hcat hd hnl hmc hms (fun E V' q => q.elim) (fun v V' q => by obtain ⟨q1, q2⟩ := q; subst q1; subst q2; exact kk)
/-- the ends -/
theorem v_iret {d0 mc0 ms0 : Nat} {post : Option Value → VV → Prop} {postX : String → VV → Prop} {z : Int} (C : Cx G X own cc) (M : Mx G X d0 mc0 ms0 (some .int) (vP G post) (vX G postX)) (d : decode cc pc = .ok (.ireturn, 1)) (hmc : cells ≤ mc0) (hms : slots ≤ ms0) (hp : post (some (vI z)) V) : At G X cells slots pc lv [vI z] V :=
  r_iret C M d rfl hmc hms ⟨rfl, V, rfl, hp⟩
theorem v_zret {d0 mc0 ms0 : Nat} {post : Option Value → VV → Prop} {postX : String → VV → Prop} {z : Int} (C : Cx G X own cc) (M : Mx G X d0 mc0 ms0 (some .boolean) (vP G post) (vX G postX)) (d : decode cc pc = .ok (.ireturn, 1)) (hmc : cells ≤ mc0) (hms : slots ≤ ms0) (hz : z = 0 ∨ z = 1) (hp : post (some (vI z)) V) : At G X cells slots pc lv [vI z] V :=
  r_iret C M d (by rcases hz with e | e <;> subst e <;> rfl) hmc hms ⟨rfl, V, rfl, hp⟩
theorem v_vret {d0 mc0 ms0 : Nat} {post : Option Value → VV → Prop} {postX : String → VV → Prop} (C : Cx G X own cc) (M : Mx G X d0 mc0 ms0 none (vP G post) (vX G postX)) (d : decode cc pc = .ok (.return_, 1)) (hmc : cells ≤ mc0) (hms : slots ≤ ms0) (hp : post none V) : At G X cells slots pc lv [] V :=
  r_vret C M d hmc hms ⟨rfl, V, rfl, hp⟩
end
end
