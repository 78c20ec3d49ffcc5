section
-- ===== PART A: goes FIRST, ahead of the names: the tables' words, and 'selects' of the private methods out of them =====
/-- a private method of a class that the tables say can be made, by its rows of tables_1 -/
def lw_okq (q : MethodName × Nat) : Prop := (q.1.cls ≠ "java/lang/invoke/MethodHandle" ∧ q.1.cls ≠ "java/lang/invoke/VarHandle") ∧ Cond.instantiable q.1.cls q.2 ∈ tables_1 ∧ Cond.privateMethod q.1 ∈ tables_1 ∧ Cond.instanceMethod q.1 ∈ tables_1
theorem lw_p0 : lw_okq (⟨"ChannelSchedule", "readSetup", "()Z"⟩, 14) := ⟨⟨by decide +kernel, by decide +kernel⟩, List.mem_of_getElem? (i := 27) (by decide +kernel), List.mem_of_getElem? (i := 274) (by decide +kernel), List.mem_of_getElem? (i := 275) (by decide +kernel)⟩
theorem lw_p1 : lw_okq (⟨"ChannelSchedule", "readSettings", "()Z"⟩, 14) := ⟨⟨by decide +kernel, by decide +kernel⟩, List.mem_of_getElem? (i := 27) (by decide +kernel), List.mem_of_getElem? (i := 293) (by decide +kernel), List.mem_of_getElem? (i := 294) (by decide +kernel)⟩
theorem lw_p2 : lw_okq (⟨"ChannelSchedule", "readShip", "()Z"⟩, 14) := ⟨⟨by decide +kernel, by decide +kernel⟩, List.mem_of_getElem? (i := 27) (by decide +kernel), List.mem_of_getElem? (i := 320) (by decide +kernel), List.mem_of_getElem? (i := 321) (by decide +kernel)⟩
theorem lw_p3 : lw_okq (⟨"ChannelSchedule", "readNewName", "(LChannelSchedule$Ship;)Z"⟩, 14) := ⟨⟨by decide +kernel, by decide +kernel⟩, List.mem_of_getElem? (i := 27) (by decide +kernel), List.mem_of_getElem? (i := 327) (by decide +kernel), List.mem_of_getElem? (i := 328) (by decide +kernel)⟩
theorem lw_p4 : lw_okq (⟨"ChannelSchedule", "startWithDraft", "()V"⟩, 14) := ⟨⟨by decide +kernel, by decide +kernel⟩, List.mem_of_getElem? (i := 27) (by decide +kernel), List.mem_of_getElem? (i := 344) (by decide +kernel), List.mem_of_getElem? (i := 345) (by decide +kernel)⟩
theorem lw_p5 : lw_okq (⟨"java/lang/Throwable", "fillInStackTrace", "(I)Ljava/lang/Throwable;"⟩, 6) := ⟨⟨by decide +kernel, by decide +kernel⟩, List.mem_of_getElem? (i := 440) (by decide +kernel), List.mem_of_getElem? (i := 438) (by decide +kernel), List.mem_of_getElem? (i := 439) (by decide +kernel)⟩
theorem lw_p6 : lw_okq (⟨"ChannelSchedule", "isShip", "(I)Z"⟩, 14) := ⟨⟨by decide +kernel, by decide +kernel⟩, List.mem_of_getElem? (i := 27) (by decide +kernel), List.mem_of_getElem? (i := 473) (by decide +kernel), List.mem_of_getElem? (i := 474) (by decide +kernel)⟩
theorem lw_p7 : lw_okq (⟨"ChannelSchedule", "transitOf", "(I)I"⟩, 14) := ⟨⟨by decide +kernel, by decide +kernel⟩, List.mem_of_getElem? (i := 27) (by decide +kernel), List.mem_of_getElem? (i := 498) (by decide +kernel), List.mem_of_getElem? (i := 499) (by decide +kernel)⟩
theorem lw_p8 : lw_okq (⟨"ChannelSchedule", "isBooking", "(I)Z"⟩, 14) := ⟨⟨by decide +kernel, by decide +kernel⟩, List.mem_of_getElem? (i := 27) (by decide +kernel), List.mem_of_getElem? (i := 510) (by decide +kernel), List.mem_of_getElem? (i := 511) (by decide +kernel)⟩
theorem lw_p9 : lw_okq (⟨"ChannelSchedule", "clashes", "(IZII)Z"⟩, 14) := ⟨⟨by decide +kernel, by decide +kernel⟩, List.mem_of_getElem? (i := 27) (by decide +kernel), List.mem_of_getElem? (i := 521) (by decide +kernel), List.mem_of_getElem? (i := 522) (by decide +kernel)⟩
theorem lw_p10 : lw_okq (⟨"ChannelSchedule", "freeBefore", "(IIZI)I"⟩, 14) := ⟨⟨by decide +kernel, by decide +kernel⟩, List.mem_of_getElem? (i := 27) (by decide +kernel), List.mem_of_getElem? (i := 525) (by decide +kernel), List.mem_of_getElem? (i := 526) (by decide +kernel)⟩
theorem lw_p11 : lw_okq (⟨"ChannelSchedule", "freeAfter", "(IIZI)I"⟩, 14) := ⟨⟨by decide +kernel, by decide +kernel⟩, List.mem_of_getElem? (i := 27) (by decide +kernel), List.mem_of_getElem? (i := 529) (by decide +kernel), List.mem_of_getElem? (i := 530) (by decide +kernel)⟩
theorem lw_p12 : lw_okq (⟨"ChannelSchedule", "bookFault", "(IZI)I"⟩, 14) := ⟨⟨by decide +kernel, by decide +kernel⟩, List.mem_of_getElem? (i := 27) (by decide +kernel), List.mem_of_getElem? (i := 541) (by decide +kernel), List.mem_of_getElem? (i := 542) (by decide +kernel)⟩
theorem lw_p13 : lw_okq (⟨"ChannelSchedule", "firstClash", "(ZIII)I"⟩, 14) := ⟨⟨by decide +kernel, by decide +kernel⟩, List.mem_of_getElem? (i := 27) (by decide +kernel), List.mem_of_getElem? (i := 545) (by decide +kernel), List.mem_of_getElem? (i := 546) (by decide +kernel)⟩
theorem lw_p14 : lw_okq (⟨"ChannelSchedule", "remember", "()V"⟩, 14) := ⟨⟨by decide +kernel, by decide +kernel⟩, List.mem_of_getElem? (i := 27) (by decide +kernel), List.mem_of_getElem? (i := 570) (by decide +kernel), List.mem_of_getElem? (i := 571) (by decide +kernel)⟩
theorem lw_p15 : lw_okq (⟨"ChannelSchedule", "bookNow", "(IZI)I"⟩, 14) := ⟨⟨by decide +kernel, by decide +kernel⟩, List.mem_of_getElem? (i := 27) (by decide +kernel), List.mem_of_getElem? (i := 586) (by decide +kernel), List.mem_of_getElem? (i := 587) (by decide +kernel)⟩
def lw_privs_1 : List (MethodName × Nat) := [(⟨"ChannelSchedule", "readSetup", "()Z"⟩, 14), (⟨"ChannelSchedule", "readSettings", "()Z"⟩, 14), (⟨"ChannelSchedule", "readShip", "()Z"⟩, 14), (⟨"ChannelSchedule", "readNewName", "(LChannelSchedule$Ship;)Z"⟩, 14), (⟨"ChannelSchedule", "startWithDraft", "()V"⟩, 14), (⟨"java/lang/Throwable", "fillInStackTrace", "(I)Ljava/lang/Throwable;"⟩, 6), (⟨"ChannelSchedule", "isShip", "(I)Z"⟩, 14), (⟨"ChannelSchedule", "transitOf", "(I)I"⟩, 14), (⟨"ChannelSchedule", "isBooking", "(I)Z"⟩, 14), (⟨"ChannelSchedule", "clashes", "(IZII)Z"⟩, 14), (⟨"ChannelSchedule", "freeBefore", "(IIZI)I"⟩, 14), (⟨"ChannelSchedule", "freeAfter", "(IIZI)I"⟩, 14), (⟨"ChannelSchedule", "bookFault", "(IZI)I"⟩, 14), (⟨"ChannelSchedule", "firstClash", "(ZIII)I"⟩, 14), (⟨"ChannelSchedule", "remember", "()V"⟩, 14), (⟨"ChannelSchedule", "bookNow", "(IZI)I"⟩, 14)]
theorem lw_r1 : ∀ q ∈ lw_privs_1, lw_okq q := List.forall_mem_cons.mpr ⟨lw_p0, List.forall_mem_cons.mpr ⟨lw_p1, List.forall_mem_cons.mpr ⟨lw_p2, List.forall_mem_cons.mpr ⟨lw_p3, List.forall_mem_cons.mpr ⟨lw_p4, List.forall_mem_cons.mpr ⟨lw_p5, List.forall_mem_cons.mpr ⟨lw_p6, List.forall_mem_cons.mpr ⟨lw_p7, List.forall_mem_cons.mpr ⟨lw_p8, List.forall_mem_cons.mpr ⟨lw_p9, List.forall_mem_cons.mpr ⟨lw_p10, List.forall_mem_cons.mpr ⟨lw_p11, List.forall_mem_cons.mpr ⟨lw_p12, List.forall_mem_cons.mpr ⟨lw_p13, List.forall_mem_cons.mpr ⟨lw_p14, List.forall_mem_cons.mpr ⟨lw_p15, fun _ h => absurd h List.not_mem_nil⟩⟩⟩⟩⟩⟩⟩⟩⟩⟩⟩⟩⟩⟩⟩⟩
theorem lw_p16 : lw_okq (⟨"ChannelSchedule", "requestFault", "(IZII)I"⟩, 14) := ⟨⟨by decide +kernel, by decide +kernel⟩, List.mem_of_getElem? (i := 27) (by decide +kernel), List.mem_of_getElem? (i := 598) (by decide +kernel), List.mem_of_getElem? (i := 599) (by decide +kernel)⟩
theorem lw_p17 : lw_okq (⟨"ChannelSchedule", "startToServe", "(IZII)I"⟩, 14) := ⟨⟨by decide +kernel, by decide +kernel⟩, List.mem_of_getElem? (i := 27) (by decide +kernel), List.mem_of_getElem? (i := 602) (by decide +kernel), List.mem_of_getElem? (i := 603) (by decide +kernel)⟩
theorem lw_p18 : lw_okq (⟨"ChannelSchedule", "leastFreeStart", "(ZIIII)I"⟩, 14) := ⟨⟨by decide +kernel, by decide +kernel⟩, List.mem_of_getElem? (i := 27) (by decide +kernel), List.mem_of_getElem? (i := 606) (by decide +kernel), List.mem_of_getElem? (i := 607) (by decide +kernel)⟩
theorem lw_p19 : lw_okq (⟨"ChannelSchedule", "requestNow", "(IZII)I"⟩, 14) := ⟨⟨by decide +kernel, by decide +kernel⟩, List.mem_of_getElem? (i := 27) (by decide +kernel), List.mem_of_getElem? (i := 610) (by decide +kernel), List.mem_of_getElem? (i := 611) (by decide +kernel)⟩
theorem lw_p20 : lw_okq (⟨"ChannelSchedule", "cancelFault", "(I)I"⟩, 14) := ⟨⟨by decide +kernel, by decide +kernel⟩, List.mem_of_getElem? (i := 27) (by decide +kernel), List.mem_of_getElem? (i := 622) (by decide +kernel), List.mem_of_getElem? (i := 623) (by decide +kernel)⟩
theorem lw_p21 : lw_okq (⟨"ChannelSchedule", "cancelNow", "(I)I"⟩, 14) := ⟨⟨by decide +kernel, by decide +kernel⟩, List.mem_of_getElem? (i := 27) (by decide +kernel), List.mem_of_getElem? (i := 626) (by decide +kernel), List.mem_of_getElem? (i := 627) (by decide +kernel)⟩
theorem lw_p22 : lw_okq (⟨"ChannelSchedule", "serveWaiting", "()I"⟩, 14) := ⟨⟨by decide +kernel, by decide +kernel⟩, List.mem_of_getElem? (i := 27) (by decide +kernel), List.mem_of_getElem? (i := 634) (by decide +kernel), List.mem_of_getElem? (i := 635) (by decide +kernel)⟩
theorem lw_p23 : lw_okq (⟨"ChannelSchedule", "isRequest", "(I)Z"⟩, 14) := ⟨⟨by decide +kernel, by decide +kernel⟩, List.mem_of_getElem? (i := 27) (by decide +kernel), List.mem_of_getElem? (i := 721) (by decide +kernel), List.mem_of_getElem? (i := 722) (by decide +kernel)⟩
theorem lw_p24 : lw_okq (⟨"ChannelSchedule", "freezeNow", "(I)I"⟩, 14) := ⟨⟨by decide +kernel, by decide +kernel⟩, List.mem_of_getElem? (i := 27) (by decide +kernel), List.mem_of_getElem? (i := 1059) (by decide +kernel), List.mem_of_getElem? (i := 1060) (by decide +kernel)⟩
theorem lw_p25 : lw_okq (⟨"ChannelSchedule", "advanceFault", "(I)I"⟩, 14) := ⟨⟨by decide +kernel, by decide +kernel⟩, List.mem_of_getElem? (i := 27) (by decide +kernel), List.mem_of_getElem? (i := 1067) (by decide +kernel), List.mem_of_getElem? (i := 1068) (by decide +kernel)⟩
theorem lw_p26 : lw_okq (⟨"ChannelSchedule", "advanceNow", "(I)I"⟩, 14) := ⟨⟨by decide +kernel, by decide +kernel⟩, List.mem_of_getElem? (i := 27) (by decide +kernel), List.mem_of_getElem? (i := 1071) (by decide +kernel), List.mem_of_getElem? (i := 1072) (by decide +kernel)⟩
def lw_privs_2 : List (MethodName × Nat) := [(⟨"ChannelSchedule", "requestFault", "(IZII)I"⟩, 14), (⟨"ChannelSchedule", "startToServe", "(IZII)I"⟩, 14), (⟨"ChannelSchedule", "leastFreeStart", "(ZIIII)I"⟩, 14), (⟨"ChannelSchedule", "requestNow", "(IZII)I"⟩, 14), (⟨"ChannelSchedule", "cancelFault", "(I)I"⟩, 14), (⟨"ChannelSchedule", "cancelNow", "(I)I"⟩, 14), (⟨"ChannelSchedule", "serveWaiting", "()I"⟩, 14), (⟨"ChannelSchedule", "isRequest", "(I)Z"⟩, 14), (⟨"ChannelSchedule", "freezeNow", "(I)I"⟩, 14), (⟨"ChannelSchedule", "advanceFault", "(I)I"⟩, 14), (⟨"ChannelSchedule", "advanceNow", "(I)I"⟩, 14)]
theorem lw_r2 : ∀ q ∈ lw_privs_2, lw_okq q := List.forall_mem_cons.mpr ⟨lw_p16, List.forall_mem_cons.mpr ⟨lw_p17, List.forall_mem_cons.mpr ⟨lw_p18, List.forall_mem_cons.mpr ⟨lw_p19, List.forall_mem_cons.mpr ⟨lw_p20, List.forall_mem_cons.mpr ⟨lw_p21, List.forall_mem_cons.mpr ⟨lw_p22, List.forall_mem_cons.mpr ⟨lw_p23, List.forall_mem_cons.mpr ⟨lw_p24, List.forall_mem_cons.mpr ⟨lw_p25, List.forall_mem_cons.mpr ⟨lw_p26, fun _ h => absurd h List.not_mem_nil⟩⟩⟩⟩⟩⟩⟩⟩⟩⟩⟩
def lw_privs : List (MethodName × Nat) := lw_privs_1 ++ (lw_privs_2)
def lw_tbl : List Cond := k2_sels lw_privs ++ tables_1
theorem lw_privs_ok : ∀ q ∈ lw_privs, lw_okq q := by
  show ∀ q ∈ lw_privs_1 ++ (lw_privs_2), lw_okq q
  exact List.forall_mem_append.mpr ⟨lw_r1, lw_r2⟩
/-! ===== BEGIN words of one list among another's, by their places ===== -/
theorem goodIn_r {big : List Cond} (ws : List Cond) (ps : List Nat) (hp : ws = ps.filterMap (fun i => big[i]?)) (h : ws.all goodWord = true) : GoodIn big ws := by
  intro w hw
  have h1 := List.all_eq_true.mp h w hw
  rw [hp] at hw
  obtain ⟨i, -, hi⟩ := List.mem_filterMap.mp hw
  have hm : w ∈ big := by first | exact List.mem_of_getElem? hi | exact List.getElem?_mem hi
  exact ⟨hm, good_of_word h1⟩
theorem goodIn_app {big a b : List Cond} (ha : GoodIn big a) (hb : GoodIn big b) : GoodIn big (a ++ b) := fun w h => (List.mem_append.mp h).elim (ha w) (hb w)
theorem goodIn_ca {big a b : List Cond} {c : Cond} (ha : GoodIn big (c :: a)) (hb : GoodIn big b) : GoodIn big (c :: (a ++ b)) := fun w h => (List.mem_cons.mp h).elim (fun e => ha w (List.mem_cons.mpr (Or.inl e))) (fun h => (List.mem_append.mp h).elim (fun h => ha w (List.mem_cons.mpr (Or.inr h))) (hb w))
theorem goodIn_sub {big ws : List Cond} (hm : ∀ w ∈ ws, w ∈ big) (h : ws.all goodWord = true) : GoodIn big ws := fun w hw => ⟨hm w hw, good_of_word (List.all_eq_true.mp h w hw)⟩
/-! ===== END ===== -/
/-! ===== BEGIN exceptions that leave a method, and their catching by the caller (launches without stack traces) ===== -/
section VXA
/-! The laws vx_back, vx_callV, vx_callS, vx_callSW, vx_throw0, vx_throwS follow proofs of the library, with one case more: JvmDerived/Free/Laws.lean (Back.of_free), Shelf42/LK1.lean (callV, callS), Shelf/KitTraced.lean (throwNew0V, throwNewS). -/
/-- where a method has thrown q: the class by its name, the cell, what was written, the world -/
def vx_T (XC : String → State → State → Prop) (st : State) (q : Addr) (t : State) (mc ms : Nat) (free : Addr → Prop) : Prop :=
  ∃ (E : String) (ce : Cell) (L : List Loc), XC E st t ∧ t.heap[q]? = some ce ∧ ce.vm = .none ∧ st.vm.findClass E = some ce.cls ∧ st.WarmedH t.vm ∧ st.sameButNew ({ t with vm := st.vm } : State) L mc ms ∧ ∀ z ∈ L, free z.base
def vx_Q (Qc : Array Value → State → Outcome → State → Prop) (XC : String → State → State → Prop) (mc ms : Nat) (free : Addr → Prop) : Array Value → State → Outcome → State → Prop := fun a st o t =>
  (Qc a st o t ∧ ∃ L, FrameEnd st o t L mc ms ∧ ∀ q ∈ L, free q.base) ∨ ∃ q, o = .threw q ∧ vx_T XC st q t mc ms free
/-- a callee that returns or throws -/
def vx_Met (l : Launch) (y : MethodName) (ws : List Cond) (rm : Room) (Pc : Array Value → State → Prop) (Qc : Array Value → State → Outcome → State → Prop) (XC : String → State → State → Prop) (mc ms : Nat) (free : Addr → Prop) : Prop :=
  MetFree l y (headSpec ws rm) Pc (fun _ _ _ _ _ => True) (vx_Q Qc XC mc ms free)
def vx_Post (XC : String → State → State → Prop) (mc ms : Nat) (free : Addr → Prop) : Pt → Array Value → Addr → Pt → Prop := fun A a q B =>
  ∃ (g : JFrame) (mk : MethodId) (t : State) (L : List Loc) (E : String) (ce : Cell), B.U.heap = t.heap ∧ B.U.vm = t.vm ∧ XC E (A.U.calling g mk a) t ∧ t.heap[q]? = some ce ∧ ce.vm = .none ∧ A.U.vm.findClass E = some ce.cls ∧ B.locs = A.locs ++ L ∧ (∀ z ∈ L, free z.base) ∧ B.cells = A.cells + mc ∧ B.slots = A.slots + ms
def vx_Back (l : Launch) (R : Room) (p : Program) (e : Env) (below : List Frame) (s : State) (sargs : Array Value) (y : MethodName) (len W9 : Nat)
    (Pre : Pt → Array Value → Prop) (Post : Pt → Array Value → Option Value → Pt → Prop) (PostX : Pt → Array Value → Addr → Pt → Prop) : Prop :=
  ∀ (m : MethodId) (meth : Method) (c : Code) (A : Pt) (g : JFrame) (ig : Instr) (mk : MethodId) (a : Array Value),
    Stand p l e R s m sargs below meth c A.U A.locs A.cells A.slots → g.method = m → g.locals.size = c.maxLocals → decode c.code g.pc = .ok (ig, len) →
    2 * g.monitorRoom + (g.stack.map fun v => v.category).sum ≤ W9 → A.U.methodNamed? y = some mk → Pre A a →
    (∃ (v : Option Value) (B : Pt), Stand p l e R s m sargs below meth c B.U B.locs B.cells B.slots ∧ Post A a v B ∧
      Steps p.tables e below (doInvoke e (A.U.setTop g) [] mk a).1 (B.U.setTop { g with pc := g.pc + len, stack := v.toList ++ g.stack })) ∨
    (∃ (q : Addr) (B : Pt), Stand p l e R s m sargs below meth c B.U B.locs B.cells B.slots ∧ PostX A a q B ∧
      Steps p.tables e below (doInvoke e (A.U.setTop g) [] mk a).1 ((B.U.setTop g).pushFrame (.throwing q)))
section Payer
variable {l : Launch} {R : Room} {p : Program} {e : Env} {below : List Frame} {s : State} {sargs : Array Value} {y : MethodName} {len W9 : Nat}
theorem vx_back {ws : List Cond} {rm : Room} {Pc : Array Value → State → Prop} {Qc : Array Value → State → Outcome → State → Prop} {XC : String → State → State → Prop} {mc ms : Nat} {free : Addr → Prop} {bytes : ByteArray} {maxL : Nat} {ret : Option FieldType}
    (hM : vx_Met l y ws rm Pc Qc XC mc ms free) (hblind : FrameBlind Pc) (hrc : rm.cells = mc) (hrs : rm.slots = ms)
    (hframes : rm.frames + 1 ≤ R.frames) (hlocals : W9 + (maxL + 11) + rm.locals ≤ R.locals)
    (hws : ∀ w ∈ ws, ∀ a' U, s.WarmedH U.vm → w.before a' U = true) (hcode : Cond.code y bytes maxL ret ∈ ws) (hinit : ∀ a' U, s.WarmedH U.vm → (Cond.initialized y.cls).before a' U = true) :
    vx_Back l R p e below s sargs y len W9 (PreOf R mc ms Pc) (PostOf Qc mc ms free) (vx_Post XC mc ms free) := by
  intro m meth c A g ig mk a X hg hsize hdg hW hn hp
  have h1 : (headSpec ws rm).pre.before a A.U = true := atoms_intro fun w hw => hws w hw _ _ X.warmed
  have h2 : (Cond.code y bytes maxL ret).before a A.U = true := hws _ hcode _ _ X.warmed
  have h3 : (Cond.initialized y.cls).before a A.U = true := hinit _ _ X.warmed
  have h4 : A.cells + (headSpec ws rm).room.cells ≤ R.cells := by rw [show (headSpec ws rm).room.cells = mc from hrc]; exact hp.1
  have h5 : A.slots + (headSpec ws rm).room.slots ≤ R.slots := by rw [show (headSpec ws rm).room.slots = ms from hrs]; exact hp.2.1
  have hPc : Pc a (A.U.calling g mk a) := hblind _ _ _ _ hp.2.2
  obtain ⟨U, Ls, c0, s0⟩ := A
  dsimp only [Pt.U, Pt.locs, Pt.cells, Pt.slots] at h1 h2 h3 h4 h5 X hn hPc ⊢
  obtain ⟨methY, cY, hmY, hcY, -, hlY, -, -, -, -⟩ := Cond.code_spec hn h2
  obtain ⟨kY, hkY, -⟩ := className_of_methodNamed hn
  have hinitY : kY.init = .initialized := Cond.initialized_spec (findClass_of_methodNamed hn) hkY h3
  have h : At U g.method c below := by rw [hg]; exact X.here
  have hlocals9 : W9 + (maxL + 11) + (headSpec ws rm).room.locals ≤ R.locals := hlocals
  have happ : (headSpec ws rm).appliesLoose y e.platform (U.calling g mk a) = true :=
    Spec.appliesLoose_calling (g := g) h hdg hn hkY hinitY
      (X.room_calling (g := g) (R' := (headSpec ws rm).room) hsize hmY hcY hframes (by rw [hlY]; omega) h4 h5) h1
  obtain ⟨mid, hmid⟩ := h.above
  have hfr : (U.setTop g).frames = (.java g :: mid) ++ below := by rw [State.frames_setTop' g h.top, hmid]; rfl
  obtain ⟨o, s₂, hsteps, -, hend, hq⟩ := Steps.callFree hM p X.admits X.cas X.clock (acts := []) hfr happ hPc trivial
  have hq' : vx_Q Qc XC mc ms free a (U.calling g mk a) o s₂ := hq
  rw [State.frames_setTop' g h.top] at hend
  obtain ⟨g₀, hg0⟩ := Option.isSome_iff_exists.mp h.top
  obtain ⟨r, hr⟩ := State.topJava?_eq_some.mp hg0
  have hr' : (({ U with heap := s₂.heap, slotsUsed := s₂.slotsUsed } : State).setVm s₂.vm).frames = .java g₀ :: r := hr
  rcases hq' with ⟨hqc, L, hfe, hL⟩ | ⟨q, rfl, E, ce, L, hx, hce, hcv, hcl, hW₂, hsm, hL⟩
  · obtain ⟨⟨v, rfl⟩, hW₂, e2, q2, q3, q4, q5, q6⟩ := id hfe
    have e3 : s₂ = ({ (U.calling g mk a).setFrames s₂.frames with heap := s₂.heap, slotsUsed := s₂.slotsUsed } : State).setVm s₂.vm := by
      have : s₂ = ({ s₂ with vm := (U.calling g mk a).vm } : State).setVm s₂.vm := rfl
      rw [e2] at this
      exact this
    obtain ⟨c₂, i₂, len₂, hc₂, hd₂, hf₂⟩ := hend
    have hW' : U.WarmedH s₂.vm := hW₂
    have hcc : c₂ = c := by
      have h1 : s₂.code? g.method = U.code? g.method := by
        rw [State.code?_eq, State.code?_eq, hW'.alike.method?]
      exact Option.some.inj (hc₂.symm.trans (h1.trans h.code))
    subst hcc
    have hlen : len₂ = len := by rw [hdg] at hd₂; cases hd₂; rfl
    subst hlen
    have hs₂ : s₂ = (({ U with heap := s₂.heap, slotsUsed := s₂.slotsUsed } : State).setVm s₂.vm).setTop { g with pc := g.pc + len₂, stack := v.toList ++ g.stack } := by
      refine e3.trans ?_
      rw [hf₂, State.calling_eq h.top, State.setFrames_setFrames, State.setTop_of_frames _ hr', hr]
      rfl
    have hsame : U.sameButNew ({ U with heap := s₂.heap, slotsUsed := s₂.slotsUsed } : State) L mc ms := by
      refine ⟨?_, q2, q3, q4, q5, q6⟩
      obtain ⟨t, ht, -⟩ := State.frames_cons hr
      show ({ U with heap := s₂.heap, slotsUsed := s₂.slotsUsed } : State) = { U.setFrames U.frames with heap := s₂.heap, slotsUsed := s₂.slotsUsed }
      rw [State.setFrames_self ht]
    subst hg
    refine Or.inl ⟨v, ⟨(({ U with heap := s₂.heap, slotsUsed := s₂.slotsUsed } : State).setVm s₂.vm), Ls ++ L, c0 + mc, s0 + ms⟩,
      ⟨X.admits, X.cas, X.clock, X.frames, X.room, X.hears, X.method, X.code, (X.here.setHeapUsed s₂.heap s₂.slotsUsed).setVm hW'.alike, X.tail, State.WarmedH.trans X.warmed hW', X.limits, X.bytes, X.same.trans (hsame.setVm s.vm)⟩,
      ⟨g, mk, s₂, L, rfl, rfl, hqc, rfl, hL, rfl, rfl⟩, ?_⟩
    show Steps p.tables e below _ ((({ U with heap := s₂.heap, slotsUsed := s₂.slotsUsed } : State).setVm s₂.vm).setTop { g with pc := g.pc + len₂, stack := v.toList ++ g.stack })
    rw [← hs₂]
    exact hsteps
  · obtain ⟨e2, q2, q3, q4, q5, q6⟩ := id hsm
    have e3 : s₂ = ({ (U.calling g mk a).setFrames s₂.frames with heap := s₂.heap, slotsUsed := s₂.slotsUsed } : State).setVm s₂.vm := by
      have : s₂ = ({ s₂ with vm := (U.calling g mk a).vm } : State).setVm s₂.vm := rfl
      rw [e2] at this
      exact this
    have hf₂ : s₂.frames = .throwing q :: .java g :: U.frames.tail := hend
    have hW' : U.WarmedH s₂.vm := hW₂
    have hs₂ : s₂ = ((({ U with heap := s₂.heap, slotsUsed := s₂.slotsUsed } : State).setVm s₂.vm).setTop g).pushFrame (.throwing q) := by
      refine e3.trans ?_
      rw [hf₂, State.calling_eq h.top, State.setFrames_setFrames, State.pushFrame, State.frames_setTop _ hr', State.setTop_of_frames _ hr', State.setFrames_setFrames, hr]
      rfl
    have hsame : U.sameButNew ({ U with heap := s₂.heap, slotsUsed := s₂.slotsUsed } : State) L mc ms := by
      refine ⟨?_, q2, q3, q4, q5, q6⟩
      obtain ⟨t, ht, -⟩ := State.frames_cons hr
      show ({ U with heap := s₂.heap, slotsUsed := s₂.slotsUsed } : State) = { U.setFrames U.frames with heap := s₂.heap, slotsUsed := s₂.slotsUsed }
      rw [State.setFrames_self ht]
    subst hg
    refine Or.inr ⟨q, ⟨(({ U with heap := s₂.heap, slotsUsed := s₂.slotsUsed } : State).setVm s₂.vm), Ls ++ L, c0 + mc, s0 + ms⟩,
      ⟨X.admits, X.cas, X.clock, X.frames, X.room, X.hears, X.method, X.code, (X.here.setHeapUsed s₂.heap s₂.slotsUsed).setVm hW'.alike, X.tail, State.WarmedH.trans X.warmed hW', X.limits, X.bytes, X.same.trans (hsame.setVm s.vm)⟩,
      ⟨g, mk, s₂, L, E, ce, rfl, rfl, hx, hce, hcv, hcl, rfl, hL, rfl, rfl⟩, ?_⟩
    show Steps p.tables e below _ (((({ U with heap := s₂.heap, slotsUsed := s₂.slotsUsed } : State).setVm s₂.vm).setTop g).pushFrame (.throwing q))
    rw [← hs₂]
    exact hsteps
end Payer
section Calls
variable {p : Program} {l : Launch} {e : Env} {R : Room} {s : State} {m : MethodId} {args : Array Value} {below : List Frame} {meth : Method} {c : Code} {T : State} {locs : List Loc} {cells slots : Nat}
theorem vx_callV (X : Stand p l e R s m args below meth c T locs cells slots) (hexec : p.tables.exec = Jvm.exec) {own C : String} {index : Nat} {y : MethodName} {bytes : ByteArray} {maxL : Nat} {ret : Option FieldType}
    (hown : s.vm.findClass own = some m.cls) (hlink : (Cond.methodLink own index y).before args s = true) (hinst : (Cond.instanceMethod y).before args s = true) (hsel : (Cond.selects C y y).before args s = true)
    (hcode : (Cond.code y bytes maxL ret).before args s = true) (hy : y.cls ≠ "java/lang/invoke/MethodHandle" ∧ y.cls ≠ "java/lang/invoke/VarHandle")
    {W9 : Nat} {Pre : Pt → Array Value → Prop} {Post : Pt → Array Value → Option Value → Pt → Prop} {PostX : Pt → Array Value → Addr → Pt → Prop} (hK : vx_Back l R p e below s args y 3 W9 Pre Post PostX)
    {b : Addr} {cellB : Cell} (hcell : T.heap[b]? = some cellB) (hobj : cellB.vm.isStatics = false) (hcls : s.vm.findClass C = some cellB.cls)
    {g : JFrame} (hg : g.method = m) (hsize : g.locals.size = c.maxLocals) {argsL rest : List Value} (hlen : ∀ sig, parseMethodDescriptor y.desc = some sig → argsL.length = sig.parameters.length)
    (hstack : g.stack = argsL.reverse ++ .ref b :: rest) (hW : 2 * g.monitorRoom + (rest.map fun v => v.category).sum ≤ W9) (hdg : decode c.code g.pc = .ok (.invokevirtual index, 3))
    (hpre : ∀ vm₁, s.WarmedH vm₁ → Pre ⟨T.setVm vm₁, locs, cells, slots⟩ (Value.ref b :: argsL).toArray) :
    (∃ (v : Option Value) (vm₁ : Vm) (B : Pt), s.WarmedH vm₁ ∧ Stand p l e R s m args below meth c B.U B.locs B.cells B.slots ∧ Post ⟨T.setVm vm₁, locs, cells, slots⟩ (Value.ref b :: argsL).toArray v B ∧
      ∀ target, Steps p.tables e below (B.U.setTop { g with pc := g.pc + 3, stack := v.toList ++ rest }) target → Steps p.tables e below (T.setTop g) target) ∨
    (∃ (q : Addr) (vm₁ : Vm) (B : Pt), s.WarmedH vm₁ ∧ Stand p l e R s m args below meth c B.U B.locs B.cells B.slots ∧ PostX ⟨T.setVm vm₁, locs, cells, slots⟩ (Value.ref b :: argsL).toArray q B ∧
      Steps p.tables e below (T.setTop g) ((B.U.setTop { g with stack := rest }).pushFrame (.throwing q))) := by
  obtain ⟨mk, methM, hnamed, hmethM, hstM, habM⟩ := Cond.instanceMethod_spec hinst
  obtain ⟨methM', cM, hmethM', -, -, -, -, -, -, hsigM⟩ := Cond.code_spec hnamed hcode
  cases hmethM.symm.trans hmethM'
  obtain ⟨c2, r2, m2, q1, q2, q3, q4, kP, hkP, hkPi⟩ := Cond.selects_spec hsel
  cases hcls.symm.trans q1
  cases (State.methodFound?_of_named hnamed hy).symm.trans q2
  cases hnamed.symm.trans q3
  have hselP : selectMethod e.platform s.vm cellB.cls mk = .method mk := by rw [Launch.admits_selectMethod X.admits]; exact q4
  obtain ⟨vm₁, X₁, hstep₁⟩ := X.invokevirtual hexec hown hlink hnamed hmethM hstM hkP hkPi hy (a := b) (cell := cellB) hcell
    (fun z h => by rw [h] at hobj; cases hobj) hselP hmethM habM hkP hkPi (g := g) hg (argsL := argsL) (rest := rest) (hlen _ hsigM) hstack hdg
  rcases hK m meth c ⟨T.setVm vm₁, locs, cells, slots⟩ { g with stack := rest } (.invokevirtual index) mk (Value.ref b :: argsL).toArray X₁ hg hsize hdg hW (X₁.named hnamed) (hpre vm₁ X₁.warmed) with ⟨v, B, X', hpost, hsteps⟩ | ⟨q, B, X', hpost, hsteps⟩
  · exact Or.inl ⟨v, vm₁, B, X₁.warmed, X', hpost, fun target h => hstep₁ _ fun acts => by rw [doInvoke_state]; exact hsteps.trans h⟩
  · exact Or.inr ⟨q, vm₁, B, X₁.warmed, X', hpost, hstep₁ _ fun acts => by rw [doInvoke_state]; exact hsteps⟩
theorem vx_callS (X : Stand p l e R s m args below meth c T locs cells slots) (hexec : p.tables.exec = Jvm.exec) {own : String} {index : Nat} {y : MethodName} {bytes : ByteArray} {maxL : Nat} {ret : Option FieldType}
    (hown : s.vm.findClass own = some m.cls) (hlink : (Cond.methodLink own index y).before args s = true) (hstat : (Cond.static y).before args s = true) (hinit : (Cond.initialized y.cls).before args s = true)
    (hcode : (Cond.code y bytes maxL ret).before args s = true) (hy : y.cls ≠ "java/lang/invoke/MethodHandle" ∧ y.cls ≠ "java/lang/invoke/VarHandle")
    {W9 : Nat} {Pre : Pt → Array Value → Prop} {Post : Pt → Array Value → Option Value → Pt → Prop} {PostX : Pt → Array Value → Addr → Pt → Prop} (hK : vx_Back l R p e below s args y 3 W9 Pre Post PostX)
    {g : JFrame} (hg : g.method = m) (hsize : g.locals.size = c.maxLocals) {argsL rest : List Value} (hlen : ∀ sig, parseMethodDescriptor y.desc = some sig → argsL.length = sig.parameters.length)
    (hstack : g.stack = argsL.reverse ++ rest) (hW : 2 * g.monitorRoom + (rest.map fun v => v.category).sum ≤ W9) (hdg : decode c.code g.pc = .ok (.invokestatic index, 3))
    (hpre : ∀ vm₁, s.WarmedH vm₁ → Pre ⟨T.setVm vm₁, locs, cells, slots⟩ argsL.toArray) :
    (∃ (v : Option Value) (vm₁ : Vm) (B : Pt), s.WarmedH vm₁ ∧ Stand p l e R s m args below meth c B.U B.locs B.cells B.slots ∧ Post ⟨T.setVm vm₁, locs, cells, slots⟩ argsL.toArray v B ∧
      ∀ target, Steps p.tables e below (B.U.setTop { g with pc := g.pc + 3, stack := v.toList ++ rest }) target → Steps p.tables e below (T.setTop g) target) ∨
    (∃ (q : Addr) (vm₁ : Vm) (B : Pt), s.WarmedH vm₁ ∧ Stand p l e R s m args below meth c B.U B.locs B.cells B.slots ∧ PostX ⟨T.setVm vm₁, locs, cells, slots⟩ argsL.toArray q B ∧
      Steps p.tables e below (T.setTop g) ((B.U.setTop { g with stack := rest }).pushFrame (.throwing q))) := by
  obtain ⟨mk, hnamed⟩ := Cond.code_named hcode
  obtain ⟨methM, cM, hmethM, -, -, -, -, -, -, hsigM⟩ := Cond.code_spec hnamed hcode
  have hstatic : methM.isStatic = true := Cond.static_spec hnamed hmethM hstat
  obtain ⟨kP, hkP, -⟩ := className_of_methodNamed hnamed
  have hinitP : kP.init = .initialized := Cond.initialized_spec (findClass_of_methodNamed hnamed) hkP hinit
  obtain ⟨vm₁, X₁, hstep₁⟩ := X.invokestatic hexec hown hlink hnamed hmethM hstatic hkP hinitP hy (g := g) hg (argsL := argsL) (rest := rest) (hlen _ hsigM) hstack hdg
  rcases hK m meth c ⟨T.setVm vm₁, locs, cells, slots⟩ { g with stack := rest } (.invokestatic index) mk argsL.toArray X₁ hg hsize hdg hW (X₁.named hnamed) (hpre vm₁ X₁.warmed) with ⟨v, B, X', hpost, hsteps⟩ | ⟨q, B, X', hpost, hsteps⟩
  · exact Or.inl ⟨v, vm₁, B, X₁.warmed, X', hpost, fun target h => hstep₁ _ fun acts => by rw [doInvoke_state]; exact hsteps.trans h⟩
  · exact Or.inr ⟨q, vm₁, B, X₁.warmed, X', hpost, hstep₁ _ fun acts => by rw [doInvoke_state]; exact hsteps⟩
end Calls
theorem vx_cls {s : State} {T : State} {vm₁ : Vm} {E : String} {k : ClassId} (hW : s.WarmedH vm₁) (h : (T.setVm vm₁).vm.findClass E = some k) : s.vm.findClass E = some k := by
  have h1 : vm₁.findClass E = some k := h
  rw [hW.alike.findClass] at h1
  exact h1
/-- the method's frame g, with q thrown over it -/
def vx_W (p : Program) (l : Launch) (e : Env) (R : Room) (s : State) (m : MethodId) (args : Array Value) (below : List Frame) (meth : Method) (c : Code) (H : Heap) (locs : List Loc) (cells slots : Nat) (Q : State → Prop) (g : JFrame) (q : Addr) : Prop :=
  ∀ T : State, T.heap = H → Stand p l e R s m args below meth c T locs cells slots → ∃ t, Steps p.tables e below ((T.setTop g).pushFrame (.throwing q)) t ∧ Q t
def vx_Run (p : Program) (l : Launch) (e : Env) (R : Room) (s : State) (m : MethodId) (args : Array Value) (below : List Frame) (meth : Method) (c : Code) (H : Heap) (locs : List Loc) (cells slots mc ms : Nat) (g : JFrame) (rest : List Value) (Qa : State → Outcome → State → Prop) (XC : String → State → State → Prop) (free : Addr → Prop) : Prop :=
  ∀ T : State, T.heap = H → Stand p l e R s m args below meth c T locs cells slots →
    (∃ (v : Option Value) (st₀ t T' : State) (L : List Loc), st₀.heap = H ∧ Stand p l e R s m args below meth c T' (locs ++ L) (cells + mc) (slots + ms) ∧ (∀ q ∈ L, free q.base) ∧ T'.heap = t.heap ∧ T'.vm = t.vm ∧ Qa st₀ (.returned v) t ∧
      Goes p e below T g T' { g with pc := g.pc + 3, stack := v.toList ++ rest }) ∨
    (∃ (q : Addr) (st₀ t T' : State) (L : List Loc) (E : String) (ce : Cell), st₀.heap = H ∧ Stand p l e R s m args below meth c T' (locs ++ L) (cells + mc) (slots + ms) ∧ (∀ z ∈ L, free z.base) ∧ T'.heap = t.heap ∧ T'.vm = t.vm ∧ XC E st₀ t ∧ t.heap[q]? = some ce ∧ ce.vm = .none ∧ s.vm.findClass E = some ce.cls ∧
      Steps p.tables e below (T.setTop g) ((T'.setTop { g with stack := rest }).pushFrame (.throwing q)))
def vx_X {S : Type} (px : S → Prop) (B : String → S → State → Prop) (A : Nat → Prop) : String → State → State → Prop := fun E st t => ∃ u : S, px u ∧ B E u t ∧ va_F A st t
section Runs
variable {p : Program} {l : Launch} {e : Env} {R : Room} {s : State} {m : MethodId} {args : Array Value} {below : List Frame} {meth : Method} {c : Code} {H : Heap} {locs : List Loc} {cells slots : Nat}
variable {y : MethodName} {bytes cc : ByteArray} {maxL nL mc ms n index : Nat} {ret : Option FieldType} {ws : List Cond} {rm : Room} {Pc : Array Value → State → Prop} {Qc : Array Value → State → Outcome → State → Prop} {XC : String → State → State → Prop} {free : Addr → Prop} {Ts : List Cond} {own C : String} {b : Addr} {As rest : List Value} {g : JFrame}
theorem vx_callBack (cb : CallB R s args own index y bytes maxL ret ws rm mc ms n) (hM : vx_Met l y ws rm Pc Qc XC mc ms free) (hbl : FrameBlind Pc) : vx_Back l R p e below s args y 3 8 (PreOf R mc ms Pc) (PostOf Qc mc ms free) (vx_Post XC mc ms free) := by
  obtain ⟨hrc, hrs, hfr, hlo, hws, hcw, -, hini, -⟩ := cb
  exact vx_back (bytes := bytes) (maxL := maxL) (ret := ret) hM hbl hrc hrs hfr hlo hws hcw (fun a' U hW => word_at hW (Or.inl (by first | rfl | simp [Cond.onTables, Cond.keeps, Cond.steady])) hini)
theorem vx_runV (S : CallFix p m c cc nL s args Ts own) (hM : vx_Met l y ws rm Pc Qc XC mc ms free) (cw : CallW R s args own C index y bytes maxL ret ws rm mc ms n) (hp : PreV s H C b Pc As)
    (hg : g.method = m) (hn : As.length = n) (hsize : g.locals.size = nL) (hstack : g.stack = As.reverse ++ .ref b :: rest) (hW : 2 * g.monitorRoom + (rest.map fun v => v.category).sum ≤ 8) (hdg : decode cc g.pc = .ok (.invokevirtual index, 3)) (hf : cells + mc ≤ R.cells ∧ slots + ms ≤ R.slots) :
    vx_Run p l e R s m args below meth c H locs cells slots mc ms g rest (Qc (Value.ref b :: As).toArray) XC free := by
  have hK : vx_Back l R p e below s args y 3 8 (PreOf R mc ms Pc) (PostOf Qc mc ms free) (vx_Post XC mc ms free) := vx_callBack cw.1 hM hp.1
  obtain ⟨⟨-, -, -, -, -, -, hcode, -, hy, hlen, hl⟩, hin, hse⟩ := cw
  obtain ⟨hx, hb, hml, ho, -⟩ := S
  obtain ⟨-, ⟨cellB, hcB, hoB, hclB⟩, hPc⟩ := hp
  intro T hT X
  rcases vx_callV X hx (C := C) (bytes := bytes) (maxL := maxL) (ret := ret) ho hl hin hse hcode hy hK (by rw [hT]; exact hcB) hoB hclB hg (hsize.trans hml.symm) (argsL := As) (rest := rest) (fun sig h => hn.trans (hlen sig h)) hstack hW (by rw [hb]; exact hdg)
    (fun vm₁ hW₁ => ⟨hf.1, hf.2, hPc (T.setVm vm₁) hT hW₁⟩) with ⟨v, vm₁, ⟨U', l2, c2, s2⟩, hW₁, X', ⟨g', mk, t, L, e1, e2, hq, h1, hL, h2, h3⟩, st⟩ | ⟨q, vm₁, ⟨U', l2, c2, s2⟩, hW₁, X', ⟨g', mk, t, L, E, ce, e1, e2, hq, hce, hcv, hcl, h1, hL, h2, h3⟩, st⟩
  · dsimp only [Pt.U, Pt.locs, Pt.cells, Pt.slots] at X' e1 e2 h1 h2 h3 st
    subst h1; subst h2; subst h3
    exact Or.inl ⟨v, (T.setVm vm₁).calling g' mk (Value.ref b :: As).toArray, t, U', L, hT, X', hL, e1, e2, hq, st⟩
  · dsimp only [Pt.U, Pt.locs, Pt.cells, Pt.slots] at X' e1 e2 h1 h2 h3 st hcl
    subst h1; subst h2; subst h3
    exact Or.inr ⟨q, (T.setVm vm₁).calling g' mk (Value.ref b :: As).toArray, t, U', L, E, ce, hT, X', hL, e1, e2, hq, hce, hcv, vx_cls hW₁ hcl, st⟩
theorem vx_runS (S : CallFix p m c cc nL s args Ts own) (hM : vx_Met l y ws rm Pc Qc XC mc ms free) (cw : CallB R s args own index y bytes maxL ret ws rm mc ms n ∧ (Cond.static y).before args s = true) (hp : PreS s H Pc As)
    (hg : g.method = m) (hn : As.length = n) (hsize : g.locals.size = nL) (hstack : g.stack = As.reverse ++ rest) (hW : 2 * g.monitorRoom + (rest.map fun v => v.category).sum ≤ 8) (hdg : decode cc g.pc = .ok (.invokestatic index, 3)) (hf : cells + mc ≤ R.cells ∧ slots + ms ≤ R.slots) :
    vx_Run p l e R s m args below meth c H locs cells slots mc ms g rest (Qc As.toArray) XC free := by
  have hK : vx_Back l R p e below s args y 3 8 (PreOf R mc ms Pc) (PostOf Qc mc ms free) (vx_Post XC mc ms free) := vx_callBack cw.1 hM hp.1
  obtain ⟨⟨-, -, -, -, -, -, hcode, hini, hy, hlen, hl⟩, hstt⟩ := cw
  obtain ⟨hx, hb, hml, ho, -⟩ := S
  intro T hT X
  rcases vx_callS X hx (bytes := bytes) (maxL := maxL) (ret := ret) ho hl hstt hini hcode hy hK hg (hsize.trans hml.symm) (argsL := As) (rest := rest) (fun sig h => hn.trans (hlen sig h)) hstack hW (by rw [hb]; exact hdg)
    (fun vm₁ hW₁ => ⟨hf.1, hf.2, hp.2 (T.setVm vm₁) hT hW₁⟩) with ⟨v, vm₁, ⟨U', l2, c2, s2⟩, hW₁, X', ⟨g', mk, t, L, e1, e2, hq, h1, hL, h2, h3⟩, st⟩ | ⟨q, vm₁, ⟨U', l2, c2, s2⟩, hW₁, X', ⟨g', mk, t, L, E, ce, e1, e2, hq, hce, hcv, hcl, h1, hL, h2, h3⟩, st⟩
  · dsimp only [Pt.U, Pt.locs, Pt.cells, Pt.slots] at X' e1 e2 h1 h2 h3 st
    subst h1; subst h2; subst h3
    exact Or.inl ⟨v, (T.setVm vm₁).calling g' mk As.toArray, t, U', L, hT, X', hL, e1, e2, hq, st⟩
  · dsimp only [Pt.U, Pt.locs, Pt.cells, Pt.slots] at X' e1 e2 h1 h2 h3 st hcl
    subst h1; subst h2; subst h3
    exact Or.inr ⟨q, (T.setVm vm₁).calling g' mk As.toArray, t, U', L, E, ce, hT, X', hL, e1, e2, hq, hce, hcv, vx_cls hW₁ hcl, st⟩
end Runs
section Rows
variable {p : Program} {l : Launch} {e : Env} {R : Room} {s : State} {m : MethodId} {args : Array Value} {below : List Frame} {meth : Method} {c : Code} {H : Heap} {locs : List Loc} {cells slots : Nat} {Q : State → Prop}
variable {mc ms : Nat} {free : Addr → Prop} {A0 A1 : Nat → Prop} {H0 : Heap} {a : Array Value} {pc : Nat} {ls : Array Slot} {st0 rest : List Value}
theorem vx_keep {st₀ t T' : State} {L : List Loc} (h0 : st₀.heap = H) (e1 : T'.heap = t.heap) (hS : va_S A0 H0 H locs) (hA : ∀ q, q < H.size → A1 q → A0 q) (hf : ∀ q, free q → A0 q) (hL : ∀ q ∈ L, free q.base) (hF : va_F A1 st₀ t) :
    H.size ≤ T'.heap.size ∧ (∀ q : Nat, q < H.size → ¬ A1 q → T'.heap[q]? = H[q]?) ∧ va_S A0 H0 T'.heap (locs ++ L) := by
  obtain ⟨hz, hk⟩ := hF
  rw [h0] at hz hk
  exact ⟨by rw [e1]; exact hz, fun q h1 h2 => by rw [e1]; exact hk q h1 h2,
    ⟨Nat.le_trans hS.1 (by rw [e1]; exact hz), fun q h1 h2 => by rw [e1, hk q (Nat.lt_of_lt_of_le h1 hS.1) (fun z => h2 (hA q (Nat.lt_of_lt_of_le h1 hS.1) z))]; exact hS.2.1 q h1 h2, fun q hq => by
      rcases List.mem_append.mp hq with h | h
      · exact hS.2.2 q h
      · exact hf _ (hL q h)⟩⟩
theorem vx_calli {S SX : Type} {post : Int32 → S → Prop} {px : SX → Prop} {B : S → State → Prop} {BX : String → SX → State → Prop} {AX : Nat → Prop} (hr : vx_Run p l e R s m args below meth c H locs cells slots mc ms (F0 m pc ls st0) rest (va_Qi post B A1 a) (vx_X px BX AX) free) (hS : va_S A0 H0 H locs) (hA : ∀ q, q < H.size → A1 q → A0 q) (hf : ∀ q, free q → A0 q) (hAX : ∀ q, q < H.size → AX q → A0 q)
    (kx : ∀ (E : String) (ce : Cell) (q9 : Addr) (u : SX) (t : State) (H1 : Heap) (locs1 : List Loc), t.heap = H1 → s.vm.Alike t.vm → px u → BX E u t → H.size ≤ H1.size → (∀ q : Nat, q < H.size → ¬ AX q → H1[q]? = H[q]?) → va_S A0 H0 H1 locs1 → H1[q9]? = some ce → ce.vm = .none → s.vm.findClass E = some ce.cls → vx_W p l e R s m args below meth c H1 locs1 (cells + mc) (slots + ms) Q (F0 m pc ls rest) q9)
    (kk : ∀ (r : Int32) (u : S) (t : State) (H1 : Heap) (locs1 : List Loc), t.heap = H1 → s.vm.Alike t.vm → post r u → B u t → H.size ≤ H1.size → (∀ q : Nat, q < H.size → ¬ A1 q → H1[q]? = H[q]?) → va_S A0 H0 H1 locs1 → W p l e R s m args below meth c H1 locs1 (cells + mc) (slots + ms) Q (F0 m (pc + 3) ls (.int r :: rest))) : W p l e R s m args below meth c H locs cells slots Q (F0 m pc ls st0) := by
  intro T hT X
  rcases hr T hT X with ⟨v, st₀, t, T', L, h0, X', hL, e1, e2, ⟨⟨r, u, hv, hp, hb⟩, hF⟩, st⟩ | ⟨q, st₀, t, T', L, E, ce, h0, X', hL, e1, e2, ⟨u, hp, hb, hF⟩, hce, hcv, hcl, st⟩
  · cases hv
    obtain ⟨k1, k2, k3⟩ := vx_keep h0 e1 hS hA hf hL hF
    obtain ⟨t2, a1, b1⟩ := kk r u t T'.heap (locs ++ L) e1.symm (by rw [← e2]; exact X'.warmed.alike) hp hb k1 k2 k3 T' rfl X'
    exact ⟨t2, st t2 a1, b1⟩
  · obtain ⟨k1, k2, k3⟩ := vx_keep h0 e1 hS hAX hf hL hF
    obtain ⟨t2, a1, b1⟩ := kx E ce q u t T'.heap (locs ++ L) e1.symm (by rw [← e2]; exact X'.warmed.alike) hp hb k1 k2 k3 (by rw [e1]; exact hce) hcv hcl T' rfl X'
    exact ⟨t2, st.trans a1, b1⟩
theorem vx_calll {S SX : Type} {post : Int64 → S → Prop} {px : SX → Prop} {B : S → State → Prop} {BX : String → SX → State → Prop} {AX : Nat → Prop} (hr : vx_Run p l e R s m args below meth c H locs cells slots mc ms (F0 m pc ls st0) rest (va_Ql post B A1 a) (vx_X px BX AX) free) (hS : va_S A0 H0 H locs) (hA : ∀ q, q < H.size → A1 q → A0 q) (hf : ∀ q, free q → A0 q) (hAX : ∀ q, q < H.size → AX q → A0 q)
    (kx : ∀ (E : String) (ce : Cell) (q9 : Addr) (u : SX) (t : State) (H1 : Heap) (locs1 : List Loc), t.heap = H1 → s.vm.Alike t.vm → px u → BX E u t → H.size ≤ H1.size → (∀ q : Nat, q < H.size → ¬ AX q → H1[q]? = H[q]?) → va_S A0 H0 H1 locs1 → H1[q9]? = some ce → ce.vm = .none → s.vm.findClass E = some ce.cls → vx_W p l e R s m args below meth c H1 locs1 (cells + mc) (slots + ms) Q (F0 m pc ls rest) q9)
    (kk : ∀ (r : Int64) (u : S) (t : State) (H1 : Heap) (locs1 : List Loc), t.heap = H1 → s.vm.Alike t.vm → post r u → B u t → H.size ≤ H1.size → (∀ q : Nat, q < H.size → ¬ A1 q → H1[q]? = H[q]?) → va_S A0 H0 H1 locs1 → W p l e R s m args below meth c H1 locs1 (cells + mc) (slots + ms) Q (F0 m (pc + 3) ls (.long r :: rest))) : W p l e R s m args below meth c H locs cells slots Q (F0 m pc ls st0) := by
  intro T hT X
  rcases hr T hT X with ⟨v, st₀, t, T', L, h0, X', hL, e1, e2, ⟨⟨r, u, hv, hp, hb⟩, hF⟩, st⟩ | ⟨q, st₀, t, T', L, E, ce, h0, X', hL, e1, e2, ⟨u, hp, hb, hF⟩, hce, hcv, hcl, st⟩
  · cases hv
    obtain ⟨k1, k2, k3⟩ := vx_keep h0 e1 hS hA hf hL hF
    obtain ⟨t2, a1, b1⟩ := kk r u t T'.heap (locs ++ L) e1.symm (by rw [← e2]; exact X'.warmed.alike) hp hb k1 k2 k3 T' rfl X'
    exact ⟨t2, st t2 a1, b1⟩
  · obtain ⟨k1, k2, k3⟩ := vx_keep h0 e1 hS hAX hf hL hF
    obtain ⟨t2, a1, b1⟩ := kx E ce q u t T'.heap (locs ++ L) e1.symm (by rw [← e2]; exact X'.warmed.alike) hp hb k1 k2 k3 (by rw [e1]; exact hce) hcv hcl T' rfl X'
    exact ⟨t2, st.trans a1, b1⟩
theorem vx_callf {S SX : Type} {post : UInt32 → S → Prop} {px : SX → Prop} {B : S → State → Prop} {BX : String → SX → State → Prop} {AX : Nat → Prop} (hr : vx_Run p l e R s m args below meth c H locs cells slots mc ms (F0 m pc ls st0) rest (va_Qf post B A1 a) (vx_X px BX AX) free) (hS : va_S A0 H0 H locs) (hA : ∀ q, q < H.size → A1 q → A0 q) (hf : ∀ q, free q → A0 q) (hAX : ∀ q, q < H.size → AX q → A0 q)
    (kx : ∀ (E : String) (ce : Cell) (q9 : Addr) (u : SX) (t : State) (H1 : Heap) (locs1 : List Loc), t.heap = H1 → s.vm.Alike t.vm → px u → BX E u t → H.size ≤ H1.size → (∀ q : Nat, q < H.size → ¬ AX q → H1[q]? = H[q]?) → va_S A0 H0 H1 locs1 → H1[q9]? = some ce → ce.vm = .none → s.vm.findClass E = some ce.cls → vx_W p l e R s m args below meth c H1 locs1 (cells + mc) (slots + ms) Q (F0 m pc ls rest) q9)
    (kk : ∀ (r : UInt32) (u : S) (t : State) (H1 : Heap) (locs1 : List Loc), t.heap = H1 → s.vm.Alike t.vm → post r u → B u t → H.size ≤ H1.size → (∀ q : Nat, q < H.size → ¬ A1 q → H1[q]? = H[q]?) → va_S A0 H0 H1 locs1 → W p l e R s m args below meth c H1 locs1 (cells + mc) (slots + ms) Q (F0 m (pc + 3) ls (.float r :: rest))) : W p l e R s m args below meth c H locs cells slots Q (F0 m pc ls st0) := by
  intro T hT X
  rcases hr T hT X with ⟨v, st₀, t, T', L, h0, X', hL, e1, e2, ⟨⟨r, u, hv, hp, hb⟩, hF⟩, st⟩ | ⟨q, st₀, t, T', L, E, ce, h0, X', hL, e1, e2, ⟨u, hp, hb, hF⟩, hce, hcv, hcl, st⟩
  · cases hv
    obtain ⟨k1, k2, k3⟩ := vx_keep h0 e1 hS hA hf hL hF
    obtain ⟨t2, a1, b1⟩ := kk r u t T'.heap (locs ++ L) e1.symm (by rw [← e2]; exact X'.warmed.alike) hp hb k1 k2 k3 T' rfl X'
    exact ⟨t2, st t2 a1, b1⟩
  · obtain ⟨k1, k2, k3⟩ := vx_keep h0 e1 hS hAX hf hL hF
    obtain ⟨t2, a1, b1⟩ := kx E ce q u t T'.heap (locs ++ L) e1.symm (by rw [← e2]; exact X'.warmed.alike) hp hb k1 k2 k3 (by rw [e1]; exact hce) hcv hcl T' rfl X'
    exact ⟨t2, st.trans a1, b1⟩
theorem vx_calld {S SX : Type} {post : UInt64 → S → Prop} {px : SX → Prop} {B : S → State → Prop} {BX : String → SX → State → Prop} {AX : Nat → Prop} (hr : vx_Run p l e R s m args below meth c H locs cells slots mc ms (F0 m pc ls st0) rest (va_Qd post B A1 a) (vx_X px BX AX) free) (hS : va_S A0 H0 H locs) (hA : ∀ q, q < H.size → A1 q → A0 q) (hf : ∀ q, free q → A0 q) (hAX : ∀ q, q < H.size → AX q → A0 q)
    (kx : ∀ (E : String) (ce : Cell) (q9 : Addr) (u : SX) (t : State) (H1 : Heap) (locs1 : List Loc), t.heap = H1 → s.vm.Alike t.vm → px u → BX E u t → H.size ≤ H1.size → (∀ q : Nat, q < H.size → ¬ AX q → H1[q]? = H[q]?) → va_S A0 H0 H1 locs1 → H1[q9]? = some ce → ce.vm = .none → s.vm.findClass E = some ce.cls → vx_W p l e R s m args below meth c H1 locs1 (cells + mc) (slots + ms) Q (F0 m pc ls rest) q9)
    (kk : ∀ (r : UInt64) (u : S) (t : State) (H1 : Heap) (locs1 : List Loc), t.heap = H1 → s.vm.Alike t.vm → post r u → B u t → H.size ≤ H1.size → (∀ q : Nat, q < H.size → ¬ A1 q → H1[q]? = H[q]?) → va_S A0 H0 H1 locs1 → W p l e R s m args below meth c H1 locs1 (cells + mc) (slots + ms) Q (F0 m (pc + 3) ls (.double r :: rest))) : W p l e R s m args below meth c H locs cells slots Q (F0 m pc ls st0) := by
  intro T hT X
  rcases hr T hT X with ⟨v, st₀, t, T', L, h0, X', hL, e1, e2, ⟨⟨r, u, hv, hp, hb⟩, hF⟩, st⟩ | ⟨q, st₀, t, T', L, E, ce, h0, X', hL, e1, e2, ⟨u, hp, hb, hF⟩, hce, hcv, hcl, st⟩
  · cases hv
    obtain ⟨k1, k2, k3⟩ := vx_keep h0 e1 hS hA hf hL hF
    obtain ⟨t2, a1, b1⟩ := kk r u t T'.heap (locs ++ L) e1.symm (by rw [← e2]; exact X'.warmed.alike) hp hb k1 k2 k3 T' rfl X'
    exact ⟨t2, st t2 a1, b1⟩
  · obtain ⟨k1, k2, k3⟩ := vx_keep h0 e1 hS hAX hf hL hF
    obtain ⟨t2, a1, b1⟩ := kx E ce q u t T'.heap (locs ++ L) e1.symm (by rw [← e2]; exact X'.warmed.alike) hp hb k1 k2 k3 (by rw [e1]; exact hce) hcv hcl T' rfl X'
    exact ⟨t2, st.trans a1, b1⟩
theorem vx_callv {S SX : Type} {post : S → Prop} {px : SX → Prop} {B : S → State → Prop} {BX : String → SX → State → Prop} {AX : Nat → Prop} (hr : vx_Run p l e R s m args below meth c H locs cells slots mc ms (F0 m pc ls st0) rest (va_Qv post B A1 a) (vx_X px BX AX) free) (hS : va_S A0 H0 H locs) (hA : ∀ q, q < H.size → A1 q → A0 q) (hf : ∀ q, free q → A0 q) (hAX : ∀ q, q < H.size → AX q → A0 q)
    (kx : ∀ (E : String) (ce : Cell) (q9 : Addr) (u : SX) (t : State) (H1 : Heap) (locs1 : List Loc), t.heap = H1 → s.vm.Alike t.vm → px u → BX E u t → H.size ≤ H1.size → (∀ q : Nat, q < H.size → ¬ AX q → H1[q]? = H[q]?) → va_S A0 H0 H1 locs1 → H1[q9]? = some ce → ce.vm = .none → s.vm.findClass E = some ce.cls → vx_W p l e R s m args below meth c H1 locs1 (cells + mc) (slots + ms) Q (F0 m pc ls rest) q9)
    (kk : ∀ (u : S) (t : State) (H1 : Heap) (locs1 : List Loc), t.heap = H1 → s.vm.Alike t.vm → post u → B u t → H.size ≤ H1.size → (∀ q : Nat, q < H.size → ¬ A1 q → H1[q]? = H[q]?) → va_S A0 H0 H1 locs1 → W p l e R s m args below meth c H1 locs1 (cells + mc) (slots + ms) Q (F0 m (pc + 3) ls (rest))) : W p l e R s m args below meth c H locs cells slots Q (F0 m pc ls st0) := by
  intro T hT X
  rcases hr T hT X with ⟨v, st₀, t, T', L, h0, X', hL, e1, e2, ⟨⟨u, hv, hp, hb⟩, hF⟩, st⟩ | ⟨q, st₀, t, T', L, E, ce, h0, X', hL, e1, e2, ⟨u, hp, hb, hF⟩, hce, hcv, hcl, st⟩
  · cases hv
    obtain ⟨k1, k2, k3⟩ := vx_keep h0 e1 hS hA hf hL hF
    obtain ⟨t2, a1, b1⟩ := kk u t T'.heap (locs ++ L) e1.symm (by rw [← e2]; exact X'.warmed.alike) hp hb k1 k2 k3 T' rfl X'
    exact ⟨t2, st t2 a1, b1⟩
  · obtain ⟨k1, k2, k3⟩ := vx_keep h0 e1 hS hAX hf hL hF
    obtain ⟨t2, a1, b1⟩ := kx E ce q u t T'.heap (locs ++ L) e1.symm (by rw [← e2]; exact X'.warmed.alike) hp hb k1 k2 k3 (by rw [e1]; exact hce) hcv hcl T' rfl X'
    exact ⟨t2, st.trans a1, b1⟩
/-- caught by the row x of this method's table; the rows ahead don't take it -/
theorem vx_catch {own name : String} {E : String} {ce : Cell} {q : Addr} (hown : s.vm.findClass own = some m.cls) (pre : List ExceptionTableEntry) (x : ExceptionTableEntry) (suf : List ExceptionTableEntry) (hsplit : c.exceptionTable.toList = pre ++ x :: suf)
    (hpass : ∀ z ∈ pre, covers z pc = false ∨ (z.catchType ≠ 0 ∧ ∃ nm : String, (Cond.classLink own z.catchType nm).before args s = true ∧ va_Nc E nm s)) (hx : covers x pc = true) (h0 : x.catchType ≠ 0)
    (hlink : (Cond.classLink own x.catchType name).before args s = true) (hcast : (Cond.castable E name).before args s = true) (hcell : H[q]? = some ce) (hv : ce.vm = .none) (hcl : s.vm.findClass E = some ce.cls)
    (kk : W p l e R s m args below meth c H locs cells slots Q (F0 m x.handlerPc ls [.ref q])) : vx_W p l e R s m args below meth c H locs cells slots Q (F0 m pc ls rest) q := by
  intro T hT X
  have hpl : e.platform.magicAccessors = ({} : Platform).magicAccessors := by rw [X.admits.platform]
  obtain ⟨c3, c4, hc3, hc4, hasg⟩ := Cond.castable_spec hcast
  cases Option.some.inj (hc3.symm.trans hcl)
  obtain ⟨c5, hc5, hcl5⟩ := Cond.classLink_spec hown hlink e.platform hpl
  cases Option.some.inj (hc4.symm.trans hc5)
  obtain ⟨vm', X', st⟩ := X.thenCaughtThrough q (g := F0 m pc ls rest) rfl (Steps.refl _) (by rw [hT]; exact hcell) (by rw [hv]; rfl) (by obtain ⟨k9, h9, -⟩ := Vm.findClass_spec hcl; exact ⟨k9, h9⟩) pre x suf hsplit
    (fun z hz => by
      rcases hpass z hz with h | ⟨hz0, nm, hl1, hn1⟩
      · exact Or.inl h
      · obtain ⟨c6, hc6, hcl6⟩ := Cond.classLink_spec hown hl1 e.platform hpl
        obtain ⟨a8, b8, h1, h2, h3⟩ := hn1
        cases Option.some.inj (h1.symm.trans hcl)
        cases Option.some.inj (h2.symm.trans hc6)
        exact Or.inr ⟨hz0, _, hcl6, h3⟩) hx (Or.inr ⟨h0, c4, hcl5, hasg⟩)
  obtain ⟨t, a1, b1⟩ := kk (T.setVm vm') hT X'
  exact ⟨t, st.trans a1, b1⟩
end Rows
section Ends
variable {p : Program} {l : Launch} {e : Env} {R : Room} {s : State} {m : MethodId} {args : Array Value} {below : List Frame} {meth : Method} {c : Code} {H : Heap} {locs : List Loc} {cells slots : Nat} {Q : State → Prop}
variable {mc ms : Nat} {free : Addr → Prop} {A0 A1 : Nat → Prop} {H0 : Heap} {a : Array Value} {ls : Array Slot} {st0 rest : List Value}
variable {Qc : Array Value → State → Outcome → State → Prop} {XC : String → State → State → Prop}
/-- what a body that may throw owes at its end -/
def vx_MQ (below : List Frame) (Qc : Array Value → State → Outcome → State → Prop) (XC : String → State → State → Prop) (a : Array Value) (s : State) (mc ms : Nat) (free : Addr → Prop) : State → Prop := fun t =>
  ∃ o, t.status = .running ∧ Ended t below o ∧ vx_Q Qc XC mc ms free a s o t
theorem vx_ret {g : JFrame} {mc ms : Nat} (k : W p l e R s m args below meth c H locs cells slots (MQ below Qc args s mc ms free) g) : W p l e R s m args below meth c H locs cells slots (vx_MQ below Qc XC args s mc ms free) g := by
  intro T hT X
  obtain ⟨t, a1, o, b1, b2, b3, b4⟩ := k T hT X
  exact ⟨t, a1, o, b1, b2, Or.inl ⟨b3, b4⟩⟩
/-- not caught here: it goes on to the caller -/
theorem vx_widen {g : JFrame} {q : Addr} {k n : Nat} (h1 : cells ≤ k) (h2 : slots ≤ n) (kk : vx_W p l e R s m args below meth c H locs k n Q g q) : vx_W p l e R s m args below meth c H locs cells slots Q g q := fun T hT X => kk T hT (stand_widen X h1 h2)
theorem vx_out {pc : Nat} {E : String} {ce : Cell} {q : Addr} {mc ms : Nat} (hout : ∀ x ∈ c.exceptionTable.toList, covers x pc = false) (hlocks : meth.locks = false) (hcell : H[q]? = some ce) (hv : ce.vm = .none) (hcl : s.vm.findClass E = some ce.cls)
    (hx : ∀ t : State, t.heap = H → s.vm.Alike t.vm → XC E s t) (hf : ∀ z ∈ locs, free z.base) (hc : cells ≤ mc) (hs : slots ≤ ms) :
    vx_W p l e R s m args below meth c H locs cells slots (vx_MQ below Qc XC args s mc ms free) (F0 m pc ls rest) q := by
  intro T hT X
  obtain ⟨st1, hrun, hend, hW, hsm⟩ := X.leaveThrown q (g := F0 m pc ls rest) rfl rfl rfl hout hlocks
  have hcell9 : (T.setFrames (.throwing q :: below)).heap[q]? = some ce := by
    show T.heap[q]? = some ce
    rw [hT]; exact hcell
  exact ⟨_, st1, .threw q, hrun, hend, Or.inr ⟨q, rfl, E, ce, locs, hx _ hT hW.alike, hcell9, hv, hcl, hW, hsm.mono hc hs, hf⟩⟩
theorem vx_frame {U : State} {k n : Nat} (h : s.sameButNew ({ U with vm := s.vm } : State) locs k n) : s.heap.size ≤ U.heap.size ∧ ∀ q : Nat, q < s.heap.size → (∀ z ∈ locs, z.base ≠ q) → U.heap[q]? = s.heap[q]? := by
  obtain ⟨-, h2, -, -, -, h6⟩ := h
  refine ⟨h2, fun q hq hz => ?_⟩
  obtain ⟨c9, e1, e2, e3, e4⟩ := h6 q _ (Array.getElem?_eq_getElem hq)
  have hs : c9.slots = (s.heap[q]).slots := Array.ext_getElem? fun i => e4 i fun hm => hz _ hm rfl
  have h9 : c9 = s.heap[q] := by
    rw [hs] at e2
    exact e2
  have e5 : U.heap[q]? = some c9 := e1
  rw [e5, h9, Array.getElem?_eq_getElem hq]
/-- the words of a throw but the four that speak of the heap -/
def vx_no (w : Cond) : Bool := decide (w ≠ .isRef (.static Bundle.tN "UNASSIGNED_STACK" Bundle.steD)) && decide (w ≠ .isRef (.static Bundle.tN "SUPPRESSED_SENTINEL" Bundle.listD)) && decide (w ≠ .laysStatic Bundle.tN "UNASSIGNED_STACK" Bundle.steD) && decide (w ≠ .laysStatic Bundle.tN "SUPPRESSED_SENTINEL" Bundle.listD)
def vx_at0 (own : String) (ic : Nat) (X : String) (names : List String) : List Cond := (Bundle.ownAtoms0 own ic X names).filter vx_no
def vx_atS (own : String) (ic : Nat) (X : String) (names : List String) : List Cond := (Bundle.ownAtoms own ic X names).filter vx_no
/-- a word that the tables alone decide, or a good one -/
def vx_ot (w : Cond) : Bool := w.onTables || goodWord w
theorem vx_ot_at {args a' : Array Value} {s U : State} {w : Cond} (hW : s.WarmedH U.vm) (hvm : s.vm = U.vm) (hg : vx_ot w = true) (h : w.before args s = true) : w.before a' U = true := by
  simp only [vx_ot, Bool.or_eq_true] at hg
  rcases hg with hg | hg
  · exact va_tabs hg hvm h
  · exact word_at hW (good_of_word hg) h
/-- a list's words: the good ones out of the method's own list, the others by premises of their own -/
theorem vx_hat {args : Array Value} {s : State} {L B : List Cond} (h1 : ∀ w ∈ L.filter goodWord, w.before args s = true) (h2 : ∀ w ∈ L.filter (fun w => !goodWord w), w ∈ B) (h3 : ∀ w ∈ B, w.before args s = true) : ∀ w ∈ L, w.before args s = true := by
  intro w hw
  by_cases g : goodWord w = true
  · exact h1 w (List.mem_filter.mpr ⟨hw, g⟩)
  · refine h3 w (h2 w (List.mem_filter.mpr ⟨hw, ?_⟩))
    show (!goodWord w) = true
    cases hgw : goodWord w
    · rfl
    · exact absurd hgw g
theorem vx_c {args : Array Value} {s : State} {w : Cond} {B : List Cond} (h : w.before args s = true) (t : ∀ w ∈ B, w.before args s = true) : ∀ w' ∈ w :: B, w'.before args s = true := fun w' h' => (List.mem_cons.mp h').elim (fun e => by rw [e]; exact h) (t w')
theorem vx_n {args : Array Value} {s : State} : ∀ w ∈ ([] : List Cond), w.before args s = true := fun _ h => nomatch h
theorem vx_own {args : Array Value} {s : State} {L : List Cond} (h1 : ∀ w ∈ L.filter vx_no, w.before args s = true)
    (hU : (Cond.isRef (.static Bundle.tN "UNASSIGNED_STACK" Bundle.steD)).before args s = true) (hN : (Cond.isRef (.static Bundle.tN "SUPPRESSED_SENTINEL" Bundle.listD)).before args s = true)
    (lU : (Cond.laysStatic Bundle.tN "UNASSIGNED_STACK" Bundle.steD).before args s = true) (lN : (Cond.laysStatic Bundle.tN "SUPPRESSED_SENTINEL" Bundle.listD).before args s = true) : ∀ w ∈ L, w.before args s = true := by
  intro w hw
  by_cases e1 : w = .isRef (.static Bundle.tN "UNASSIGNED_STACK" Bundle.steD)
  · rw [e1]; exact hU
  · by_cases e2 : w = .isRef (.static Bundle.tN "SUPPRESSED_SENTINEL" Bundle.listD)
    · rw [e2]; exact hN
    · by_cases e3 : w = .laysStatic Bundle.tN "UNASSIGNED_STACK" Bundle.steD
      · rw [e3]; exact lU
      · by_cases e4 : w = .laysStatic Bundle.tN "SUPPRESSED_SENTINEL" Bundle.listD
        · rw [e4]; exact lN
        · exact h1 w (List.mem_filter.mpr ⟨hw, by unfold vx_no; rw [decide_eq_true e1, decide_eq_true e2, decide_eq_true e3, decide_eq_true e4]; rfl⟩)
/-- where a static field lies, its class's statics cell in H -/
def vx_L (C n d : String) (A : Nat → Prop) (U : State) (H : Heap) : Prop := ∃ (c : ClassId) (k : Class) (i : Nat) (f : Field) (a : Nat) (cell : Cell), U.vm.findClass C = some c ∧ U.fieldFound? C n d = some (c, k, i, f) ∧ f.isStatic = true ∧ k.statics = some a ∧ H[a]? = some cell ∧ cell.vm.isStatics = true ∧ cell.cls = c ∧ f.slot < cell.slots.size ∧ k.staticTypes[f.slot]? = some f.type ∧ ¬ A a
theorem vx_L.moved {C n d : String} {A : Nat → Prop} {u U : State} {H : Heap} (hvm : u.vm.Alike U.vm) (h : vx_L C n d A u H) : vx_L C n d A U H := by
  obtain ⟨c, k, i, f, a, cell, h1, h2, h3, h4, h5, h6, h7, h8, h9, h10⟩ := h
  obtain ⟨k', hi', he⟩ := State.fieldFound?_setVm hvm h2
  exact ⟨c, k', i, f, a, cell, by rw [hvm.findClass]; exact h1, hi', h3, by rw [he]; exact h4, h5, h6, h7, h8, by rw [he]; exact h9, h10⟩
theorem vx_L.kept {C n d : String} {A : Nat → Prop} {U : State} {H H1 : Heap} (h : vx_L C n d A U H) (hq : ∀ a : Nat, a < H.size → ¬ A a → H1[a]? = H[a]?) : vx_L C n d A U H1 := by
  obtain ⟨c, k, i, f, a, cell, h1, h2, h3, h4, h5, h6, h7, h8, h9, h10⟩ := h
  exact ⟨c, k, i, f, a, cell, h1, h2, h3, h4, by rw [hq a (Array.getElem?_eq_some_iff.mp h5).1 h10]; exact h5, h6, h7, h8, h9, h10⟩
theorem vx_L.narrow {C n d : String} {A B : Nat → Prop} {U : State} {H : Heap} (h : vx_L C n d A U H) (hAB : ∀ q, B q → A q) : vx_L C n d B U H := by
  obtain ⟨c, k, i, f, a, cell, h1, h2, h3, h4, h5, h6, h7, h8, h9, h10⟩ := h
  exact ⟨c, k, i, f, a, cell, h1, h2, h3, h4, h5, h6, h7, h8, h9, fun z => h10 (hAB _ z)⟩
theorem vx_L.word {C n d : String} {A : Nat → Prop} {s : State} {args : Array Value} (h : vx_L C n d A s s.heap) : (Cond.laysStatic C n d).before args s = true := by
  obtain ⟨c, k, i, f, a, cell, h1, h2, h3, h4, h5, h6, h7, h8, h9, -⟩ := h
  show (Cond.laysStatic C n d).holds args s none s [] = true
  exact Cond.laysStatic_of h1 h2 h3 h4 h5 h6 h7 h8 h9
/-- .. and what it holds: null or some reference -/
def vx_Zq (C n d : String) (A : Nat → Prop) (U : State) (H : Heap) : Prop := va_Zq C n d A U H ∧ vx_L C n d A U H
theorem vx_Zq.moved {C n d : String} {A : Nat → Prop} {u U : State} {H : Heap} (hvm : u.vm.Alike U.vm) (h : vx_Zq C n d A u H) : vx_Zq C n d A U H := ⟨va_Zq.moved hvm h.1, vx_L.moved hvm h.2⟩
theorem vx_Zq.kept {C n d : String} {A : Nat → Prop} {U : State} {H H1 : Heap} (h : vx_Zq C n d A U H) (hq : ∀ a : Nat, a < H.size → ¬ A a → H1[a]? = H[a]?) : vx_Zq C n d A U H1 := ⟨va_Zq.kept h.1 hq, vx_L.kept h.2 hq⟩
theorem vx_Zq.narrow {C n d : String} {A B : Nat → Prop} {U : State} {H : Heap} (h : vx_Zq C n d A U H) (hAB : ∀ q, B q → A q) : vx_Zq C n d B U H := ⟨va_Zq.narrow h.1 hAB, vx_L.narrow h.2 hAB⟩
theorem vx_Zqof {args : Array Value} {s : State} {C n d : String} {A : Nat → Prop} (hl : (Cond.laysStatic C n d).before args s = true) (hini : (Cond.initialized C).before args s = true) (h : (Cond.isRef (.static C n d)).before args s = true) (hA : ∀ a : Nat, a < s.heap.size → ¬ A a) : vx_Zq C n d A s s.heap := by
  refine ⟨va_Zqof hl hini h hA, ?_⟩
  obtain ⟨c, k, i, f, a, cell, h1, h2, h3, h4, h5, h6, h7, h8, h9⟩ := Cond.laysStatic_spec hl
  exact ⟨c, k, i, f, a, cell, h1, h2, h3, h4, h5, h6, h7, h8, h9, hA a (Array.getElem?_eq_some_iff.mp h5).1⟩
theorem vx_isRef {C n d : String} {v : Value} {A : Nat → Prop} {s : State} {args : Array Value} (h : va_Z C n d v A s s.heap) (hv : v.isRef = true) : (Cond.isRef (.static C n d)).before args s = true := by
  obtain ⟨cf, kf, fi, f, a, cell, h1, h2, h3, h4, h5, h6, h7, -⟩ := h
  have he : (Term.static C n d).eval args s none [] s = some v := by
    simp [Term.eval, State.fieldNamed?, h1, h2, h4, h5, h6, h7]
  simp only [Cond.before, Cond.holds, Cond.value, he]
  cases v <;> simp_all [Value.isRef]
theorem vx_isRefq {C n d : String} {A : Nat → Prop} {s : State} {args : Array Value} (h : va_Zq C n d A s s.heap) : (Cond.isRef (.static C n d)).before args s = true := by
  rcases h with h | ⟨t, h⟩
  · exact vx_isRef h rfl
  · exact vx_isRef h rfl
/-- the same frame, seen from here: as if the method were called anew in this heap -/
theorem vx_rebase {T : State} (X : Stand p l e R s m args below meth c T locs cells slots) {R' : Room} (hf : R'.frames ≤ R.frames) (hl : R'.locals ≤ R.locals) (hc : cells + R'.cells ≤ R.cells) (hs : slots + R'.slots ≤ R.slots) :
    Stand p l e R' ((T.setVm s.vm).setFrames (.invoking m args :: below)) m args below meth c T [] 0 0 := by
  have htop : (T.setVm s.vm).topJava?.isSome := X.here.top
  have hF : ((T.setVm s.vm).setFrames (.invoking m args :: below)).frames = .invoking m args :: below := State.frames_setFrames _ (State.cur_lt_of_top htop)
  obtain ⟨g₀, hg0⟩ := Option.isSome_iff_exists.mp htop
  obtain ⟨r, hr⟩ := State.topJava?_eq_some.mp hg0
  have hl9 : e.platform.stackLimits (T.setVm s.vm).me = e.platform.stackLimits s.me := X.limits
  have hb9 : (T.setVm s.vm).me.stackBytes = s.me.stackBytes := X.bytes
  refine ⟨X.admits, X.cas, X.clock, hF, ?_, X.hears, X.method, X.code, X.here, X.tail, X.warmed, ?_, ?_, ?_⟩
  · have h := X.room
    have hU : ((T.setVm s.vm).setFrames (.invoking m args :: below)).localsInUse = s.localsInUse := by
      rw [State.localsInUse_invoking hF (meth := meth) (c := c) X.method X.code, State.localsInUse_invoking X.frames X.method X.code]
    simp only [State.hasRoom, Bool.and_eq_true, decide_eq_true_eq] at h ⊢
    obtain ⟨⟨⟨⟨h1, h2, h3, h4, h5, h6⟩, h7⟩, h8⟩, h9⟩ := h
    rw [X.frames, List.length_cons] at h2 h3
    have q1 := X.heapSize
    have q2 := X.used
    simp only [hF, hU, List.length_cons, State.stackLimits_setFrames, State.stackBytes_setFrames, hl9, hb9]
    refine ⟨⟨⟨⟨by omega, by omega, by omega, by omega, by omega, h6⟩, ?_⟩, ?_⟩, X.book⟩
    · show T.heap.size + R'.cells ≤ e.platform.maxCells
      omega
    · show T.slotsUsed + R'.slots ≤ e.platform.maxSlots
      omega
  · rw [State.stackLimits_setFrames]; rfl
  · rw [State.stackBytes_setFrames]; rfl
  · refine ⟨?_, Nat.le_refl _, Nat.le_refl _, ?_, ?_, fun a c9 h9 => ⟨c9, h9, rfl, rfl, fun _ _ => rfl⟩⟩
    · obtain ⟨t, ht, -⟩ := State.frames_cons hr
      show T.setVm s.vm = { ((T.setVm s.vm).setFrames (.invoking m args :: below)).setFrames (T.setVm s.vm).frames with heap := T.heap, slotsUsed := T.slotsUsed }
      rw [State.setFrames_setFrames, State.setFrames_self ht]
      rfl
    · show T.slotsUsed = T.slotsUsed + ((T.heap.toList.drop T.heap.size).map (·.slots.size)).sum
      rw [List.drop_eq_nil_of_le (Nat.le_of_eq Array.length_toList)]
      rfl
    · show ((T.heap.toList.drop T.heap.size).map (·.slots.size)).sum ≤ 0
      rw [List.drop_eq_nil_of_le (Nat.le_of_eq Array.length_toList)]
      exact Nat.le_refl _
/-- 'throw new E()': new; dup; invokespecial; athrow -/
theorem vx_throw0 {cc : ByteArray} {pc : Nat} (hexec : p.tables.exec = Jvm.exec) (hb : c.code = cc) (hl : l.stackTraces = false) {own cls : String} {names : List String} {ik ic mc ms : Nat} {A : Nat → Prop}
    (hown : s.vm.findClass own = some m.cls) (hcls : Bundle.fit cls = true) (hnames : ∀ n ∈ names, Bundle.fit n = true)
    (hk : (Cond.classLink own ik cls).before args s = true) (hini : (Cond.initialized cls).before args s = true) (hat : ∀ w ∈ vx_at0 own ic cls names, w.before args s = true)
    (hgood : ∀ w ∈ Cond.classLink own ik cls :: Cond.initialized cls :: vx_at0 own ic cls names, vx_ot w = true)
    (hU : vx_Zq Bundle.tN "UNASSIGNED_STACK" Bundle.steD A s s.heap) (hN : vx_Zq Bundle.tN "SUPPRESSED_SENTINEL" Bundle.listD A s s.heap) (hS : va_S A s.heap H locs) (hsize : ls.size = c.maxLocals)
    (d0 : decode cc pc = .ok (.new ik, 3)) (d3 : decode cc (pc + 3) = .ok (.dup, 1)) (d4 : decode cc (pc + 4) = .ok (.invokespecial ic, 3)) (d7 : decode cc (pc + 7) = .ok (.athrow, 1))
    (hout : ∀ x ∈ c.exceptionTable.toList, covers x (pc + 7) = false)
    (hRframes : names.length + 3 < R.frames) (hRlocals : (rest.map fun v => v.category).sum + (13 * (names.length + 1) + 42) ≤ R.locals) (hRcells : cells + 1 ≤ R.cells) (hRslots : slots + 6 ≤ R.slots) (hlocks : meth.locks = false)
    (hx : ∀ t : State, s.vm.Alike t.vm → H.size ≤ t.heap.size → (∀ q : Nat, q < H.size → t.heap[q]? = H[q]?) → XC cls s t)
    (hf : ∀ z ∈ locs, free z.base) (hc : cells + 1 ≤ mc) (hs : slots + 6 ≤ ms) :
    W p l e R s m args below meth c H locs cells slots (vx_MQ below Qc XC args s mc ms free) (F0 m pc ls rest) := by
  intro T hT X
  have htr : e.platform.stackTraces = false := (show e.platform.stackTraces = l.stackTraces by rw [X.admits.platform]).trans hl
  have Y := vx_rebase X (R' := { frames := R.frames, locals := R.locals, cells := 1, slots := 6 }) (Nat.le_refl _) (Nat.le_refl _) hRcells hRslots
  obtain ⟨s', hA⟩ : ∃ z, z = (T.setVm s.vm).setFrames (.invoking m args :: below) := ⟨_, rfl⟩
  rw [← hA] at Y
  have hvm : s'.vm = s.vm := by rw [hA]; rfl
  have hhp : s'.heap = H := by rw [hA]; exact hT
  have hW0 : s.WarmedH s'.vm := by rw [hvm]; exact State.WarmedH.refl s
  have hat' : ∀ w ∈ vx_at0 own ic cls names, w.before args s' = true := fun w hw => vx_ot_at hW0 hvm.symm (hgood w (List.mem_cons_of_mem _ (List.mem_cons_of_mem _ hw))) (hat w hw)
  have hk' : (Cond.classLink own ik cls).before args s' = true := vx_ot_at hW0 hvm.symm (hgood _ List.mem_cons_self) hk
  have hini' : (Cond.initialized cls).before args s' = true := vx_ot_at hW0 hvm.symm (hgood _ (List.mem_cons_of_mem _ List.mem_cons_self)) hini
  have hU' : vx_Zq Bundle.tN "UNASSIGNED_STACK" Bundle.steD A s' s'.heap := by rw [hhp]; exact vx_Zq.moved hW0.alike (hU.kept hS.2.1)
  have hN' : vx_Zq Bundle.tN "SUPPRESSED_SENTINEL" Bundle.listD A s' s'.heap := by rw [hhp]; exact vx_Zq.moved hW0.alike (hN.kept hS.2.1)
  have h : ∀ w ∈ Bundle.ownAtoms0 own ic cls names, w.before args s' = true := vx_own hat' (vx_isRefq hU'.1) (vx_isRefq hN'.1) hU'.2.word hN'.2.word
  have hown' : s'.vm.findClass own = some m.cls := by rw [hvm]; exact hown
  have hins : (Cond.instantiable cls 6).before args s' = true := h _ (by simp [Bundle.ownAtoms0])
  obtain ⟨vm₁, cX, kX, hfX, hkX, -, -, X₁, st1⟩ := Y.newCold hexec (own := own) (C := cls) (index := ik) (n := 6) hown' hk' hins hini'
    (g := F0 m pc ls rest) rfl (by rw [hb]; exact d0) (Nat.le_refl _) (Nat.le_refl _)
  generalize hT1 : (T.setVm vm₁).pushCell { cls := cX, slots := kX.instanceTypes.map defaultValue, vm := .none } = T1 at X₁ st1
  have hcat : (Value.ref T.heap.size).category = 1 := rfl
  have hcellA : T1.heap[T.heap.size]? = some (freshCell cX kX) := by rw [← hT1]; exact State.heap_pushCell_size _ _
  have d3' : decode c.code (pc + 3) = .ok (.dup, 1) := by rw [hb]; exact d3
  obtain ⟨U, hsteps, hrun, hend, hW, hsame, ce, hce, hO⟩ := X₁.ctorThrow0 hexec htr (own := own) (cls := cls) (names := names) (ic := ic) hown' hcls hnames h (fun x hx => nomatch hx) hfX hkX hcellA (by rw [hhp, hT]; exact Nat.le_refl _)
    (g := { method := m, pc := pc + 4, locals := ls, stack := .ref T.heap.size :: .ref T.heap.size :: rest, locked := none }) rfl hsize rfl rfl (rest := rest) rfl
    (by rw [hb]; exact d4) (by rw [hb]; exact d7) hout hRframes (by simp only [List.map_cons, List.sum_cons, hcat]; omega) hlocks
  obtain ⟨f1, f2⟩ := vx_frame hsame
  rw [hhp] at f1 f2
  have hWs : s.WarmedH U.vm := State.WarmedH.trans hW0 hW
  have hcl : s.vm.findClass cls = some ce.cls := by
    have h9 := hO.cls
    rw [hvm] at h9
    exact h9
  have hall : s.sameButNew ({ U with vm := s.vm } : State) locs mc ms := by
    subst hA
    obtain ⟨e1, e2⟩ := hsame
    rw [State.setFrames_setFrames] at e1
    have h2 : (T.setVm s.vm).sameButNew ({ U with vm := s.vm } : State) [] (0 + 1) (0 + 6) := ⟨e1, e2⟩
    have h3 := X.same.trans h2
    rw [List.append_nil] at h3
    exact h3.mono hc hs
  refine ⟨U, ?_, .threw T.heap.size, hrun, hend, Or.inr ⟨T.heap.size, rfl, cls, ce, locs, hx U hWs.alike f1 (fun q hq => f2 q hq (fun z hz => nomatch hz)), hce, hO.vm, hcl, hWs, hall, hf⟩⟩
  refine st1 _ ?_
  show Steps p.tables e below (T1.setTop { method := m, pc := pc + 3, locals := ls, stack := .ref T.heap.size :: rest, locked := none }) _
  jvm_step X₁.here [X₁.here.top, hexec, d3', Value.category]
  exact hsteps
/-- 'throw new E("text")': new; dup; ldc; invokespecial; athrow -/
theorem vx_throwS {cc : ByteArray} {pc : Nat} (hexec : p.tables.exec = Jvm.exec) (hb : c.code = cc) (hl : l.stackTraces = false) {own cls text : String} {names : List String} {ik is ic mc ms sa : Nat} {A : Nat → Prop}
    (hown : s.vm.findClass own = some m.cls) (hcls : Bundle.fit cls = true) (hnames : ∀ n ∈ names, Bundle.fit n = true)
    (hk : (Cond.classLink own ik cls).before args s = true) (hini : (Cond.initialized cls).before args s = true) (hstr : vk_R own is text sa s) (hat : ∀ w ∈ vx_atS own ic cls names, w.before args s = true)
    (hgood : ∀ w ∈ Cond.classLink own ik cls :: Cond.initialized cls :: vx_atS own ic cls names, vx_ot w = true)
    (hU : vx_Zq Bundle.tN "UNASSIGNED_STACK" Bundle.steD A s s.heap) (hN : vx_Zq Bundle.tN "SUPPRESSED_SENTINEL" Bundle.listD A s s.heap) (hS : va_S A s.heap H locs) (hsize : ls.size = c.maxLocals)
    (d0 : decode cc pc = .ok (.new ik, 3)) (d3 : decode cc (pc + 3) = .ok (.dup, 1)) (d4 : decode cc (pc + 4) = .ok (.ldc is, 2)) (d6 : decode cc (pc + 6) = .ok (.invokespecial ic, 3)) (d9 : decode cc (pc + 9) = .ok (.athrow, 1))
    (hout : ∀ x ∈ c.exceptionTable.toList, covers x (pc + 9) = false)
    (hRframes : names.length + 3 < R.frames) (hRlocals : (rest.map fun v => v.category).sum + (13 * (names.length + 1) + 43) ≤ R.locals) (hRcells : cells + 1 ≤ R.cells) (hRslots : slots + 6 ≤ R.slots) (hlocks : meth.locks = false)
    (hx : ∀ t : State, s.vm.Alike t.vm → H.size ≤ t.heap.size → (∀ q : Nat, q < H.size → t.heap[q]? = H[q]?) → XC cls s t)
    (hf : ∀ z ∈ locs, free z.base) (hc : cells + 1 ≤ mc) (hs : slots + 6 ≤ ms) :
    W p l e R s m args below meth c H locs cells slots (vx_MQ below Qc XC args s mc ms free) (F0 m pc ls rest) := by
  intro T hT X
  have htr : e.platform.stackTraces = false := (show e.platform.stackTraces = l.stackTraces by rw [X.admits.platform]).trans hl
  have Y := vx_rebase X (R' := { frames := R.frames, locals := R.locals, cells := 1, slots := 6 }) (Nat.le_refl _) (Nat.le_refl _) hRcells hRslots
  obtain ⟨s', hA⟩ : ∃ z, z = (T.setVm s.vm).setFrames (.invoking m args :: below) := ⟨_, rfl⟩
  rw [← hA] at Y
  have hvm : s'.vm = s.vm := by rw [hA]; rfl
  have hhp : s'.heap = H := by rw [hA]; exact hT
  have hW0 : s.WarmedH s'.vm := by rw [hvm]; exact State.WarmedH.refl s
  have hat' : ∀ w ∈ vx_atS own ic cls names, w.before args s' = true := fun w hw => vx_ot_at hW0 hvm.symm (hgood w (List.mem_cons_of_mem _ (List.mem_cons_of_mem _ hw))) (hat w hw)
  have hk' : (Cond.classLink own ik cls).before args s' = true := vx_ot_at hW0 hvm.symm (hgood _ List.mem_cons_self) hk
  have hini' : (Cond.initialized cls).before args s' = true := vx_ot_at hW0 hvm.symm (hgood _ (List.mem_cons_of_mem _ List.mem_cons_self)) hini
  have hU' : vx_Zq Bundle.tN "UNASSIGNED_STACK" Bundle.steD A s' s'.heap := by rw [hhp]; exact vx_Zq.moved hW0.alike (hU.kept hS.2.1)
  have hN' : vx_Zq Bundle.tN "SUPPRESSED_SENTINEL" Bundle.listD A s' s'.heap := by rw [hhp]; exact vx_Zq.moved hW0.alike (hN.kept hS.2.1)
  have h : ∀ w ∈ Bundle.ownAtoms own ic cls names, w.before args s' = true := vx_own hat' (vx_isRefq hU'.1) (vx_isRefq hN'.1) hU'.2.word hN'.2.word
  have hown' : s'.vm.findClass own = some m.cls := by rw [hvm]; exact hown
  have hins : (Cond.instantiable cls 6).before args s' = true := h _ (by simp [Bundle.ownAtoms])
  obtain ⟨vm₁, cX, kX, hfX, hkX, -, -, X₁, st1⟩ := Y.newCold hexec (own := own) (C := cls) (index := ik) (n := 6) hown' hk' hins hini'
    (g := F0 m pc ls rest) rfl (by rw [hb]; exact d0) (Nat.le_refl _) (Nat.le_refl _)
  generalize hT1 : (T.setVm vm₁).pushCell { cls := cX, slots := kX.instanceTypes.map defaultValue, vm := .none } = T1 at X₁ st1
  have hcat : (Value.ref T.heap.size).category = 1 := rfl
  have hcellA : T1.heap[T.heap.size]? = some (freshCell cX kX) := by rw [← hT1]; exact State.heap_pushCell_size _ _
  have d3' : decode c.code (pc + 3) = .ok (.dup, 1) := by rw [hb]; exact d3
  have d4' : decode c.code (pc + 4) = .ok (.ldc is, 2) := by rw [hb]; exact d4
  have hstr' : vk_R own is text sa s' := vk_R.warm hW0 hstr
  obtain ⟨U, hsteps, hrun, hend, hW, hsame, ce, hce, hO⟩ := X₁.ctorThrowS hexec htr (own := own) (cls := cls) (names := names) (ic := ic) hown' hcls hnames h (fun x hx => nomatch hx) hfX hkX hcellA (by rw [hhp, hT]; exact Nat.le_refl _) (msg := .ref sa) rfl
    (g := { method := m, pc := pc + 6, locals := ls, stack := .ref sa :: .ref T.heap.size :: .ref T.heap.size :: rest, locked := none }) rfl hsize rfl rfl (rest := rest) rfl
    (by rw [hb]; exact d6) (by rw [hb]; exact d9) hout hRframes (by simp only [List.map_cons, List.sum_cons, hcat]; omega) hlocks
  obtain ⟨f1, f2⟩ := vx_frame hsame
  rw [hhp] at f1 f2
  have hWs : s.WarmedH U.vm := State.WarmedH.trans hW0 hW
  have hcl : s.vm.findClass cls = some ce.cls := by
    have h9 := hO.cls
    rw [hvm] at h9
    exact h9
  have hall : s.sameButNew ({ U with vm := s.vm } : State) locs mc ms := by
    subst hA
    obtain ⟨e1, e2⟩ := hsame
    rw [State.setFrames_setFrames] at e1
    have h2 : (T.setVm s.vm).sameButNew ({ U with vm := s.vm } : State) [] (0 + 1) (0 + 6) := ⟨e1, e2⟩
    have h3 := X.same.trans h2
    rw [List.append_nil] at h3
    exact h3.mono hc hs
  refine ⟨U, ?_, .threw T.heap.size, hrun, hend, Or.inr ⟨T.heap.size, rfl, cls, ce, locs, hx U hWs.alike f1 (fun q hq => f2 q hq (fun z hz => nomatch hz)), hce, hO.vm, hcl, hWs, hall, hf⟩⟩
  refine st1 _ ?_
  show Steps p.tables e below (T1.setTop { method := m, pc := pc + 3, locals := ls, stack := .ref T.heap.size :: rest, locked := none }) _
  jvm_step X₁.here [X₁.here.top, hexec, d3', Value.category]
  exact X₁.ldcString hexec (own := own) (text := text) (index := is) (a := sa) hown' hstr'.1 hstr'.2
    (g := { method := m, pc := pc + 4, locals := ls, stack := .ref T.heap.size :: .ref T.heap.size :: rest, locked := none }) rfl d4' _ hsteps
/-- 'throw new E("text")', the text by a wide index -/
theorem vx_throwSW {cc : ByteArray} {pc : Nat} (hexec : p.tables.exec = Jvm.exec) (hb : c.code = cc) (hl : l.stackTraces = false) {own cls text : String} {names : List String} {ik is ic mc ms sa : Nat} {A : Nat → Prop}
    (hown : s.vm.findClass own = some m.cls) (hcls : Bundle.fit cls = true) (hnames : ∀ n ∈ names, Bundle.fit n = true)
    (hk : (Cond.classLink own ik cls).before args s = true) (hini : (Cond.initialized cls).before args s = true) (hstr : vk_R own is text sa s) (hat : ∀ w ∈ vx_atS own ic cls names, w.before args s = true)
    (hgood : ∀ w ∈ Cond.classLink own ik cls :: Cond.initialized cls :: vx_atS own ic cls names, vx_ot w = true)
    (hU : vx_Zq Bundle.tN "UNASSIGNED_STACK" Bundle.steD A s s.heap) (hN : vx_Zq Bundle.tN "SUPPRESSED_SENTINEL" Bundle.listD A s s.heap) (hS : va_S A s.heap H locs) (hsize : ls.size = c.maxLocals)
    (d0 : decode cc pc = .ok (.new ik, 3)) (d3 : decode cc (pc + 3) = .ok (.dup, 1)) (d4 : decode cc (pc + 4) = .ok (.ldc_w is, 3)) (d7 : decode cc (pc + 7) = .ok (.invokespecial ic, 3)) (d10 : decode cc (pc + 10) = .ok (.athrow, 1))
    (hout : ∀ x ∈ c.exceptionTable.toList, covers x (pc + 10) = false)
    (hRframes : names.length + 3 < R.frames) (hRlocals : (rest.map fun v => v.category).sum + (13 * (names.length + 1) + 43) ≤ R.locals) (hRcells : cells + 1 ≤ R.cells) (hRslots : slots + 6 ≤ R.slots) (hlocks : meth.locks = false)
    (hx : ∀ t : State, s.vm.Alike t.vm → H.size ≤ t.heap.size → (∀ q : Nat, q < H.size → t.heap[q]? = H[q]?) → XC cls s t)
    (hf : ∀ z ∈ locs, free z.base) (hc : cells + 1 ≤ mc) (hs : slots + 6 ≤ ms) :
    W p l e R s m args below meth c H locs cells slots (vx_MQ below Qc XC args s mc ms free) (F0 m pc ls rest) := by
  intro T hT X
  have htr : e.platform.stackTraces = false := (show e.platform.stackTraces = l.stackTraces by rw [X.admits.platform]).trans hl
  have Y := vx_rebase X (R' := { frames := R.frames, locals := R.locals, cells := 1, slots := 6 }) (Nat.le_refl _) (Nat.le_refl _) hRcells hRslots
  obtain ⟨s', hA⟩ : ∃ z, z = (T.setVm s.vm).setFrames (.invoking m args :: below) := ⟨_, rfl⟩
  rw [← hA] at Y
  have hvm : s'.vm = s.vm := by rw [hA]; rfl
  have hhp : s'.heap = H := by rw [hA]; exact hT
  have hW0 : s.WarmedH s'.vm := by rw [hvm]; exact State.WarmedH.refl s
  have hat' : ∀ w ∈ vx_atS own ic cls names, w.before args s' = true := fun w hw => vx_ot_at hW0 hvm.symm (hgood w (List.mem_cons_of_mem _ (List.mem_cons_of_mem _ hw))) (hat w hw)
  have hk' : (Cond.classLink own ik cls).before args s' = true := vx_ot_at hW0 hvm.symm (hgood _ List.mem_cons_self) hk
  have hini' : (Cond.initialized cls).before args s' = true := vx_ot_at hW0 hvm.symm (hgood _ (List.mem_cons_of_mem _ List.mem_cons_self)) hini
  have hU' : vx_Zq Bundle.tN "UNASSIGNED_STACK" Bundle.steD A s' s'.heap := by rw [hhp]; exact vx_Zq.moved hW0.alike (hU.kept hS.2.1)
  have hN' : vx_Zq Bundle.tN "SUPPRESSED_SENTINEL" Bundle.listD A s' s'.heap := by rw [hhp]; exact vx_Zq.moved hW0.alike (hN.kept hS.2.1)
  have h : ∀ w ∈ Bundle.ownAtoms own ic cls names, w.before args s' = true := vx_own hat' (vx_isRefq hU'.1) (vx_isRefq hN'.1) hU'.2.word hN'.2.word
  have hown' : s'.vm.findClass own = some m.cls := by rw [hvm]; exact hown
  have hins : (Cond.instantiable cls 6).before args s' = true := h _ (by simp [Bundle.ownAtoms])
  obtain ⟨vm₁, cX, kX, hfX, hkX, -, -, X₁, st1⟩ := Y.newCold hexec (own := own) (C := cls) (index := ik) (n := 6) hown' hk' hins hini'
    (g := F0 m pc ls rest) rfl (by rw [hb]; exact d0) (Nat.le_refl _) (Nat.le_refl _)
  generalize hT1 : (T.setVm vm₁).pushCell { cls := cX, slots := kX.instanceTypes.map defaultValue, vm := .none } = T1 at X₁ st1
  have hcat : (Value.ref T.heap.size).category = 1 := rfl
  have hcellA : T1.heap[T.heap.size]? = some (freshCell cX kX) := by rw [← hT1]; exact State.heap_pushCell_size _ _
  have d3' : decode c.code (pc + 3) = .ok (.dup, 1) := by rw [hb]; exact d3
  have d4' : decode c.code (pc + 4) = .ok (.ldc_w is, 3) := by rw [hb]; exact d4
  have hstr' : vk_R own is text sa s' := vk_R.warm hW0 hstr
  obtain ⟨U, hsteps, hrun, hend, hW, hsame, ce, hce, hO⟩ := X₁.ctorThrowS hexec htr (own := own) (cls := cls) (names := names) (ic := ic) hown' hcls hnames h (fun x hx => nomatch hx) hfX hkX hcellA (by rw [hhp, hT]; exact Nat.le_refl _) (msg := .ref sa) rfl
    (g := { method := m, pc := pc + 7, locals := ls, stack := .ref sa :: .ref T.heap.size :: .ref T.heap.size :: rest, locked := none }) rfl hsize rfl rfl (rest := rest) rfl
    (by rw [hb]; exact d7) (by rw [hb]; exact d10) hout hRframes (by simp only [List.map_cons, List.sum_cons, hcat]; omega) hlocks
  obtain ⟨f1, f2⟩ := vx_frame hsame
  rw [hhp] at f1 f2
  have hWs : s.WarmedH U.vm := State.WarmedH.trans hW0 hW
  have hcl : s.vm.findClass cls = some ce.cls := by
    have h9 := hO.cls
    rw [hvm] at h9
    exact h9
  have hall : s.sameButNew ({ U with vm := s.vm } : State) locs mc ms := by
    subst hA
    obtain ⟨e1, e2⟩ := hsame
    rw [State.setFrames_setFrames] at e1
    have h2 : (T.setVm s.vm).sameButNew ({ U with vm := s.vm } : State) [] (0 + 1) (0 + 6) := ⟨e1, e2⟩
    have h3 := X.same.trans h2
    rw [List.append_nil] at h3
    exact h3.mono hc hs
  refine ⟨U, ?_, .threw T.heap.size, hrun, hend, Or.inr ⟨T.heap.size, rfl, cls, ce, locs, hx U hWs.alike f1 (fun q hq => f2 q hq (fun z hz => nomatch hz)), hce, hO.vm, hcl, hWs, hall, hf⟩⟩
  refine st1 _ ?_
  show Steps p.tables e below (T1.setTop { method := m, pc := pc + 3, locals := ls, stack := .ref T.heap.size :: rest, locked := none }) _
  jvm_step X₁.here [X₁.here.top, hexec, d3', Value.category]
  exact X₁.ldcStringW hexec (own := own) (text := text) (index := is) (a := sa) hown' hstr'.1 hstr'.2
    (g := { method := m, pc := pc + 4, locals := ls, stack := .ref T.heap.size :: .ref T.heap.size :: rest, locked := none }) rfl d4' _ hsteps
end Ends
section Bodies
variable {l : Launch}
theorem vx_ofW {y : MethodName} {ws ws' : List Cond} {rm : Room} {Pc : Array Value → State → Prop} {Qc : Array Value → State → Outcome → State → Prop} {XC : String → State → State → Prop} {mc ms : Nat} {free : Addr → Prop} {cc : ByteArray} {maxL : Nat} {ret : Option FieldType}
    (hy : plainName y.cls = true) (hw : ws = Cond.code y cc maxL ret :: ws')
    (body : ∀ p e s m args below meth c s₁, BodyLoose p l y (headSpec ws rm) cc maxL ret e s m args below meth c s₁ → c.maxLocals = maxL → (∀ x ∈ c.exceptionTable.toList, False) → Pc args s →
      W p l e (headSpec ws rm).room s m args below meth c s.heap [] 0 0 (vx_MQ below Qc XC args s mc ms free) (entryFrame m args maxL)) : vx_Met l y ws rm Pc Qc XC mc ms free := by
  refine MetFree.of_bodyS (code := cc) (maxLocals := maxL) (ret := ret) hy ?_ ?_
  · intro args s m h hn
    obtain ⟨meth, c, h1, h2, h3, h4, h5, h6, -, -⟩ := Cond.code_spec hn (atoms_spec (ws := ws) h _ (by rw [hw]; exact List.mem_cons_self))
    exact ⟨meth, c, h1, h2, h3, h4, h5, h6⟩
  · intro p e s m args below meth c s₁ B hml hP _
    have hh0 : s₁.heap = s.heap := by rw [B.state]; rfl
    have ht : ∀ x ∈ c.exceptionTable.toList, False := by
      obtain ⟨meth9, c9, h1, h2, -, -, -, -, h7, -⟩ := Cond.code_spec B.named (atoms_spec (ws := ws) B.pre _ (by rw [hw]; exact List.mem_cons_self))
      cases Option.some.inj (h1.symm.trans B.method)
      cases Option.some.inj (h2.symm.trans (Stand.of_body B).code)
      intro x hx
      rw [Array.isEmpty_iff.mp h7] at hx
      cases hx
    obtain ⟨t, a1, o, b1, b2, b3⟩ := body p e s m args below meth c s₁ B hml ht hP s₁ hh0 (Stand.of_body B)
    exact ⟨t, o, a1, b1, b2, b3⟩
/-- the table of a body with handlers -/
theorem vx_table {p : Program} {x y : MethodName} {S : Spec} {cc bytes : ByteArray} {maxL maxL' : Nat} {ret ret' : Option FieldType} {e : Env} {s s₁ : State} {m : MethodId} {args : Array Value} {below : List Frame} {meth : Method} {c : Code} {hh : List (Nat × Nat × Nat × Nat)}
    (B : BodyLoose p l y S cc maxL ret e s m args below meth c s₁) (h : (Cond.codeWith y bytes maxL' ret' hh).before args s = true) : c.exceptionTable.toList = tableOf hh := by
  obtain ⟨m9, meth9, c9, hn9, h1, h2, -, -, h6, -⟩ := Cond.codeWith_spec h
  cases Option.some.inj (hn9.symm.trans B.named)
  cases Option.some.inj (h1.symm.trans B.method)
  cases Option.some.inj (h2.symm.trans (Stand.of_body B).code)
  rw [← h6, table_eq]
end Bodies
end VXA
/-! ===== END ===== -/
/-! ===== BEGIN a static call of a method with an exception table ===== -/
section VXS
variable {p : Program} {l : Launch} {e : Env} {R : Room} {s : State} {m : MethodId} {args : Array Value} {below : List Frame} {meth : Method} {c : Code} {T : State} {H : Heap} {locs : List Loc} {cells slots : Nat}
abbrev vx_CSW (R : Room) (s : State) (args : Array Value) (own : String) (index : Nat) (y : MethodName) (bytes : ByteArray) (maxL : Nat) (ret : Option FieldType) (hh : List (Nat × Nat × Nat × Nat)) (ws : List Cond) (rm : Room) (mc ms n : Nat) : Prop :=
  (rm.cells = mc ∧ rm.slots = ms ∧ rm.frames + 1 ≤ R.frames ∧ 8 + (maxL + 11) + rm.locals ≤ R.locals ∧ (∀ w ∈ ws, ∀ (a' : Array Value) (U : State), s.WarmedH U.vm → w.before a' U = true) ∧ Cond.codeWith y bytes maxL ret hh ∈ ws) ∧
  (Cond.codeWith y bytes maxL ret hh).before args s = true ∧ (Cond.initialized y.cls).before args s = true ∧ (y.cls ≠ "java/lang/invoke/MethodHandle" ∧ y.cls ≠ "java/lang/invoke/VarHandle") ∧
  (∀ sig, parseMethodDescriptor y.desc = some sig → n = sig.parameters.length) ∧ (Cond.methodLink own index y).before args s = true ∧ (Cond.static y).before args s = true
theorem vx_cwSW {own : String} {index maxL mc ms : Nat} {y : MethodName} {bytes : ByteArray} {ret : Option FieldType} {hh : List (Nat × Nat × Nat × Nat)} {Ts ws ws' : List Cond} {rm : Room} (n : Nat) (ht : ∀ w ∈ Ts, w.before args s = true) (hT : GoodIn Ts (va_wsS own index y ws)) (hw : ws = Cond.codeWith y bytes maxL ret hh :: ws') (hrc : rm.cells = mc) (hrs : rm.slots = ms)
    (hd : y.cls ≠ "java/lang/invoke/MethodHandle" ∧ y.cls ≠ "java/lang/invoke/VarHandle" ∧ (parseMethodDescriptor y.desc).map (fun d => d.parameters.length) = some n) (hR : rm.frames + 1 ≤ R.frames ∧ 8 + (maxL + 11) + rm.locals ≤ R.locals) :
    vx_CSW R s args own index y bytes maxL ret hh ws rm mc ms n := by
  have ok : ∀ w ∈ va_wsS own index y ws, w.before args s = true := fun w h => ht w (hT w h).1
  have hG : GoodIn Ts ws := fun w h => hT w (by unfold va_wsS; exact List.mem_append_right _ h)
  have hc : Cond.codeWith y bytes maxL ret hh ∈ ws := by rw [hw]; exact List.mem_cons_self
  refine ⟨⟨hrc, hrs, hR.1, hR.2, pay_in ht hG, hc⟩, ht _ (hG _ hc).1, ok _ (by simp [va_wsS]), ⟨hd.1, hd.2.1⟩, fun sig h => ?_, ok _ (by simp [va_wsS]), ok _ (by simp [va_wsS])⟩
  have h2 := hd.2.2
  rw [h] at h2
  exact (Option.some.inj h2).symm
theorem vx_callSW (X : Stand p l e R s m args below meth c T locs cells slots) (hexec : p.tables.exec = Jvm.exec) {own : String} {index : Nat} {y : MethodName} {bytes : ByteArray} {maxL : Nat} {ret : Option FieldType} {hh : List (Nat × Nat × Nat × Nat)}
    (hown : s.vm.findClass own = some m.cls) (hlink : (Cond.methodLink own index y).before args s = true) (hstat : (Cond.static y).before args s = true) (hinit : (Cond.initialized y.cls).before args s = true)
    (hcode : (Cond.codeWith y bytes maxL ret hh).before args s = true) (hy : y.cls ≠ "java/lang/invoke/MethodHandle" ∧ y.cls ≠ "java/lang/invoke/VarHandle")
    {W9 : Nat} {Pre : Pt → Array Value → Prop} {Post : Pt → Array Value → Option Value → Pt → Prop} (hK : Back l R p e below s args y 3 W9 Pre Post)
    {g : JFrame} (hg : g.method = m) (hsize : g.locals.size = c.maxLocals) {argsL rest : List Value} (hlen : ∀ sig, parseMethodDescriptor y.desc = some sig → argsL.length = sig.parameters.length)
    (hstack : g.stack = argsL.reverse ++ rest) (hW : 2 * g.monitorRoom + (rest.map fun v => v.category).sum ≤ W9) (hdg : decode c.code g.pc = .ok (.invokestatic index, 3))
    (hpre : ∀ vm₁, s.WarmedH vm₁ → Pre ⟨T.setVm vm₁, locs, cells, slots⟩ argsL.toArray) :
    ∃ (v : Option Value) (vm₁ : Vm) (B : Pt), s.WarmedH vm₁ ∧ Stand p l e R s m args below meth c B.U B.locs B.cells B.slots ∧ Post ⟨T.setVm vm₁, locs, cells, slots⟩ argsL.toArray v B ∧
      ∀ target, Steps p.tables e below (B.U.setTop { g with pc := g.pc + 3, stack := v.toList ++ rest }) target → Steps p.tables e below (T.setTop g) target := by
  obtain ⟨mk, methM, cM, hnamed, hmethM, -, -, -, -, -, -, hsigM⟩ := Cond.codeWith_spec hcode
  have hstatic : methM.isStatic = true := Cond.static_spec hnamed hmethM hstat
  obtain ⟨kP, hkP, -⟩ := className_of_methodNamed hnamed
  have hinitP : kP.init = .initialized := Cond.initialized_spec (findClass_of_methodNamed hnamed) hkP hinit
  obtain ⟨vm₁, X₁, hstep₁⟩ := X.invokestatic hexec hown hlink hnamed hmethM hstatic hkP hinitP hy (g := g) hg (argsL := argsL) (rest := rest) (hlen _ hsigM) hstack hdg
  obtain ⟨v, B, X', hpost, hsteps⟩ := hK m meth c ⟨T.setVm vm₁, locs, cells, slots⟩ { g with stack := rest } (.invokestatic index) mk argsL.toArray X₁ hg hsize hdg hW (X₁.named hnamed) (hpre vm₁ X₁.warmed)
  exact ⟨v, vm₁, B, X₁.warmed, X', hpost, fun target h => hstep₁ _ fun acts => by rw [doInvoke_state]; exact hsteps.trans h⟩
theorem vx_runSW {y : MethodName} {bytes cc : ByteArray} {maxL nL mc ms n index : Nat} {ret : Option FieldType} {hh : List (Nat × Nat × Nat × Nat)} {ws : List Cond} {rm : Room} {Pc : Array Value → State → Prop} {Qc : Array Value → State → Outcome → State → Prop} {free : Addr → Prop} {Ts : List Cond} {own : String} {As rest : List Value} {g : JFrame}
    (S : CallFix p m c cc nL s args Ts own) (hM : Met l y ws rm Pc Qc mc ms free) (cw : vx_CSW R s args own index y bytes maxL ret hh ws rm mc ms n) (hp : PreS s H Pc As)
    (hg : g.method = m) (hn : As.length = n) (hsize : g.locals.size = nL) (hstack : g.stack = As.reverse ++ rest) (hW : 2 * g.monitorRoom + (rest.map fun v => v.category).sum ≤ 8) (hdg : decode cc g.pc = .ok (.invokestatic index, 3)) (hf : cells + mc ≤ R.cells ∧ slots + ms ≤ R.slots) :
    va_Run p l e R s m args below meth c H locs cells slots mc ms g rest (Qc As.toArray) (free) := by
  obtain ⟨⟨hrc, hrs, hfr, hlo, hws, hcw⟩, hcode, hini, hy, hlen, hl, hstt⟩ := cw
  have hK : Back l R p e below s args y 3 8 (PreOf R mc ms Pc) (PostOf Qc mc ms free) := va_backW (hh := hh) (bytes := bytes) (maxL := maxL) (ret := ret) hM hp.1 hrc hrs hfr hlo hws hcw (fun a' U hW => word_at hW (Or.inl (by first | rfl | simp [Cond.onTables, Cond.keeps, Cond.steady])) hini)
  obtain ⟨hx, hb, hml, ho, -⟩ := S
  intro T hT X
  obtain ⟨v, vm₁, ⟨U', l2, c2, s2⟩, hW₁, X', ⟨g', mk, t, L, e1, e2, hq, h1, hL, h2, h3⟩, st⟩ := vx_callSW X hx (hh := hh) (bytes := bytes) (maxL := maxL) (ret := ret) ho hl hstt hini hcode hy hK hg (hsize.trans hml.symm) (argsL := As) (rest := rest) (fun sig h => hn.trans (hlen sig h)) hstack hW (by rw [hb]; exact hdg)
    (fun vm₁ hW₁ => ⟨hf.1, hf.2, hp.2 (T.setVm vm₁) hT hW₁⟩)
  dsimp only [Pt.U, Pt.locs, Pt.cells, Pt.slots] at X' e1 e2 h1 h2 h3 st
  subst h1; subst h2; subst h3
  exact ⟨v, (T.setVm vm₁).calling g' mk As.toArray, t, U', L, hT, X', hL, e1, e2, hq, st⟩
/-- not caught here, past rows that name other classes: it goes on to the caller -/
theorem vx_outP {p : Program} {l : Launch} {e : Env} {R : Room} {s : State} {m : MethodId} {args : Array Value} {below : List Frame} {meth : Method} {c : Code} {H : Heap} {locs : List Loc} {cells slots : Nat} {free : Addr → Prop} {ls : Array Slot} {rest : List Value} {Qc : Array Value → State → Outcome → State → Prop} {XC : String → State → State → Prop}
    {pc : Nat} {own E : String} {ce : Cell} {q : Addr} {mc ms : Nat} (hown : s.vm.findClass own = some m.cls) (hlocks : meth.locks = false)
    (hpass : ∀ z ∈ c.exceptionTable.toList, covers z pc = false ∨ (z.catchType ≠ 0 ∧ ∃ nm : String, (Cond.classLink own z.catchType nm).before args s = true ∧ va_Nc E nm s)) (hcell : H[q]? = some ce) (hv : ce.vm = .none) (hcl : s.vm.findClass E = some ce.cls)
    (hx : ∀ t : State, t.heap = H → s.vm.Alike t.vm → XC E s t) (hf : ∀ z ∈ locs, free z.base) (hc : cells ≤ mc) (hs : slots ≤ ms) :
    vx_W p l e R s m args below meth c H locs cells slots (vx_MQ below Qc XC args s mc ms free) (F0 m pc ls rest) q := by
  intro T hT X
  have hpl : e.platform.magicAccessors = ({} : Platform).magicAccessors := by rw [X.admits.platform]
  obtain ⟨vm', hW', X', st⟩ := X.outThrough hlocks q (g := F0 m pc ls rest) rfl rfl rfl (cell := ce) (by rw [hT]; exact hcell) (by rw [hv]; rfl)
    (by obtain ⟨k9, h9, -⟩ := Vm.findClass_spec hcl; exact ⟨k9, h9⟩) (fun z hz => by
      rcases hpass z hz with h | ⟨hz0, nm, hl1, hn1⟩
      · exact Or.inl h
      · obtain ⟨c6, hc6, hcl6⟩ := Cond.classLink_spec hown hl1 e.platform hpl
        obtain ⟨a8, b8, h1, h2, h3⟩ := hn1
        cases Option.some.inj (h1.symm.trans hcl)
        cases Option.some.inj (h2.symm.trans hc6)
        exact Or.inr ⟨hz0, _, hcl6, h3⟩)
  obtain ⟨g₀, hfr⟩ := X'.frames_eq
  have hcell9 : ((T.setVm vm').setFrames (.throwing q :: below)).heap[q]? = some ce := by
    show T.heap[q]? = some ce
    rw [hT]; exact hcell
  have hend : Ended ((T.setVm vm').setFrames (.throwing q :: below)) below (.threw q) := State.frames_setFrames _ (State.cur_lt_of_frames hfr)
  refine ⟨(T.setVm vm').setFrames (.throwing q :: below), ?_, .threw q, X'.here.running, hend, Or.inr ⟨q, rfl, E, ce, locs, hx _ hT (X'.ends _).1.alike, hcell9, hv, hcl, (X'.ends _).1, (X'.ends _).2.mono hc hs, hf⟩⟩
  rw [X.pushThrowing_eq]
  exact st
/-- a thing of a world lies in the heap -/
theorem vx_lt {D : va_G} {cl : List vw_C} {ws : va_W} {H1 : Heap} (h : va_P D cl ws H1) {k : Nat} {q : Nat × va_E} (hk : ws[k]? = some q) : q.1 < H1.size := (h k q hk).lt
end VXS
/-! ===== END ===== -/
/-! ===== BEGIN methods with a table of their own: called by a name, returning or throwing ===== -/
section VXH
/-! vx_backW, vx_callVX, vx_callSX, vx_callVW, vx_runVW, vx_runVX, vx_runSX, vx_ofWH follow the same proofs as their sisters above (Free/Laws.lean, Shelf42/LK1.lean); vx_outP calls Shelf42/NT130.lean (outThrough). -/
section
variable {l : Launch} {R : Room} {p : Program} {e : Env} {below : List Frame} {s : State} {sargs : Array Value} {y : MethodName} {len W9 : Nat}
theorem vx_backW {ws : List Cond} {rm : Room} {Pc : Array Value → State → Prop} {Qc : Array Value → State → Outcome → State → Prop} {XC : String → State → State → Prop} {mc ms : Nat} {free : Addr → Prop} {bytes : ByteArray} {maxL : Nat} {ret : Option FieldType} {hh : List (Nat × Nat × Nat × Nat)}
    (hM : vx_Met l y ws rm Pc Qc XC mc ms free) (hblind : FrameBlind Pc) (hrc : rm.cells = mc) (hrs : rm.slots = ms)
    (hframes : rm.frames + 1 ≤ R.frames) (hlocals : W9 + (maxL + 11) + rm.locals ≤ R.locals)
    (hws : ∀ w ∈ ws, ∀ a' U, s.WarmedH U.vm → w.before a' U = true) (hcode : Cond.codeWith y bytes maxL ret hh ∈ ws) (hinit : ∀ a' U, s.WarmedH U.vm → (Cond.initialized y.cls).before a' U = true) :
    vx_Back l R p e below s sargs y len W9 (PreOf R mc ms Pc) (PostOf Qc mc ms free) (vx_Post XC mc ms free) := by
  intro m meth c A g ig mk a X hg hsize hdg hW hn hp
  have h1 : (headSpec ws rm).pre.before a A.U = true := atoms_intro fun w hw => hws w hw _ _ X.warmed
  have h2 : (Cond.codeWith y bytes maxL ret hh).before a A.U = true := hws _ hcode _ _ X.warmed
  have h3 : (Cond.initialized y.cls).before a A.U = true := hinit _ _ X.warmed
  have h4 : A.cells + (headSpec ws rm).room.cells ≤ R.cells := by rw [show (headSpec ws rm).room.cells = mc from hrc]; exact hp.1
  have h5 : A.slots + (headSpec ws rm).room.slots ≤ R.slots := by rw [show (headSpec ws rm).room.slots = ms from hrs]; exact hp.2.1
  have hPc : Pc a (A.U.calling g mk a) := hblind _ _ _ _ hp.2.2
  obtain ⟨U, Ls, c0, s0⟩ := A
  dsimp only [Pt.U, Pt.locs, Pt.cells, Pt.slots] at h1 h2 h3 h4 h5 X hn hPc ⊢
  obtain ⟨m9, methY, cY, hn9, hmY, hcY, -, hlY, -⟩ := Cond.codeWith_spec h2
  cases Option.some.inj (hn9.symm.trans hn)
  obtain ⟨kY, hkY, -⟩ := className_of_methodNamed hn
  have hinitY : kY.init = .initialized := Cond.initialized_spec (findClass_of_methodNamed hn) hkY h3
  have h : At U g.method c below := by rw [hg]; exact X.here
  have hlocals9 : W9 + (maxL + 11) + (headSpec ws rm).room.locals ≤ R.locals := hlocals
  have happ : (headSpec ws rm).appliesLoose y e.platform (U.calling g mk a) = true :=
    Spec.appliesLoose_calling (g := g) h hdg hn hkY hinitY
      (X.room_calling (g := g) (R' := (headSpec ws rm).room) hsize hmY hcY hframes (by rw [hlY]; omega) h4 h5) h1
  obtain ⟨mid, hmid⟩ := h.above
  have hfr : (U.setTop g).frames = (.java g :: mid) ++ below := by rw [State.frames_setTop' g h.top, hmid]; rfl
  obtain ⟨o, s₂, hsteps, -, hend, hq⟩ := Steps.callFree hM p X.admits X.cas X.clock (acts := []) hfr happ hPc trivial
  have hq' : vx_Q Qc XC mc ms free a (U.calling g mk a) o s₂ := hq
  rw [State.frames_setTop' g h.top] at hend
  obtain ⟨g₀, hg0⟩ := Option.isSome_iff_exists.mp h.top
  obtain ⟨r, hr⟩ := State.topJava?_eq_some.mp hg0
  have hr' : (({ U with heap := s₂.heap, slotsUsed := s₂.slotsUsed } : State).setVm s₂.vm).frames = .java g₀ :: r := hr
  rcases hq' with ⟨hqc, L, hfe, hL⟩ | ⟨q, rfl, E, ce, L, hx, hce, hcv, hcl, hW₂, hsm, hL⟩
  · obtain ⟨⟨v, rfl⟩, hW₂, e2, q2, q3, q4, q5, q6⟩ := id hfe
    have e3 : s₂ = ({ (U.calling g mk a).setFrames s₂.frames with heap := s₂.heap, slotsUsed := s₂.slotsUsed } : State).setVm s₂.vm := by
      have : s₂ = ({ s₂ with vm := (U.calling g mk a).vm } : State).setVm s₂.vm := rfl
      rw [e2] at this
      exact this
    obtain ⟨c₂, i₂, len₂, hc₂, hd₂, hf₂⟩ := hend
    have hW' : U.WarmedH s₂.vm := hW₂
    have hcc : c₂ = c := by
      have h1 : s₂.code? g.method = U.code? g.method := by
        rw [State.code?_eq, State.code?_eq, hW'.alike.method?]
      exact Option.some.inj (hc₂.symm.trans (h1.trans h.code))
    subst hcc
    have hlen : len₂ = len := by rw [hdg] at hd₂; cases hd₂; rfl
    subst hlen
    have hs₂ : s₂ = (({ U with heap := s₂.heap, slotsUsed := s₂.slotsUsed } : State).setVm s₂.vm).setTop { g with pc := g.pc + len₂, stack := v.toList ++ g.stack } := by
      refine e3.trans ?_
      rw [hf₂, State.calling_eq h.top, State.setFrames_setFrames, State.setTop_of_frames _ hr', hr]
      rfl
    have hsame : U.sameButNew ({ U with heap := s₂.heap, slotsUsed := s₂.slotsUsed } : State) L mc ms := by
      refine ⟨?_, q2, q3, q4, q5, q6⟩
      obtain ⟨t, ht, -⟩ := State.frames_cons hr
      show ({ U with heap := s₂.heap, slotsUsed := s₂.slotsUsed } : State) = { U.setFrames U.frames with heap := s₂.heap, slotsUsed := s₂.slotsUsed }
      rw [State.setFrames_self ht]
    subst hg
    refine Or.inl ⟨v, ⟨(({ U with heap := s₂.heap, slotsUsed := s₂.slotsUsed } : State).setVm s₂.vm), Ls ++ L, c0 + mc, s0 + ms⟩,
      ⟨X.admits, X.cas, X.clock, X.frames, X.room, X.hears, X.method, X.code, (X.here.setHeapUsed s₂.heap s₂.slotsUsed).setVm hW'.alike, X.tail, State.WarmedH.trans X.warmed hW', X.limits, X.bytes, X.same.trans (hsame.setVm s.vm)⟩,
      ⟨g, mk, s₂, L, rfl, rfl, hqc, rfl, hL, rfl, rfl⟩, ?_⟩
    show Steps p.tables e below _ ((({ U with heap := s₂.heap, slotsUsed := s₂.slotsUsed } : State).setVm s₂.vm).setTop { g with pc := g.pc + len₂, stack := v.toList ++ g.stack })
    rw [← hs₂]
    exact hsteps
  · obtain ⟨e2, q2, q3, q4, q5, q6⟩ := id hsm
    have e3 : s₂ = ({ (U.calling g mk a).setFrames s₂.frames with heap := s₂.heap, slotsUsed := s₂.slotsUsed } : State).setVm s₂.vm := by
      have : s₂ = ({ s₂ with vm := (U.calling g mk a).vm } : State).setVm s₂.vm := rfl
      rw [e2] at this
      exact this
    have hf₂ : s₂.frames = .throwing q :: .java g :: U.frames.tail := hend
    have hW' : U.WarmedH s₂.vm := hW₂
    have hs₂ : s₂ = ((({ U with heap := s₂.heap, slotsUsed := s₂.slotsUsed } : State).setVm s₂.vm).setTop g).pushFrame (.throwing q) := by
      refine e3.trans ?_
      rw [hf₂, State.calling_eq h.top, State.setFrames_setFrames, State.pushFrame, State.frames_setTop _ hr', State.setTop_of_frames _ hr', State.setFrames_setFrames, hr]
      rfl
    have hsame : U.sameButNew ({ U with heap := s₂.heap, slotsUsed := s₂.slotsUsed } : State) L mc ms := by
      refine ⟨?_, q2, q3, q4, q5, q6⟩
      obtain ⟨t, ht, -⟩ := State.frames_cons hr
      show ({ U with heap := s₂.heap, slotsUsed := s₂.slotsUsed } : State) = { U.setFrames U.frames with heap := s₂.heap, slotsUsed := s₂.slotsUsed }
      rw [State.setFrames_self ht]
    subst hg
    refine Or.inr ⟨q, ⟨(({ U with heap := s₂.heap, slotsUsed := s₂.slotsUsed } : State).setVm s₂.vm), Ls ++ L, c0 + mc, s0 + ms⟩,
      ⟨X.admits, X.cas, X.clock, X.frames, X.room, X.hears, X.method, X.code, (X.here.setHeapUsed s₂.heap s₂.slotsUsed).setVm hW'.alike, X.tail, State.WarmedH.trans X.warmed hW', X.limits, X.bytes, X.same.trans (hsame.setVm s.vm)⟩,
      ⟨g, mk, s₂, L, E, ce, rfl, rfl, hx, hce, hcv, hcl, rfl, hL, rfl, rfl⟩, ?_⟩
    show Steps p.tables e below _ (((({ U with heap := s₂.heap, slotsUsed := s₂.slotsUsed } : State).setVm s₂.vm).setTop g).pushFrame (.throwing q))
    rw [← hs₂]
    exact hsteps
end
variable {p : Program} {l : Launch} {e : Env} {R : Room} {s : State} {m : MethodId} {args : Array Value} {below : List Frame} {meth : Method} {c : Code} {T : State} {H : Heap} {locs : List Loc} {cells slots : Nat}
theorem vx_callVX (X : Stand p l e R s m args below meth c T locs cells slots) (hexec : p.tables.exec = Jvm.exec) {own C : String} {index : Nat} {y : MethodName} {bytes : ByteArray} {maxL : Nat} {ret : Option FieldType} {hh : List (Nat × Nat × Nat × Nat)}
    (hown : s.vm.findClass own = some m.cls) (hlink : (Cond.methodLink own index y).before args s = true) (hinst : (Cond.instanceMethod y).before args s = true) (hsel : (Cond.selects C y y).before args s = true)
    (hcode : (Cond.codeWith y bytes maxL ret hh).before args s = true) (hy : y.cls ≠ "java/lang/invoke/MethodHandle" ∧ y.cls ≠ "java/lang/invoke/VarHandle")
    {W9 : Nat} {Pre : Pt → Array Value → Prop} {Post : Pt → Array Value → Option Value → Pt → Prop} {PostX : Pt → Array Value → Addr → Pt → Prop} (hK : vx_Back l R p e below s args y 3 W9 Pre Post PostX)
    {b : Addr} {cellB : Cell} (hcell : T.heap[b]? = some cellB) (hobj : cellB.vm.isStatics = false) (hcls : s.vm.findClass C = some cellB.cls)
    {g : JFrame} (hg : g.method = m) (hsize : g.locals.size = c.maxLocals) {argsL rest : List Value} (hlen : ∀ sig, parseMethodDescriptor y.desc = some sig → argsL.length = sig.parameters.length)
    (hstack : g.stack = argsL.reverse ++ .ref b :: rest) (hW : 2 * g.monitorRoom + (rest.map fun v => v.category).sum ≤ W9) (hdg : decode c.code g.pc = .ok (.invokevirtual index, 3))
    (hpre : ∀ vm₁, s.WarmedH vm₁ → Pre ⟨T.setVm vm₁, locs, cells, slots⟩ (Value.ref b :: argsL).toArray) :
    (∃ (v : Option Value) (vm₁ : Vm) (B : Pt), s.WarmedH vm₁ ∧ Stand p l e R s m args below meth c B.U B.locs B.cells B.slots ∧ Post ⟨T.setVm vm₁, locs, cells, slots⟩ (Value.ref b :: argsL).toArray v B ∧
      ∀ target, Steps p.tables e below (B.U.setTop { g with pc := g.pc + 3, stack := v.toList ++ rest }) target → Steps p.tables e below (T.setTop g) target) ∨
    (∃ (q : Addr) (vm₁ : Vm) (B : Pt), s.WarmedH vm₁ ∧ Stand p l e R s m args below meth c B.U B.locs B.cells B.slots ∧ PostX ⟨T.setVm vm₁, locs, cells, slots⟩ (Value.ref b :: argsL).toArray q B ∧
      Steps p.tables e below (T.setTop g) ((B.U.setTop { g with stack := rest }).pushFrame (.throwing q))) := by
  obtain ⟨mk, methM, hnamed, hmethM, hstM, habM⟩ := Cond.instanceMethod_spec hinst
  obtain ⟨m8, methM', cM, hn8, hmethM', -, -, -, -, -, -, hsigM⟩ := Cond.codeWith_spec hcode
  cases Option.some.inj (hn8.symm.trans hnamed)
  cases hmethM.symm.trans hmethM'
  obtain ⟨c2, r2, m2, q1, q2, q3, q4, kP, hkP, hkPi⟩ := Cond.selects_spec hsel
  cases hcls.symm.trans q1
  cases (State.methodFound?_of_named hnamed hy).symm.trans q2
  cases hnamed.symm.trans q3
  have hselP : selectMethod e.platform s.vm cellB.cls mk = .method mk := by rw [Launch.admits_selectMethod X.admits]; exact q4
  obtain ⟨vm₁, X₁, hstep₁⟩ := X.invokevirtual hexec hown hlink hnamed hmethM hstM hkP hkPi hy (a := b) (cell := cellB) hcell
    (fun z h => by rw [h] at hobj; cases hobj) hselP hmethM habM hkP hkPi (g := g) hg (argsL := argsL) (rest := rest) (hlen _ hsigM) hstack hdg
  rcases hK m meth c ⟨T.setVm vm₁, locs, cells, slots⟩ { g with stack := rest } (.invokevirtual index) mk (Value.ref b :: argsL).toArray X₁ hg hsize hdg hW (X₁.named hnamed) (hpre vm₁ X₁.warmed) with ⟨v, B, X', hpost, hsteps⟩ | ⟨q, B, X', hpost, hsteps⟩
  · exact Or.inl ⟨v, vm₁, B, X₁.warmed, X', hpost, fun target h => hstep₁ _ fun acts => by rw [doInvoke_state]; exact hsteps.trans h⟩
  · exact Or.inr ⟨q, vm₁, B, X₁.warmed, X', hpost, hstep₁ _ fun acts => by rw [doInvoke_state]; exact hsteps⟩
theorem vx_callSX (X : Stand p l e R s m args below meth c T locs cells slots) (hexec : p.tables.exec = Jvm.exec) {own : String} {index : Nat} {y : MethodName} {bytes : ByteArray} {maxL : Nat} {ret : Option FieldType} {hh : List (Nat × Nat × Nat × Nat)}
    (hown : s.vm.findClass own = some m.cls) (hlink : (Cond.methodLink own index y).before args s = true) (hstat : (Cond.static y).before args s = true) (hinit : (Cond.initialized y.cls).before args s = true)
    (hcode : (Cond.codeWith y bytes maxL ret hh).before args s = true) (hy : y.cls ≠ "java/lang/invoke/MethodHandle" ∧ y.cls ≠ "java/lang/invoke/VarHandle")
    {W9 : Nat} {Pre : Pt → Array Value → Prop} {Post : Pt → Array Value → Option Value → Pt → Prop} {PostX : Pt → Array Value → Addr → Pt → Prop} (hK : vx_Back l R p e below s args y 3 W9 Pre Post PostX)
    {g : JFrame} (hg : g.method = m) (hsize : g.locals.size = c.maxLocals) {argsL rest : List Value} (hlen : ∀ sig, parseMethodDescriptor y.desc = some sig → argsL.length = sig.parameters.length)
    (hstack : g.stack = argsL.reverse ++ rest) (hW : 2 * g.monitorRoom + (rest.map fun v => v.category).sum ≤ W9) (hdg : decode c.code g.pc = .ok (.invokestatic index, 3))
    (hpre : ∀ vm₁, s.WarmedH vm₁ → Pre ⟨T.setVm vm₁, locs, cells, slots⟩ argsL.toArray) :
    (∃ (v : Option Value) (vm₁ : Vm) (B : Pt), s.WarmedH vm₁ ∧ Stand p l e R s m args below meth c B.U B.locs B.cells B.slots ∧ Post ⟨T.setVm vm₁, locs, cells, slots⟩ argsL.toArray v B ∧
      ∀ target, Steps p.tables e below (B.U.setTop { g with pc := g.pc + 3, stack := v.toList ++ rest }) target → Steps p.tables e below (T.setTop g) target) ∨
    (∃ (q : Addr) (vm₁ : Vm) (B : Pt), s.WarmedH vm₁ ∧ Stand p l e R s m args below meth c B.U B.locs B.cells B.slots ∧ PostX ⟨T.setVm vm₁, locs, cells, slots⟩ argsL.toArray q B ∧
      Steps p.tables e below (T.setTop g) ((B.U.setTop { g with stack := rest }).pushFrame (.throwing q))) := by
  obtain ⟨mk, methM, cM, hnamed, hmethM, -, -, -, -, -, -, hsigM⟩ := Cond.codeWith_spec hcode
  have hstatic : methM.isStatic = true := Cond.static_spec hnamed hmethM hstat
  obtain ⟨kP, hkP, -⟩ := className_of_methodNamed hnamed
  have hinitP : kP.init = .initialized := Cond.initialized_spec (findClass_of_methodNamed hnamed) hkP hinit
  obtain ⟨vm₁, X₁, hstep₁⟩ := X.invokestatic hexec hown hlink hnamed hmethM hstatic hkP hinitP hy (g := g) hg (argsL := argsL) (rest := rest) (hlen _ hsigM) hstack hdg
  rcases hK m meth c ⟨T.setVm vm₁, locs, cells, slots⟩ { g with stack := rest } (.invokestatic index) mk argsL.toArray X₁ hg hsize hdg hW (X₁.named hnamed) (hpre vm₁ X₁.warmed) with ⟨v, B, X', hpost, hsteps⟩ | ⟨q, B, X', hpost, hsteps⟩
  · exact Or.inl ⟨v, vm₁, B, X₁.warmed, X', hpost, fun target h => hstep₁ _ fun acts => by rw [doInvoke_state]; exact hsteps.trans h⟩
  · exact Or.inr ⟨q, vm₁, B, X₁.warmed, X', hpost, hstep₁ _ fun acts => by rw [doInvoke_state]; exact hsteps⟩
theorem vx_callVW (X : Stand p l e R s m args below meth c T locs cells slots) (hexec : p.tables.exec = Jvm.exec) {own C : String} {index : Nat} {y : MethodName} {bytes : ByteArray} {maxL : Nat} {ret : Option FieldType} {hh : List (Nat × Nat × Nat × Nat)}
    (hown : s.vm.findClass own = some m.cls) (hlink : (Cond.methodLink own index y).before args s = true) (hinst : (Cond.instanceMethod y).before args s = true) (hsel : (Cond.selects C y y).before args s = true)
    (hcode : (Cond.codeWith y bytes maxL ret hh).before args s = true) (hy : y.cls ≠ "java/lang/invoke/MethodHandle" ∧ y.cls ≠ "java/lang/invoke/VarHandle")
    {W9 : Nat} {Pre : Pt → Array Value → Prop} {Post : Pt → Array Value → Option Value → Pt → Prop} (hK : Back l R p e below s args y 3 W9 Pre Post)
    {b : Addr} {cellB : Cell} (hcell : T.heap[b]? = some cellB) (hobj : cellB.vm.isStatics = false) (hcls : s.vm.findClass C = some cellB.cls)
    {g : JFrame} (hg : g.method = m) (hsize : g.locals.size = c.maxLocals) {argsL rest : List Value} (hlen : ∀ sig, parseMethodDescriptor y.desc = some sig → argsL.length = sig.parameters.length)
    (hstack : g.stack = argsL.reverse ++ .ref b :: rest) (hW : 2 * g.monitorRoom + (rest.map fun v => v.category).sum ≤ W9) (hdg : decode c.code g.pc = .ok (.invokevirtual index, 3))
    (hpre : ∀ vm₁, s.WarmedH vm₁ → Pre ⟨T.setVm vm₁, locs, cells, slots⟩ (Value.ref b :: argsL).toArray) :
    ∃ (v : Option Value) (vm₁ : Vm) (B : Pt), s.WarmedH vm₁ ∧ Stand p l e R s m args below meth c B.U B.locs B.cells B.slots ∧ Post ⟨T.setVm vm₁, locs, cells, slots⟩ (Value.ref b :: argsL).toArray v B ∧
      ∀ target, Steps p.tables e below (B.U.setTop { g with pc := g.pc + 3, stack := v.toList ++ rest }) target → Steps p.tables e below (T.setTop g) target := by
  obtain ⟨mk, methM, hnamed, hmethM, hstM, habM⟩ := Cond.instanceMethod_spec hinst
  obtain ⟨m8, methM', cM, hn8, hmethM', -, -, -, -, -, -, hsigM⟩ := Cond.codeWith_spec hcode
  cases Option.some.inj (hn8.symm.trans hnamed)
  cases hmethM.symm.trans hmethM'
  obtain ⟨c2, r2, m2, q1, q2, q3, q4, kP, hkP, hkPi⟩ := Cond.selects_spec hsel
  cases hcls.symm.trans q1
  cases (State.methodFound?_of_named hnamed hy).symm.trans q2
  cases hnamed.symm.trans q3
  have hselP : selectMethod e.platform s.vm cellB.cls mk = .method mk := by rw [Launch.admits_selectMethod X.admits]; exact q4
  obtain ⟨vm₁, X₁, hstep₁⟩ := X.invokevirtual hexec hown hlink hnamed hmethM hstM hkP hkPi hy (a := b) (cell := cellB) hcell
    (fun z h => by rw [h] at hobj; cases hobj) hselP hmethM habM hkP hkPi (g := g) hg (argsL := argsL) (rest := rest) (hlen _ hsigM) hstack hdg
  obtain ⟨v, B, X', hpost, hsteps⟩ := hK m meth c ⟨T.setVm vm₁, locs, cells, slots⟩ { g with stack := rest } (.invokevirtual index) mk (Value.ref b :: argsL).toArray X₁ hg hsize hdg hW (X₁.named hnamed) (hpre vm₁ X₁.warmed)
  exact ⟨v, vm₁, B, X₁.warmed, X', hpost, fun target h => hstep₁ _ fun acts => by rw [doInvoke_state]; exact hsteps.trans h⟩
abbrev vx_CVW (R : Room) (s : State) (args : Array Value) (own C : String) (index : Nat) (y : MethodName) (bytes : ByteArray) (maxL : Nat) (ret : Option FieldType) (hh : List (Nat × Nat × Nat × Nat)) (ws : List Cond) (rm : Room) (mc ms n : Nat) : Prop :=
  (rm.cells = mc ∧ rm.slots = ms ∧ rm.frames + 1 ≤ R.frames ∧ 8 + (maxL + 11) + rm.locals ≤ R.locals ∧ (∀ w ∈ ws, ∀ (a' : Array Value) (U : State), s.WarmedH U.vm → w.before a' U = true) ∧ Cond.codeWith y bytes maxL ret hh ∈ ws) ∧
  (Cond.codeWith y bytes maxL ret hh).before args s = true ∧ (Cond.initialized y.cls).before args s = true ∧ (y.cls ≠ "java/lang/invoke/MethodHandle" ∧ y.cls ≠ "java/lang/invoke/VarHandle") ∧
  (∀ sig, parseMethodDescriptor y.desc = some sig → n = sig.parameters.length) ∧ (Cond.methodLink own index y).before args s = true ∧ (Cond.instanceMethod y).before args s = true ∧ (Cond.selects C y y).before args s = true
theorem vx_cwVW {own C : String} {index maxL mc ms : Nat} {y : MethodName} {bytes : ByteArray} {ret : Option FieldType} {hh : List (Nat × Nat × Nat × Nat)} {Ts ws ws' : List Cond} {rm : Room} (n : Nat) (ht : ∀ w ∈ Ts, w.before args s = true) (hT : GoodIn Ts (wsV own index C y ws)) (hw : ws = Cond.codeWith y bytes maxL ret hh :: ws') (hrc : rm.cells = mc) (hrs : rm.slots = ms)
    (hd : y.cls = C ∧ y.cls ≠ "java/lang/invoke/MethodHandle" ∧ y.cls ≠ "java/lang/invoke/VarHandle" ∧ (parseMethodDescriptor y.desc).map (fun d => d.parameters.length) = some n) (hR : rm.frames + 1 ≤ R.frames ∧ 8 + (maxL + 11) + rm.locals ≤ R.locals) :
    vx_CVW R s args own C index y bytes maxL ret hh ws rm mc ms n := by
  obtain ⟨hC, hd⟩ := hd
  subst hC
  have ok : ∀ w ∈ wsV own index y.cls y ws, w.before args s = true := fun w h => ht w (hT w h).1
  have hG : GoodIn Ts ws := fun w h => hT w (by unfold wsV; exact List.mem_append_right _ h)
  have hc : Cond.codeWith y bytes maxL ret hh ∈ ws := by rw [hw]; exact List.mem_cons_self
  refine ⟨⟨hrc, hrs, hR.1, hR.2, pay_in ht hG, hc⟩, ht _ (hG _ hc).1, ok _ (by simp [wsV]), ⟨hd.1, hd.2.1⟩, fun sig h => ?_, ok _ (by simp [wsV]), ok _ (by simp [wsV]), ok _ (by simp [wsV])⟩
  have h2 := hd.2.2
  rw [h] at h2
  exact (Option.some.inj h2).symm
theorem vx_runVW {y : MethodName} {bytes cc : ByteArray} {maxL nL mc ms n index : Nat} {ret : Option FieldType} {hh : List (Nat × Nat × Nat × Nat)} {ws : List Cond} {rm : Room} {Pc : Array Value → State → Prop} {Qc : Array Value → State → Outcome → State → Prop} {free : Addr → Prop} {Ts : List Cond} {own C : String} {b : Addr} {As rest : List Value} {g : JFrame}
    (S : CallFix p m c cc nL s args Ts own) (hM : Met l y ws rm Pc Qc mc ms free) (cw : vx_CVW R s args own C index y bytes maxL ret hh ws rm mc ms n) (hp : PreV s H C b Pc As)
    (hg : g.method = m) (hn : As.length = n) (hsize : g.locals.size = nL) (hstack : g.stack = As.reverse ++ .ref b :: rest) (hW : 2 * g.monitorRoom + (rest.map fun v => v.category).sum ≤ 8) (hdg : decode cc g.pc = .ok (.invokevirtual index, 3)) (hf : cells + mc ≤ R.cells ∧ slots + ms ≤ R.slots) :
    va_Run p l e R s m args below meth c H locs cells slots mc ms g rest (Qc (Value.ref b :: As).toArray) free := by
  obtain ⟨⟨hrc, hrs, hfr, hlo, hws, hcw⟩, hcode, hini, hy, hlen, hl, hin, hse⟩ := cw
  have hK : Back l R p e below s args y 3 8 (PreOf R mc ms Pc) (PostOf Qc mc ms free) := va_backW (hh := hh) (bytes := bytes) (maxL := maxL) (ret := ret) hM hp.1 hrc hrs hfr hlo hws hcw (fun a' U hW => word_at hW (Or.inl (by first | rfl | simp [Cond.onTables, Cond.keeps, Cond.steady])) hini)
  obtain ⟨hx, hb, hml, ho, -⟩ := S
  obtain ⟨-, ⟨cellB, hcB, hoB, hclB⟩, hPc⟩ := hp
  intro T hT X
  obtain ⟨v, vm₁, ⟨U', l2, c2, s2⟩, hW₁, X', ⟨g', mk, t, L, e1, e2, hq, h1, hL, h2, h3⟩, st⟩ := vx_callVW X hx (C := C) (hh := hh) (bytes := bytes) (maxL := maxL) (ret := ret) ho hl hin hse hcode hy hK (by rw [hT]; exact hcB) hoB hclB hg (hsize.trans hml.symm) (argsL := As) (rest := rest) (fun sig h => hn.trans (hlen sig h)) hstack hW (by rw [hb]; exact hdg)
    (fun vm₁ hW₁ => ⟨hf.1, hf.2, hPc (T.setVm vm₁) hT hW₁⟩)
  dsimp only [Pt.U, Pt.locs, Pt.cells, Pt.slots] at X' e1 e2 h1 h2 h3 st
  subst h1; subst h2; subst h3
  exact ⟨v, (T.setVm vm₁).calling g' mk (Value.ref b :: As).toArray, t, U', L, hT, X', hL, e1, e2, hq, st⟩
section
variable {y : MethodName} {bytes cc : ByteArray} {maxL nL mc ms n index : Nat} {ret : Option FieldType} {ws : List Cond} {rm : Room} {Pc : Array Value → State → Prop} {Qc : Array Value → State → Outcome → State → Prop} {XC : String → State → State → Prop} {free : Addr → Prop} {Ts : List Cond} {own C : String} {b : Addr} {As rest : List Value} {g : JFrame}
theorem vx_runVX {hh : List (Nat × Nat × Nat × Nat)} (S : CallFix p m c cc nL s args Ts own) (hM : vx_Met l y ws rm Pc Qc XC mc ms free) (cw : vx_CVW R s args own C index y bytes maxL ret hh ws rm mc ms n) (hp : PreV s H C b Pc As)
    (hg : g.method = m) (hn : As.length = n) (hsize : g.locals.size = nL) (hstack : g.stack = As.reverse ++ .ref b :: rest) (hW : 2 * g.monitorRoom + (rest.map fun v => v.category).sum ≤ 8) (hdg : decode cc g.pc = .ok (.invokevirtual index, 3)) (hf : cells + mc ≤ R.cells ∧ slots + ms ≤ R.slots) :
    vx_Run p l e R s m args below meth c H locs cells slots mc ms g rest (Qc (Value.ref b :: As).toArray) XC free := by
  obtain ⟨⟨hrc, hrs, hfr, hlo, hws, hcw⟩, hcode, hini, hy, hlen, hl, hin, hse⟩ := cw
  have hK : vx_Back l R p e below s args y 3 8 (PreOf R mc ms Pc) (PostOf Qc mc ms free) (vx_Post XC mc ms free) := vx_backW (hh := hh) (bytes := bytes) (maxL := maxL) (ret := ret) hM hp.1 hrc hrs hfr hlo hws hcw (fun a' U hW => word_at hW (Or.inl (by first | rfl | simp [Cond.onTables, Cond.keeps, Cond.steady])) hini)
  obtain ⟨hx, hb, hml, ho, -⟩ := S
  obtain ⟨-, ⟨cellB, hcB, hoB, hclB⟩, hPc⟩ := hp
  intro T hT X
  rcases vx_callVX X hx (C := C) (hh := hh) (bytes := bytes) (maxL := maxL) (ret := ret) ho hl hin hse hcode hy hK (by rw [hT]; exact hcB) hoB hclB hg (hsize.trans hml.symm) (argsL := As) (rest := rest) (fun sig h => hn.trans (hlen sig h)) hstack hW (by rw [hb]; exact hdg)
    (fun vm₁ hW₁ => ⟨hf.1, hf.2, hPc (T.setVm vm₁) hT hW₁⟩) with ⟨v, vm₁, ⟨U', l2, c2, s2⟩, hW₁, X', ⟨g', mk, t, L, e1, e2, hq, h1, hL, h2, h3⟩, st⟩ | ⟨q, vm₁, ⟨U', l2, c2, s2⟩, hW₁, X', ⟨g', mk, t, L, E, ce, e1, e2, hq, hce, hcv, hcl, h1, hL, h2, h3⟩, st⟩
  · dsimp only [Pt.U, Pt.locs, Pt.cells, Pt.slots] at X' e1 e2 h1 h2 h3 st
    subst h1; subst h2; subst h3
    exact Or.inl ⟨v, (T.setVm vm₁).calling g' mk (Value.ref b :: As).toArray, t, U', L, hT, X', hL, e1, e2, hq, st⟩
  · dsimp only [Pt.U, Pt.locs, Pt.cells, Pt.slots] at X' e1 e2 h1 h2 h3 st hcl
    subst h1; subst h2; subst h3
    exact Or.inr ⟨q, (T.setVm vm₁).calling g' mk (Value.ref b :: As).toArray, t, U', L, E, ce, hT, X', hL, e1, e2, hq, hce, hcv, vx_cls hW₁ hcl, st⟩
theorem vx_runSX {hh : List (Nat × Nat × Nat × Nat)} (S : CallFix p m c cc nL s args Ts own) (hM : vx_Met l y ws rm Pc Qc XC mc ms free) (cw : vx_CSW R s args own index y bytes maxL ret hh ws rm mc ms n) (hp : PreS s H Pc As)
    (hg : g.method = m) (hn : As.length = n) (hsize : g.locals.size = nL) (hstack : g.stack = As.reverse ++ rest) (hW : 2 * g.monitorRoom + (rest.map fun v => v.category).sum ≤ 8) (hdg : decode cc g.pc = .ok (.invokestatic index, 3)) (hf : cells + mc ≤ R.cells ∧ slots + ms ≤ R.slots) :
    vx_Run p l e R s m args below meth c H locs cells slots mc ms g rest (Qc As.toArray) XC free := by
  obtain ⟨⟨hrc, hrs, hfr, hlo, hws, hcw⟩, hcode, hini, hy, hlen, hl, hstt⟩ := cw
  have hK : vx_Back l R p e below s args y 3 8 (PreOf R mc ms Pc) (PostOf Qc mc ms free) (vx_Post XC mc ms free) := vx_backW (hh := hh) (bytes := bytes) (maxL := maxL) (ret := ret) hM hp.1 hrc hrs hfr hlo hws hcw (fun a' U hW => word_at hW (Or.inl (by first | rfl | simp [Cond.onTables, Cond.keeps, Cond.steady])) hini)
  obtain ⟨hx, hb, hml, ho, -⟩ := S
  intro T hT X
  rcases vx_callSX X hx (hh := hh) (bytes := bytes) (maxL := maxL) (ret := ret) ho hl hstt hini hcode hy hK hg (hsize.trans hml.symm) (argsL := As) (rest := rest) (fun sig h => hn.trans (hlen sig h)) hstack hW (by rw [hb]; exact hdg)
    (fun vm₁ hW₁ => ⟨hf.1, hf.2, hp.2 (T.setVm vm₁) hT hW₁⟩) with ⟨v, vm₁, ⟨U', l2, c2, s2⟩, hW₁, X', ⟨g', mk, t, L, e1, e2, hq, h1, hL, h2, h3⟩, st⟩ | ⟨q, vm₁, ⟨U', l2, c2, s2⟩, hW₁, X', ⟨g', mk, t, L, E, ce, e1, e2, hq, hce, hcv, hcl, h1, hL, h2, h3⟩, st⟩
  · dsimp only [Pt.U, Pt.locs, Pt.cells, Pt.slots] at X' e1 e2 h1 h2 h3 st
    subst h1; subst h2; subst h3
    exact Or.inl ⟨v, (T.setVm vm₁).calling g' mk As.toArray, t, U', L, hT, X', hL, e1, e2, hq, st⟩
  · dsimp only [Pt.U, Pt.locs, Pt.cells, Pt.slots] at X' e1 e2 h1 h2 h3 st hcl
    subst h1; subst h2; subst h3
    exact Or.inr ⟨q, (T.setVm vm₁).calling g' mk As.toArray, t, U', L, E, ce, hT, X', hL, e1, e2, hq, hce, hcv, vx_cls hW₁ hcl, st⟩
end
end VXH
theorem vx_ofWH {l : Launch} {y : MethodName} {ws ws' : List Cond} {rm : Room} {Pc : Array Value → State → Prop} {Qc : Array Value → State → Outcome → State → Prop} {XC : String → State → State → Prop} {mc ms : Nat} {free : Addr → Prop} {cc : ByteArray} {maxL : Nat} {ret : Option FieldType} {hh : List (Nat × Nat × Nat × Nat)}
    (hy : plainName y.cls = true) (hw : ws = Cond.codeWith y cc maxL ret hh :: ws')
    (body : ∀ p e s m args below meth c s₁, BodyLoose p l y (headSpec ws rm) cc maxL ret e s m args below meth c s₁ → c.maxLocals = maxL → Pc args s →
      W p l e (headSpec ws rm).room s m args below meth c s.heap [] 0 0 (vx_MQ below Qc XC args s mc ms free) (entryFrame m args maxL)) : vx_Met l y ws rm Pc Qc XC mc ms free := by
  refine MetFree.of_bodyS (code := cc) (maxLocals := maxL) (ret := ret) hy ?_ ?_
  · intro args s m h hn
    obtain ⟨m9, meth, c, hn9, h1, h2, h3, h4, -, h5, h6, -⟩ := Cond.codeWith_spec (atoms_spec (ws := ws) h _ (by rw [hw]; exact List.mem_cons_self))
    cases hn.symm.trans hn9
    exact ⟨meth, c, h1, h2, h3, h4, h5, h6⟩
  · intro p e s m args below meth c s₁ B hml hP _
    have hh0 : s₁.heap = s.heap := by rw [B.state]; rfl
    obtain ⟨t, a1, o, b1, b2, b3⟩ := body p e s m args below meth c s₁ B hml hP s₁ hh0 (Stand.of_body B)
    exact ⟨t, o, a1, b1, b2, b3⟩
/-! ===== END ===== -/
end
section
/-! numbers: a Java int as a whole number -/
def iI (z : Int) : Int32 := Int32.ofInt z
def rg (z : Int) : Prop := -2147483648 ≤ z ∧ z ≤ 2147483647
theorem iI_toInt {z : Int} (h : rg z) : (iI z).toInt = z := Int32.toInt_ofInt_of_le (by have := h.1; omega) (by have := h.2; omega)
theorem iI_add (a b : Int) : iI a + iI b = iI (a + b) := (Int32.ofInt_add a b).symm
theorem iI_sub (a b : Int) : iI a - iI b = iI (a - b) := (Int32.ofInt_sub a b).symm
theorem iI_mul (a b : Int) : iI a * iI b = iI (a * b) := (Int32.ofInt_mul a b).symm
theorem iI_neg (a : Int) : - iI a = iI (-a) := (Int32.ofInt_neg a).symm
theorem iI_of (x : Int32) : x = iI x.toInt := (Int32.ofInt_toInt x).symm
theorem iI_nI (n : Nat) : nI n = iI (n : Int) := Int32.ofInt_eq_ofNat.symm
theorem rg_toInt (x : Int32) : rg x.toInt := ⟨by have := x.le_toInt; omega, by have := x.toInt_lt; omega⟩
theorem iI_lt {a b : Int} (ha : rg a) (hb : rg b) : iI a < iI b ↔ a < b := by rw [Int32.lt_iff_toInt_lt, iI_toInt ha, iI_toInt hb]
theorem iI_le {a b : Int} (ha : rg a) (hb : rg b) : iI a ≤ iI b ↔ a ≤ b := by rw [Int32.le_iff_toInt_le, iI_toInt ha, iI_toInt hb]
theorem iI_eq {a b : Int} (ha : rg a) (hb : rg b) : iI a = iI b ↔ a = b := by
  refine ⟨fun h => ?_, fun h => by rw [h]⟩
  have h2 := congrArg Int32.toInt h
  rwa [iI_toInt ha, iI_toInt hb] at h2
theorem iI_clamp {z : Int} (h0 : 0 ≤ z) (h : rg z) : (iI z).toNatClampNeg = z.toNat := by
  show (Int32.ofInt z).toNatClampNeg = z.toNat
  rw [Int32.toNatClampNeg_ofInt_of_le (by omega) (by have := h.2; omega)]
theorem iI_zero : iI 0 = 0 := rfl
theorem iI_in {z : Int} {n : Nat} (h0 : 0 ≤ z) (h1 : z < n) (hn : (n : Int) ≤ 2147483647) : vp_in (iI z) n := by
  have hr : rg z := ⟨by omega, by omega⟩
  intro h
  rcases h with h | h
  · rw [← iI_zero, iI_lt hr ⟨by omega, by omega⟩] at h
    omega
  · rw [iI_clamp h0 hr] at h
    omega
theorem iI_div {a b : Int} (ha : rg a) (hb : rg b) (h : b ≠ -1) : iI a / iI b = iI (a.tdiv b) := by
  apply Int32.toInt_inj.mp
  rw [Int32.toInt_div_of_ne_right _ _ (fun e => h ((iI_eq hb ⟨by omega, by omega⟩).mp e)), iI_toInt ha, iI_toInt hb]
  rw [iI_toInt]
  obtain ⟨a1, a2⟩ := ha
  have h1 : (a.tdiv b).natAbs ≤ a.natAbs := Int.natAbs_tdiv_le_natAbs a b
  have h3 : a.tdiv b ≠ 2147483648 := by
    intro e
    have h4 : a.natAbs = 2147483648 := by omega
    have h5 : a = -2147483648 := by omega
    by_cases hb0 : b = 0
    · subst hb0; simp at e
    · have h6 : b.natAbs = 1 := by
        have := Int.natAbs_tdiv a b
        rw [e, h4] at this
        have h7 : 2147483648 = 2147483648 / b.natAbs := this
        rcases Nat.lt_or_ge b.natAbs 2 with q | q
        · omega
        · exfalso
          have h8 : 2147483648 / b.natAbs ≤ 2147483648 / 2 := Nat.div_le_div_left q (by omega)
          rw [← h7] at h8
          omega
      rcases Int.natAbs_eq b with q | q
      · rw [h6] at q
        subst q
        simp at e
        omega
      · exact h (by omega)
  exact ⟨by omega, by omega⟩
theorem iI_rem {a b : Int} (ha : rg a) (hb : rg b) (h : b ≠ -1) : iI a - iI a / iI b * iI b = iI (a.tmod b) := by
  rw [iI_div ha hb h, iI_mul, iI_sub]
  congr 1
  rw [Int.tmod_def, Int.mul_comm b]
/-- a byte out of an int -/
def wB (z : Int) : Int := (z + 128) % 256 - 128
theorem wB_in (z : Int) : -128 ≤ wB z ∧ wB z ≤ 127 := by unfold wB; omega
theorem iI_i2b (z : Int) : (iI z).toInt8.toInt32 = iI (wB z) := by
  apply Int32.toInt_inj.mp
  rw [iI_toInt (by have := wB_in z; exact ⟨by omega, by omega⟩)]
  show (Int32.ofInt z).toInt8.toInt32.toInt = _
  simp [wB]
  have h8 : ((Int8.size : Nat) : Int) = 256 := rfl
  simp only [Int.bmod_def, h8]
  split <;> omega
def updI (F : Nat → Int) (i : Nat) (z : Int) : Nat → Int := fun j => if j = i then z else F j
def up2 (V : Nat → Nat → Int) (k i : Nat) (z : Int) : Nat → Nat → Int := fun k' => if k' = k then updI (V k) i z else V k'
theorem updI_s (F : Nat → Int) (i : Nat) (z : Int) : updI F i z i = z := if_pos rfl
theorem updI_n {F : Nat → Int} {i j : Nat} {z : Int} (h : j ≠ i) : updI F i z j = F j := if_neg h
theorem up2_s (V : Nat → Nat → Int) (k i : Nat) (z : Int) : up2 V k i z k i = z := by simp [up2, updI]
theorem up2_n {V : Nat → Nat → Int} {k i k' j : Nat} {z : Int} (h : k' ≠ k ∨ j ≠ i) : up2 V k i z k' j = V k' j := by
  unfold up2
  split
  · rename_i e
    rw [updI_n (by rcases h with h | h; exact absurd e h; exact h), e]
  · rfl
theorem up2_r {V : Nat → Nat → Int} {k i k' : Nat} {z : Int} (h : k' ≠ k) : up2 V k i z k' = V k' := if_neg h
/-- true is 1 -/
def bI (P : Prop) [Decidable P] : Int := if P then 1 else 0
theorem bI_in (P : Prop) [Decidable P] : 0 ≤ bI P ∧ bI P ≤ 1 := by unfold bI; split <;> omega
end
section
/-! the classes of the system, their fields in the order of the slots -/
def R0 : String := "ChannelSchedule$Input"
def T0 : u_T := fun k => match k with
  | 0 => ("ChannelSchedule$Input", "bytes", "[B", true)
  | 1 => ("ChannelSchedule$Input", "length", "I", false)
  | 2 => ("ChannelSchedule$Input", "errorCode", "I", false)
  | 3 => ("ChannelSchedule$Input", "errorPosition", "I", false)
  | 4 => ("ChannelSchedule$Input", "kind", "I", false)
  | 5 => ("ChannelSchedule$Input", "tokenStart", "I", false)
  | 6 => ("ChannelSchedule$Input", "at", "I", false)
  | _ => ("ChannelSchedule$Input", "number", "I", false)
def R1 : String := "ChannelSchedule$Plan"
def T1 : u_T := fun k => match k with
  | 0 => ("ChannelSchedule$Plan", "thickness", "I", false)
  | 1 => ("ChannelSchedule$Plan", "minute", "I", false)
  | 2 => ("ChannelSchedule$Plan", "made", "I", false)
  | 3 => ("ChannelSchedule$Plan", "cancelled", "I", false)
  | 4 => ("ChannelSchedule$Plan", "served", "I", false)
  | 5 => ("ChannelSchedule$Plan", "bookings", "I", false)
  | 6 => ("ChannelSchedule$Plan", "ships", "[I", true)
  | 7 => ("ChannelSchedule$Plan", "inbound", "[Z", true)
  | 8 => ("ChannelSchedule$Plan", "starts", "[I", true)
  | 9 => ("ChannelSchedule$Plan", "ends", "[I", true)
  | 10 => ("ChannelSchedule$Plan", "requests", "I", false)
  | 11 => ("ChannelSchedule$Plan", "waitingShips", "[I", true)
  | 12 => ("ChannelSchedule$Plan", "waitingInbound", "[Z", true)
  | 13 => ("ChannelSchedule$Plan", "earliest", "[I", true)
  | _ => ("ChannelSchedule$Plan", "latest", "[I", true)
def R2 : String := "ChannelSchedule$Script"
def T2 : u_T := fun k => match k with
  | 0 => ("ChannelSchedule$Script", "count", "I", false)
  | 1 => ("ChannelSchedule$Script", "verbs", "[I", true)
  | 2 => ("ChannelSchedule$Script", "ships", "[I", true)
  | 3 => ("ChannelSchedule$Script", "inbound", "[Z", true)
  | 4 => ("ChannelSchedule$Script", "firsts", "[I", true)
  | _ => ("ChannelSchedule$Script", "seconds", "[I", true)
def R3 : String := "ChannelSchedule$Setup"
def T3 : u_T := fun k => match k with
  | 0 => ("ChannelSchedule$Setup", "headway", "I", false)
  | 1 => ("ChannelSchedule$Setup", "clearance", "I", false)
  | 2 => ("ChannelSchedule$Setup", "thickness", "I", false)
  | 3 => ("ChannelSchedule$Setup", "shipCount", "I", false)
  | _ => ("ChannelSchedule$Setup", "ships", "[LChannelSchedule$Ship;", true)
def R4 : String := "ChannelSchedule$Ship"
def T4 : u_T := fun k => match k with
  | 0 => ("ChannelSchedule$Ship", "name", "[B", true)
  | 1 => ("ChannelSchedule$Ship", "nameLength", "I", false)
  | 2 => ("ChannelSchedule$Ship", "time", "I", false)
  | 3 => ("ChannelSchedule$Ship", "iceClass", "I", false)
  | _ => ("ChannelSchedule$Ship", "weight", "I", false)
def R5 : String := "ChannelSchedule"
def T5 : u_T := fun k => match k with
  | 0 => ("ChannelSchedule", "input", "LChannelSchedule$Input;", true)
  | 1 => ("ChannelSchedule", "script", "LChannelSchedule$Script;", true)
  | 2 => ("ChannelSchedule", "setup", "LChannelSchedule$Setup;", false)
  | 3 => ("ChannelSchedule", "draft", "LChannelSchedule$Setup;", false)
  | 4 => ("ChannelSchedule", "plan", "LChannelSchedule$Plan;", true)
  | 5 => ("ChannelSchedule", "kept", "LChannelSchedule$Plan;", true)
  | 6 => ("ChannelSchedule", "past", "[LChannelSchedule$Plan;", true)
  | 7 => ("ChannelSchedule", "latestPast", "I", false)
  | 8 => ("ChannelSchedule", "pastCount", "I", false)
  | 9 => ("ChannelSchedule", "saved", "[LChannelSchedule$Plan;", true)
  | 10 => ("ChannelSchedule", "isSaved", "[Z", true)
  | 11 => ("ChannelSchedule", "excluded", "[I", true)
  | 12 => ("ChannelSchedule", "output", "[B", true)
  | _ => ("ChannelSchedule", "outputLength", "I", false)
def R6 : String := "ChannelScheduleLaw$Own"
def T6 : u_T := fun k => match k with
  | 0 => ("ChannelScheduleLaw$Own", "x", "LChannelSchedule;", true)
  | 1 => ("ChannelScheduleLaw$Own", "ship", "[I", true)
  | 2 => ("ChannelScheduleLaw$Own", "in", "[Z", true)
  | 3 => ("ChannelScheduleLaw$Own", "start", "[I", true)
  | 4 => ("ChannelScheduleLaw$Own", "end", "[I", true)
  | 5 => ("ChannelScheduleLaw$Own", "many", "I", false)
  | 6 => ("ChannelScheduleLaw$Own", "wantedShip", "[I", true)
  | 7 => ("ChannelScheduleLaw$Own", "wantedIn", "[Z", true)
  | 8 => ("ChannelScheduleLaw$Own", "first", "[I", true)
  | 9 => ("ChannelScheduleLaw$Own", "last", "[I", true)
  | 10 => ("ChannelScheduleLaw$Own", "waiting", "I", false)
  | _ => ("ChannelScheduleLaw$Own", "served", "I", false)
def R7 : String := "java/lang/StringBuilder"
def T7 : u_T := fun k => match k with
  | 0 => ("java/lang/AbstractStringBuilder", "value", "[B", false)
  | 1 => ("java/lang/AbstractStringBuilder", "coder", "B", false)
  | 2 => ("java/lang/AbstractStringBuilder", "maybeLatin1", "Z", false)
  | _ => ("java/lang/AbstractStringBuilder", "count", "I", false)
def R8 : String := "java/lang/String"
def T8 : u_T := fun k => match k with
  | 0 => ("java/lang/String", "value", "[B", true)
  | 1 => ("java/lang/String", "coder", "B", true)
  | 2 => ("java/lang/String", "hash", "I", false)
  | _ => ("java/lang/String", "hashIsZero", "Z", false)
abbrev cls7 : List vw_C := [(R0, T0, 8), (R1, T1, 15), (R2, T2, 6), (R3, T3, 5), (R4, T4, 5), (R5, T5, 14), (R6, T6, 12), (R7, T7, 4), (R8, T8, 4)]
def tyO (d : String) : FieldType := (parseFieldDescriptor d).getD .int
theorem ty0_ok : ∀ k, k < 8 → parseFieldDescriptor (T0 k).2.2.1 = some (tyO (T0 k).2.2.1) := by decide +kernel
theorem ty1_ok : ∀ k, k < 15 → parseFieldDescriptor (T1 k).2.2.1 = some (tyO (T1 k).2.2.1) := by decide +kernel
theorem ty2_ok : ∀ k, k < 6 → parseFieldDescriptor (T2 k).2.2.1 = some (tyO (T2 k).2.2.1) := by decide +kernel
theorem ty3_ok : ∀ k, k < 5 → parseFieldDescriptor (T3 k).2.2.1 = some (tyO (T3 k).2.2.1) := by decide +kernel
theorem ty4_ok : ∀ k, k < 5 → parseFieldDescriptor (T4 k).2.2.1 = some (tyO (T4 k).2.2.1) := by decide +kernel
theorem ty5_ok : ∀ k, k < 14 → parseFieldDescriptor (T5 k).2.2.1 = some (tyO (T5 k).2.2.1) := by decide +kernel
theorem ty6_ok : ∀ k, k < 12 → parseFieldDescriptor (T6 k).2.2.1 = some (tyO (T6 k).2.2.1) := by decide +kernel
theorem ty7_ok : ∀ k, k < 4 → parseFieldDescriptor (T7 k).2.2.1 = some (tyO (T7 k).2.2.1) := by decide +kernel
theorem ty8_ok : ∀ k, k < 4 → parseFieldDescriptor (T8 k).2.2.1 = some (tyO (T8 k).2.2.1) := by decide +kernel
theorem nm0_ok : ∀ a, a < 8 → ∀ b, b < 8 → a ≠ b → (T0 a).2.1 ≠ (T0 b).2.1 := by decide +kernel
theorem nm1_ok : ∀ a, a < 15 → ∀ b, b < 15 → a ≠ b → (T1 a).2.1 ≠ (T1 b).2.1 := by decide +kernel
theorem nm2_ok : ∀ a, a < 6 → ∀ b, b < 6 → a ≠ b → (T2 a).2.1 ≠ (T2 b).2.1 := by decide +kernel
theorem nm3_ok : ∀ a, a < 5 → ∀ b, b < 5 → a ≠ b → (T3 a).2.1 ≠ (T3 b).2.1 := by decide +kernel
theorem nm4_ok : ∀ a, a < 5 → ∀ b, b < 5 → a ≠ b → (T4 a).2.1 ≠ (T4 b).2.1 := by decide +kernel
theorem nm5_ok : ∀ a, a < 14 → ∀ b, b < 14 → a ≠ b → (T5 a).2.1 ≠ (T5 b).2.1 := by decide +kernel
theorem nm6_ok : ∀ a, a < 12 → ∀ b, b < 12 → a ≠ b → (T6 a).2.1 ≠ (T6 b).2.1 := by decide +kernel
theorem nm7_ok : ∀ a, a < 4 → ∀ b, b < 4 → a ≠ b → (T7 a).2.1 ≠ (T7 b).2.1 := by decide +kernel
theorem nm8_ok : ∀ a, a < 4 → ∀ b, b < 4 → a ≠ b → (T8 a).2.1 ≠ (T8 b).2.1 := by decide +kernel
/-- the words that stay: of a warmed machine too -/
def LW : List Cond := lw_tbl.filter goodWord
theorem LW_m {w : Cond} (h : w ∈ lw_tbl) (g : goodWord w = true) : w ∈ LW := List.mem_filter.mpr ⟨h, g⟩
theorem LW_i {w : Cond} (i : Nat) (h : lw_tbl[i]? = some w) (g : goodWord w = true) : w ∈ LW := LW_m (List.mem_of_getElem? h) g
theorem LW_good {w : Cond} (h : w ∈ LW) : (w.onTables && w.keeps) = true ∨ ∃ ty, w = .arrayClass ty := good_of_word (List.mem_filter.mp h).2
theorem LW_tbl {w : Cond} (h : w ∈ LW) : w ∈ lw_tbl := (List.mem_filter.mp h).1
set_option maxRecDepth 100000 in
theorem ws_in : ((u_ws R0 T0 8 ++ u_ws R1 T1 15 ++ u_ws R2 T2 6 ++ u_ws R3 T3 5 ++ u_ws R4 T4 5 ++ u_ws R5 T5 14 ++ u_ws R6 T6 12 ++ u_ws R7 T7 4 ++ u_ws R8 T8 4).all fun w => decide (w ∈ tables_1) && goodWord w) = true := by decide +kernel
theorem ws_in1 {w : Cond} (h : w ∈ u_ws R0 T0 8 ++ u_ws R1 T1 15 ++ u_ws R2 T2 6 ++ u_ws R3 T3 5 ++ u_ws R4 T4 5 ++ u_ws R5 T5 14 ++ u_ws R6 T6 12 ++ u_ws R7 T7 4 ++ u_ws R8 T8 4) : w ∈ LW := by
  have h1 := List.all_eq_true.mp ws_in w h
  simp only [Bool.and_eq_true, decide_eq_true_eq] at h1
  exact LW_m (List.mem_append_right _ h1.1) h1.2
theorem ws0_in : ∀ w ∈ u_ws R0 T0 8, w ∈ LW := fun w h => ws_in1 (by simp only [List.mem_append]; simp [h])
theorem ws1_in : ∀ w ∈ u_ws R1 T1 15, w ∈ LW := fun w h => ws_in1 (by simp only [List.mem_append]; simp [h])
theorem ws2_in : ∀ w ∈ u_ws R2 T2 6, w ∈ LW := fun w h => ws_in1 (by simp only [List.mem_append]; simp [h])
theorem ws3_in : ∀ w ∈ u_ws R3 T3 5, w ∈ LW := fun w h => ws_in1 (by simp only [List.mem_append]; simp [h])
theorem ws4_in : ∀ w ∈ u_ws R4 T4 5, w ∈ LW := fun w h => ws_in1 (by simp only [List.mem_append]; simp [h])
theorem ws5_in : ∀ w ∈ u_ws R5 T5 14, w ∈ LW := fun w h => ws_in1 (by simp only [List.mem_append]; simp [h])
theorem ws6_in : ∀ w ∈ u_ws R6 T6 12, w ∈ LW := fun w h => ws_in1 (by simp only [List.mem_append]; simp [h])
theorem ws7_in : ∀ w ∈ u_ws R7 T7 4, w ∈ LW := fun w h => ws_in1 (by simp only [List.mem_append]; simp [h])
theorem ws8_in : ∀ w ∈ u_ws R8 T8 4, w ∈ LW := fun w h => ws_in1 (by simp only [List.mem_append]; simp [h])
/-- what stays fixed: the base, the classes' numbers and slots, the classes of arrays (int, boolean, byte, -, Ship, Plan), how many cells, whether these are all from the base on, the String constants and their bytes, the second base (of the cells from 148 on), cells that stay as they are, the script (its place, length, numbers), the rows of digits -/
abbrev GT : Type := Nat × va_G × (Nat → ClassId) × Nat × Bool × (Nat → Nat) × (Nat → Nat) × Nat × va_W × (Nat × Nat × (Nat → Int32)) × Nat × Nat
abbrev gB (G : GT) : Nat := G.1
abbrev gD (G : GT) : va_G := G.2.1
abbrev gA (G : GT) : Nat → ClassId := G.2.2.1
abbrev gN (G : GT) : Nat := G.2.2.2.1
abbrev gX (G : GT) : Bool := G.2.2.2.2.1
abbrev gK (G : GT) : Nat → Nat := G.2.2.2.2.2.1
abbrev gV (G : GT) : Nat → Nat := G.2.2.2.2.2.2.1
abbrev gC (G : GT) : Nat := G.2.2.2.2.2.2.2.1
abbrev gE (G : GT) : va_W := G.2.2.2.2.2.2.2.2.1
abbrev gSa (G : GT) : Nat := G.2.2.2.2.2.2.2.2.2.1.1
abbrev gSl (G : GT) : Nat := G.2.2.2.2.2.2.2.2.2.1.2.1
abbrev gSx (G : GT) : Nat → Int32 := G.2.2.2.2.2.2.2.2.2.1.2.2
abbrev gDo (G : GT) : Nat := G.2.2.2.2.2.2.2.2.2.2.1
abbrev gDt (G : GT) : Nat := G.2.2.2.2.2.2.2.2.2.2.2
abbrev tysG (G : GT) : List (ClassId × FieldType) := [(gA G 0, .int), (gA G 1, .boolean), (gA G 2, .byte), (gA G 3, .int), (gA G 4, .object R4), (gA G 5, .object R1)]
/-- where the cell k lies -/
def ad (G : GT) (k : Nat) : Nat := if k < 148 then gB G + k else gC G + k
theorem ad_lo {G : GT} {k : Nat} (h : k < 148) : ad G k = gB G + k := if_pos h
theorem ad_hi {G : GT} {k : Nat} (h : 148 ≤ k) : ad G k = gC G + k := if_neg (by omega)
theorem ad_z {G : GT} {k : Nat} (h : gC G = gB G) : ad G k = gB G + k := by
  unfold ad
  split
  · rfl
  · rw [h]
/-- where something may change -/
def gR (G : GT) (q : Nat) : Prop := gB G ≤ q ∧ (q < gB G + 148 ∨ gC G + 148 ≤ q)
theorem gR_ad {G : GT} {k : Nat} (h : gB G ≤ gC G) : gR G (ad G k) := by
  unfold gR ad
  split <;> omega
/-- where a plan (0 the present one, 1 the kept one, 2 to 7 the past ones, 8 and 9 the saved ones) and a setup lie -/
def aP (p : Nat) : Nat := if p < 2 then 53 + 9 * p else 58 + 9 * p
def aS (q : Nat) : Nat := 9 + 22 * q
def arI (cA : ClassId) (n : Nat) (row : Nat → Int) : va_E := .inl (cA, n, .inl (fun i => iI (row i)))
def arJ (cA : ClassId) (n : Nat) (row : Nat → Int) : va_E := .inl (cA, n, .inr (.inl (fun i => Int64.ofInt (row i))))
def arR (cA : ClassId) (n : Nat) (f : Nat → Option Nat) : va_E := .inl (cA, n, .inr (.inr (.inr (.inr f))))
abbrev vI (z : Int) : Value := .int (iI z)
def obPlan (b k : Nat) (r : Nat → Int) : va_E := .inr (1, [vI (r 0), vI (r 1), vI (r 2), vI (r 3), vI (r 4), vI (r 5), .ref (b + (k + 1)), .ref (b + (k + 2)), .ref (b + (k + 3)), .ref (b + (k + 4)), vI (r 10), .ref (b + (k + 5)), .ref (b + (k + 6)), .ref (b + (k + 7)), .ref (b + (k + 8))])
def obMain (b : Nat) (r : Nat → Int) : va_E := .inr (5, [.ref (b + 1), .ref (b + 3), .ref (b + aS (r 2).toNat), .ref (b + aS (r 3).toNat), .ref (b + aP 0), .ref (b + aP 1), .ref (b + 71), vI (r 7), vI (r 8), .ref (b + 72), .ref (b + 73), .ref (b + 74), .ref (b + 75), vI (r 13)])
def obInput (b : Nat) (r : Nat → Int) : va_E := .inr (0, [.ref (b + 2), vI (r 1), vI (r 2), vI (r 3), vI (r 4), vI (r 5), vI (r 6), vI (r 7)])
def obScript (b : Nat) (r : Nat → Int) : va_E := .inr (2, [vI (r 0), .ref (b + 4), .ref (b + 5), .ref (b + 6), .ref (b + 7), .ref (b + 8)])
def obSetup (b k : Nat) (r : Nat → Int) : va_E := .inr (3, [vI (r 0), vI (r 1), vI (r 2), vI (r 3), .ref (b + (k + 1))])
def obShip (b k : Nat) (r : Nat → Int) : va_E := .inr (4, [.ref (b + (k + 1)), vI (r 1), vI (r 2), vI (r 3), vI (r 4)])
def obOwn (b c : Nat) (r : Nat → Int) : va_E := .inr (6, [.ref (b + 0), .ref (c + 149), .ref (c + 150), .ref (c + 151), .ref (c + 152), vI (r 5), .ref (c + 153), .ref (c + 154), .ref (c + 155), .ref (c + 156), vI (r 10), vI (r 11)])
def celPlan (b : Nat) (A : Nat → ClassId) (k j : Nat) (r : Nat → Int) : va_E :=
  if j = 0 then obPlan b k r else if j = 2 then arI (A 1) 20 r else if j < 5 then arI (A 0) 20 r else if j = 6 then arI (A 1) 8 r else arI (A 0) 8 r
def celSetup (b : Nat) (A : Nat → ClassId) (k j : Nat) (r : Nat → Int) : va_E :=
  if j = 0 then obSetup b k r else if j = 1 then arR (A 4) 10 (fun i => some (b + ((k - 1) + 2 + 2 * i))) else if j % 2 = 0 then obShip b k r else arI (A 2) 6 r
/-- the cell k out of its row of numbers -/
def celOf (b c : Nat) (A : Nat → ClassId) (k : Nat) (r : Nat → Int) : va_E :=
  if k < 9 then
    if k = 0 then obMain b r else if k = 1 then obInput b r else if k = 2 then arI (A 2) 600 r else if k = 3 then obScript b r else if k = 6 then arI (A 1) 30 r else arI (A 0) 30 r
  else if k < 53 then celSetup b A k ((k - 9) % 22) r
  else if k < 71 then celPlan b A k ((k - 53) % 9) r
  else if k < 76 then
    if k = 71 then arR (A 5) 6 (fun i => some (b + (76 + 9 * i))) else if k = 72 then arR (A 5) 2 (fun i => some (b + (130 + 9 * i))) else if k = 73 then arI (A 1) 2 r else if k = 74 then arI (A 0) 8 r else arI (A 2) 320 r
  else if k < 148 then celPlan b A k ((k - 76) % 9) r
  else if k = 148 then obOwn b c r else if k = 150 then arI (A 1) 20 r else if k < 153 then arI (A 0) 20 r else if k = 154 then arI (A 1) 8 r else arI (A 0) 8 r
abbrev HT : Type := Nat → va_E
abbrev VV : Type := Nat → Nat → Int
def hV (G : GT) (V : VV) : HT := fun k => celOf (gB G) (gC G) (gA G) k (V k)
def upH (h : HT) (k : Nat) (e : va_E) : HT := fun j => if j = k then e else h j
/-- the cells of a world, by their places -/
def wsO (G : GT) (N : Nat) (h : HT) : va_W := (List.range N).map (fun k => (ad G k, h k))
theorem wsO_get {G : GT} {N : Nat} {h : HT} {k : Nat} (hk : k < N) : (wsO G N h)[k]? = some (ad G k, h k) := by
  unfold wsO
  rw [List.getElem?_map, List.getElem?_range hk]
  rfl
theorem wsO_geta {G : GT} {N a : Nat} {h : HT} {k : Nat} (hk : k < N) (ha : ad G k = a) : (wsO G N h)[k]? = some (a, h k) := by
  subst ha
  exact wsO_get hk
theorem wsO_len {G : GT} {N : Nat} {h : HT} : (wsO G N h).length = N := by simp [wsO]
theorem wsO_set {G : GT} {N : Nat} {h : HT} {k : Nat} (e : va_E) (hk : k < N) : (wsO G N h).set k (ad G k, e) = wsO G N (upH h k e) := by
  apply List.ext_getElem?
  intro i
  by_cases hi : i < N
  · by_cases e1 : i = k
    · subst e1
      rw [List.getElem?_set_self (by rw [wsO_len]; exact hi), wsO_get hi]
      simp [upH]
    · rw [List.getElem?_set_ne (Ne.symm e1), wsO_get hi, wsO_get hi]
      simp [upH, e1]
  · rw [List.getElem?_eq_none (by rw [List.length_set, wsO_len]; omega), List.getElem?_eq_none (by rw [wsO_len]; omega)]
theorem wsO_push {G : GT} {N : Nat} {h : HT} (e : va_E) : wsO G N h ++ [(ad G N, e)] = wsO G (N + 1) (upH h N e) := by
  unfold wsO
  rw [List.range_succ, List.map_append]
  congr 1
  · apply List.map_congr_left
    intro k hk
    have h9 : k < N := List.mem_range.mp hk
    simp [upH, Nat.ne_of_lt h9]
  · simp [upH]
theorem ad_inj {G : GT} {i j : Nat} (hC : gB G ≤ gC G) (e : ad G i = ad G j) : i = j := by
  unfold ad at e
  split at e <;> split at e <;> omega
theorem wsO_key {G : GT} {N : Nat} {h : HT} {k : Nat} {q : Nat × va_E} (hk : (wsO G N h)[k]? = some q) : q.1 = ad G k ∧ k < N := by
  have hl := (List.getElem?_eq_some_iff.mp hk).1
  rw [wsO_len] at hl
  rw [wsO_get hl] at hk
  cases hk
  exact ⟨rfl, hl⟩
theorem wsO_D {G : GT} {N : Nat} {h : HT} (hC : gB G ≤ gC G) : va_D (gR G) (wsO G N h) := by
  refine ⟨fun i j p q hi hj e => ?_, fun k q hk => ?_⟩
  · rw [(wsO_key hi).1, (wsO_key hj).1] at e
    exact ad_inj hC e
  · show gR G q.1
    rw [(wsO_key hk).1]
    exact gR_ad hC
theorem wsO_ext {G : GT} {N : Nat} {h h' : HT} (e : ∀ k, k < N → h k = h' k) : wsO G N h = wsO G N h' := by
  unfold wsO
  apply List.map_congr_left
  intro k hk
  rw [e k (List.mem_range.mp hk)]
def Wd (G : GT) (N : Nat) (h : HT) (H : Heap) : Prop := ((gB G ≤ gC G ∧ gB G ≤ H.size) ∧ va_P (gD G) cls7 (gE G) H ∧ ∀ q ∈ gE G, ¬ gR G q.1) ∧ (gX G = true → H.size = ad G N) ∧ va_P (gD G) cls7 (wsO G N h) H
end
section
/-! THE ENGINE: a frame's walk over the cells of a world, told by their places -/
/-- the String constants: the class's three, the law's two; their places in the pools, their texts, lengths and bytes -/
def txS : List String := ["channel 5 10 3;ship ann 20 3 4;ship bob 12 0 9;ship cid 30 5 2;ship dot 15 2 7;", "channel", "ship", "channel ", "ship s"]
def ixX : List Nat := [72, 391, 407]
def ixL : List Nat := [36, 52]
def bySn : List (List Nat) := [[99, 104, 97, 110, 110, 101, 108, 32, 53, 32, 49, 48, 32, 51, 59, 115, 104, 105, 112, 32, 97, 110, 110, 32, 50, 48, 32, 51, 32, 52, 59, 115, 104, 105, 112, 32, 98, 111, 98, 32, 49, 50, 32, 48, 32, 57, 59, 115, 104, 105, 112, 32, 99, 105, 100, 32, 51, 48, 32, 53, 32, 50, 59, 115, 104, 105, 112, 32, 100, 111, 116, 32, 49, 53, 32, 50, 32, 55, 59], [99, 104, 97, 110, 110, 101, 108], [115, 104, 105, 112], [99, 104, 97, 110, 110, 101, 108, 32], [115, 104, 105, 112, 32, 115]]
def byS : List (List Int32) := bySn.map (fun l => l.map nI)
def leS : List Nat := bySn.map List.length
/-- what stays as it is, outside: constants, statics, the script -/
def SF (G : GT) (U : State) (H : Heap) : Prop :=
  va_Z "java/lang/String" "COMPACT_STRINGS" "Z" (.int 1) (gR G) U H ∧ va_Zq "jdk/internal/util/Preconditions" "SIOOBE_FORMATTER" "Ljava/util/function/BiFunction;" (gR G) U H ∧
  (va_Z "java/lang/Integer" "DigitOnes" "[B" (.ref (gDo G)) (gR G) U H ∧ va_Z "java/lang/Integer" "DigitTens" "[B" (.ref (gDt G)) (gR G) U H ∧ va_T .byte (gDo G) 100 (fun j => .int (iI ((48 + j % 10 : Nat) : Int))) (gR G) U H ∧ va_T .byte (gDt G) 100 (fun j => .int (iI ((48 + j / 10 : Nat) : Int))) (gR G) U H) ∧
  vk_S 5 leS byS (gK G) (gV G) (gR G) U H ∧
  (∀ i : Nat, i < 3 → vk_R "ChannelSchedule" (ixX.getD i 0) (txS.getD i "") (gK G i) U) ∧ (∀ i : Nat, i < 2 → vk_R "ChannelScheduleLaw" (ixL.getD i 0) (txS.getD (3 + i) "") (gK G (3 + i)) U) ∧
  (va_X (gSa G) (gSl G) (gSx G) U H ∧ ¬ gR G (gSa G) ∧ gSl G ≤ 260) ∧ va_Nw (.methodLinkNest "ChannelScheduleLaw$Own" 87 ⟨"ChannelScheduleLaw", "conflict", "(LChannelSchedule;ZIIZII)Z"⟩ "ChannelScheduleLaw") U ∧ (va_AO R4 U ∧ va_AO R1 U) ∧ va_Nw (.castable "[B" "java/lang/Cloneable") U
theorem cast_moved {a b : String} {u U : State} (hvm : u.vm.Alike U.vm) (h : va_Nw (.castable a b) u) : va_Nw (.castable a b) U :=
  va_tabs rfl (rfl : (u.setVm U.vm).vm = U.vm) (by rw [Cond.castable_setVm hvm]; exact h)
theorem va_X.lt {b L : Nat} {xs : Nat → Int32} {U : State} {H : Heap} (h : va_X b L xs U H) : b < H.size := by
  obtain ⟨scr, h1, -⟩ := h
  exact (Array.getElem?_eq_some_iff.mp h1).1
theorem SF.kept {G : GT} {U : State} {H H1 : Heap} (h : SF G U H) (hq : ∀ a : Nat, a < H.size → ¬ gR G a → H1[a]? = H[a]?) : SF G U H1 :=
  ⟨h.1.kept hq, h.2.1.kept hq, ⟨h.2.2.1.1.kept hq, h.2.2.1.2.1.kept hq, h.2.2.1.2.2.1.kept hq, h.2.2.1.2.2.2.kept hq⟩, h.2.2.2.1.kept hq, h.2.2.2.2.1, h.2.2.2.2.2.1, ⟨h.2.2.2.2.2.2.1.1.kept (hq _ h.2.2.2.2.2.2.1.1.lt h.2.2.2.2.2.2.1.2.1), h.2.2.2.2.2.2.1.2⟩, h.2.2.2.2.2.2.2⟩
theorem SF.moved {G : GT} {u U : State} {H : Heap} (hw : u.WarmedH U.vm) (h : SF G u H) : SF G U H :=
  ⟨h.1.moved hw.alike, h.2.1.moved hw.alike, ⟨h.2.2.1.1.moved hw.alike, h.2.2.1.2.1.moved hw.alike, h.2.2.1.2.2.1.moved hw.alike, h.2.2.1.2.2.2.moved hw.alike⟩, h.2.2.2.1.moved hw.alike, fun i hi => (h.2.2.2.2.1 i hi).warm hw, fun i hi => (h.2.2.2.2.2.1 i hi).warm hw, ⟨h.2.2.2.2.2.2.1.1.moved hw.alike, h.2.2.2.2.2.2.1.2⟩, h.2.2.2.2.2.2.2.1.warmM hw, ⟨h.2.2.2.2.2.2.2.2.1.1.moved hw.alike, h.2.2.2.2.2.2.2.2.1.2.moved hw.alike⟩, cast_moved hw.alike h.2.2.2.2.2.2.2.2.2⟩
/-- a frame's fixed things -/
abbrev CT : Type := Program × Launch × Env × Room × State × MethodId × Array Value × List Frame × Method × Code × (State → Prop) × Nat
/-- the locals: of two with one number the first counts -/
def lh (ls : Array Slot) (nL : Nat) (lv : List (Nat × Value)) : Prop := ls.size = nL ∧ lv_wf ls ∧ ∀ (i : Nat) (v : Value), lv.lookup i = some v → ls[i]? = some (.val v) ∧ v.category = 1
theorem lh_st {ls : Array Slot} {nL : Nat} {lv : List (Nat × Value)} {i : Nat} {v : Value} (h : lh ls nL lv) (hi : i < nL) (hc : v.category = 1) : ∃ ls', storeLocals ls i v = some ls' ∧ lh ls' nL ((i, v) :: lv) := by
  obtain ⟨h1, h2, h3⟩ := h
  obtain ⟨ls', e', g⟩ := lv_store1 (l := []) (v := v) ⟨h1, h2, fun q hq => absurd hq List.not_mem_nil⟩ hi hc
  refine ⟨ls', e', g.1, g.2.1, fun j w hj => ?_⟩
  rw [List.lookup_cons] at hj
  by_cases hji : j = i
  · subst hji
    simp at hj
    subst hj
    exact ⟨g.2.2 _ List.mem_cons_self, hc⟩
  · have hb : (j == i) = false := by simp [hji]
    rw [hb] at hj
    obtain ⟨w1, w2⟩ := h3 j w hj
    obtain ⟨ls2, e2, g2⟩ := lv_store1 (l := [(j, w)]) (v := v) ⟨h1, h2, fun q hq => by rw [List.mem_singleton.mp hq]; exact w1⟩ hi hc
    have e3 : ls2 = ls' := Option.some.inj (e2.symm.trans e')
    subst e3
    refine ⟨g2.2.2 (j, w) ?_, w2⟩
    simp [hji, w2]
theorem lh_w {ls : Array Slot} {nL : Nat} {lv lw : List (Nat × Value)} (h : lh ls nL lv) (hw : ∀ q ∈ lw, lv.lookup q.1 = some q.2) : lh ls nL lw := by
  refine ⟨h.1, h.2.1, fun i v hi => ?_⟩
  have hm : (i, v) ∈ lw := by
    clear hw h
    induction lw with
    | nil => simp at hi
    | cons a l ih =>
      rw [List.lookup_cons] at hi
      by_cases e : i = a.1
      · subst e
        simp at hi
        subst hi
        exact List.mem_cons_self
      · have hb : (i == a.1) = false := by simp [e]
        rw [hb] at hi
        exact List.mem_cons_of_mem _ (ih hi)
  exact h.2.2 i v (hw _ hm)
def AtH (G : GT) (X : CT) (cells slots pc : Nat) (lv : List (Nat × Value)) (st : List Value) (N : Nat) (h : HT) : Prop :=
  match X with
  | (p, l, e, R, s, m, args, below, meth, c, Q, nL) => ∀ (H : Heap) (locs : List Loc) (ls : Array Slot), Wd G N h H → va_S (gR G) s.heap H locs → lh ls nL lv → W p l e R s m args below meth c H locs cells slots Q (F0 m pc ls st)
abbrev At (G : GT) (X : CT) (cells slots pc : Nat) (lv : List (Nat × Value)) (st : List Value) (V : VV) : Prop := AtH G X cells slots pc lv st (gN G) (hV G V)
def Cx (G : GT) (X : CT) (own : String) (cc : ByteArray) : Prop :=
  match X with
  | (p, l, e, R, s, m, args, below, meth, c, Q, nL) => p.tables.exec = Jvm.exec ∧ c.code = cc ∧ c.maxLocals = nL ∧ s.vm.findClass own = some m.cls ∧ (∀ w ∈ LW, w.before args s = true) ∧ va_K (gD G) cls7 (tysG G) s ∧ SF G s s.heap ∧ meth.locks = false ∧ l.stackTraces = false ∧ gB G ≤ s.heap.size
def rmD (d mc ms : Nat) : Room := { frames := d, cells := mc, slots := ms, locals := 40 * d }
def PH (G : GT) (av : List Value) (N : Nat) (h : HT) : Array Value → State → Prop := fun a U => a = av.toArray ∧ Wd G N h U.heap ∧ va_K (gD G) cls7 (tysG G) U ∧ SF G U U.heap
def QH (G : GT) (post : Option Value → Nat → HT → Prop) : Array Value → State → Outcome → State → Prop := fun _ st o t => ∃ (v : Option Value) (N' : Nat) (h' : HT), o = .returned v ∧ post v N' h' ∧ Wd G N' h' t.heap ∧ va_F (gR G) st t
def XH (G : GT) (postX : String → Nat → HT → Prop) : String → State → State → Prop := fun E st t => ∃ (N' : Nat) (h' : HT), postX E N' h' ∧ Wd G N' h' t.heap ∧ va_F (gR G) st t
def EvH (G : GT) (l : Launch) (y : MethodName) (cc : ByteArray) (nL : Nat) (ret : Option FieldType) (d mc ms : Nat) (av : List Value) (N : Nat) (h : HT) (post : Option Value → Nat → HT → Prop) (postX : String → Nat → HT → Prop) : Prop :=
  vx_Met l y (.code y cc nL ret :: LW) (rmD d mc ms) (PH G av N h) (QH G post) (XH G postX) mc ms (gR G)
def vP (G : GT) (post : Option Value → VV → Prop) : Option Value → Nat → HT → Prop := fun v N' h' => N' = gN G ∧ ∃ V', h' = hV G V' ∧ post v V'
def vX (G : GT) (postX : String → VV → Prop) : String → Nat → HT → Prop := fun E N' h' => N' = gN G ∧ ∃ V', h' = hV G V' ∧ postX E V'
abbrev Ev (G : GT) (l : Launch) (y : MethodName) (cc : ByteArray) (nL : Nat) (ret : Option FieldType) (d mc ms : Nat) (av : List Value) (V : VV) (post : Option Value → VV → Prop) (postX : String → VV → Prop) : Prop :=
  EvH G l y cc nL ret d mc ms av (gN G) (hV G V) (vP G post) (vX G postX)
def noX : String → VV → Prop := fun _ _ => False
def noH : String → Nat → HT → Prop := fun _ _ _ => False
/-- what the end of a body owes -/
def Mx (G : GT) (X : CT) (d mc ms : Nat) (ret : Option FieldType) (post : Option Value → Nat → HT → Prop) (postX : String → Nat → HT → Prop) : Prop :=
  match X with
  | (p, l, e, R, s, m, args, below, meth, c, Q, nL) => R = rmD d mc ms ∧ Q = vx_MQ below (QH G post) (XH G postX) args s mc ms (gR G) ∧ meth.sig.returnType = ret ∧ ∀ x ∈ c.exceptionTable.toList, False
abbrev xl (X : CT) : Launch := X.2.1
abbrev xR (X : CT) : Room := X.2.2.2.1
abbrev xN (X : CT) : Nat := X.2.2.2.2.2.2.2.2.2.2.2
/-- the words of a method that is called -/
def YV (y : MethodName) (cc : ByteArray) (nL : Nat) (ret : Option FieldType) (n : Nat) : Prop :=
  .instanceMethod y ∈ LW ∧ .selects y.cls y y ∈ LW ∧ .initialized y.cls ∈ LW ∧ .code y cc nL ret ∈ LW ∧ (y.cls ≠ "java/lang/invoke/MethodHandle" ∧ y.cls ≠ "java/lang/invoke/VarHandle") ∧ (parseMethodDescriptor y.desc).map (fun d => d.parameters.length) = some n
def YS (y : MethodName) (cc : ByteArray) (nL : Nat) (ret : Option FieldType) (n : Nat) : Prop :=
  .static y ∈ LW ∧ .initialized y.cls ∈ LW ∧ .code y cc nL ret ∈ LW ∧ (y.cls ≠ "java/lang/invoke/MethodHandle" ∧ y.cls ≠ "java/lang/invoke/VarHandle") ∧ (parseMethodDescriptor y.desc).map (fun d => d.parameters.length) = some n
def YI (y : MethodName) (cc : ByteArray) (nL : Nat) (n : Nat) : Prop :=
  .instanceMethod y ∈ LW ∧ .initialized y.cls ∈ LW ∧ .code y cc nL none ∈ LW ∧ (y.cls ≠ "java/lang/invoke/MethodHandle" ∧ y.cls ≠ "java/lang/invoke/VarHandle") ∧ (parseMethodDescriptor y.desc).map (fun d => d.parameters.length) = some n ∧ y.name = "<init>"
theorem LW_callB {R : Room} {s : State} {args : Array Value} {own : String} {index : Nat} {y : MethodName} {cc : ByteArray} {nL n d mc ms : Nat} {ret : Option FieldType} (hts : ∀ w ∈ LW, w.before args s = true) (hl : .methodLink own index y ∈ LW) (hi : .initialized y.cls ∈ LW) (hc : .code y cc nL ret ∈ LW) (hy : y.cls ≠ "java/lang/invoke/MethodHandle" ∧ y.cls ≠ "java/lang/invoke/VarHandle") (hn : (parseMethodDescriptor y.desc).map (fun d => d.parameters.length) = some n)
    (h1 : d + 1 ≤ R.frames) (h2 : 8 + (nL + 11) + 40 * d ≤ R.locals) : CallB R s args own index y cc nL ret (.code y cc nL ret :: LW) (rmD d mc ms) mc ms n := by
  refine ⟨rfl, rfl, h1, h2, ?_, List.mem_cons_self, hts _ hc, hts _ hi, hy, fun sig h => ?_, hts _ hl⟩
  · intro w hw a' U hW
    have hm : w ∈ LW := by
      rcases List.mem_cons.mp hw with e | e
      · rw [e]; exact hc
      · exact e
    exact word_at hW (LW_good hm) (hts w hm)
  · rw [h] at hn
    exact (Option.some.inj hn).symm
theorem PH_blind {G : GT} {av : List Value} {N : Nat} {h : HT} : FrameBlind (PH G av N h) := by
  intro a U g mk q
  obtain ⟨q0, q1, q2, q3⟩ := q
  exact ⟨q0, q1, va_K.moved (u := U) (U := U.calling g mk a) (Vm.Alike.refl U.vm) q2, SF.moved (u := U) (U := U.calling g mk a) (State.WarmedH.refl U) q3⟩
section
variable {G : GT} {X : CT} {cells slots pc N : Nat} {lv : List (Nat × Value)} {st : List Value} {h : HT} {own : String} {cc : ByteArray}
/-- fewer locals told -/
theorem AtH.w {lw : List (Nat × Value)} (hw : ∀ q ∈ lw, lv.lookup q.1 = some q.2) (k : AtH G X cells slots pc lw st N h) : AtH G X cells slots pc lv st N h := by
  obtain ⟨p, l, e, R, s, m, args, below, meth, c, Q, nL⟩ := X
  intro H locs ls hW hS hl
  exact k H locs ls hW hS (lh_w hl hw)
theorem AtH.e {h' : HT} (he : ∀ k, k < N → h k = h' k) (k : AtH G X cells slots pc lv st N h') : AtH G X cells slots pc lv st N h := by
  obtain ⟨p, l, e, R, s, m, args, below, meth, c, Q, nL⟩ := X
  intro H locs ls hW hS hl
  exact k H locs ls ⟨hW.1, hW.2.1, by rw [← wsO_ext he]; exact hW.2.2⟩ hS hl
theorem r_aload_n {i : Fin 4} {a : Nat} (C : Cx G X own cc) (d : decode cc pc = .ok (.aload_n i, 1)) (hl : lv.lookup (i : Nat) = some (.ref a)) (k : AtH G X cells slots (pc + 1) lv (.ref a :: st) N h) : AtH G X cells slots pc lv st N h := by
  obtain ⟨p, l, e, R, s, m, args, below, meth, c, Q, nL⟩ := X
  intro H locs ls hW hS hls
  exact lv_aload_n C.1 C.2.1 d rfl (hls.2.2 _ _ hl).1 (k H locs ls hW hS hls)
theorem r_aload {i a : Nat} (C : Cx G X own cc) (d : decode cc pc = .ok (.aload i, 2)) (hl : lv.lookup i = some (.ref a)) (k : AtH G X cells slots (pc + 2) lv (.ref a :: st) N h) : AtH G X cells slots pc lv st N h := by
  obtain ⟨p, l, e, R, s, m, args, below, meth, c, Q, nL⟩ := X
  intro H locs ls hW hS hls
  exact lv_aload C.1 C.2.1 d (hls.2.2 _ _ hl).1 (k H locs ls hW hS hls)
theorem r_iload_n {i : Fin 4} {z : Int} (C : Cx G X own cc) (d : decode cc pc = .ok (.iload_n i, 1)) (hl : lv.lookup (i : Nat) = some (vI z)) (k : AtH G X cells slots (pc + 1) lv (vI z :: st) N h) : AtH G X cells slots pc lv st N h := by
  obtain ⟨p, l, e, R, s, m, args, below, meth, c, Q, nL⟩ := X
  intro H locs ls hW hS hls
  exact lv_iload_n C.1 C.2.1 d rfl (hls.2.2 _ _ hl).1 (k H locs ls hW hS hls)
theorem r_iload {i : Nat} {z : Int} (C : Cx G X own cc) (d : decode cc pc = .ok (.iload i, 2)) (hl : lv.lookup i = some (vI z)) (k : AtH G X cells slots (pc + 2) lv (vI z :: st) N h) : AtH G X cells slots pc lv st N h := by
  obtain ⟨p, l, e, R, s, m, args, below, meth, c, Q, nL⟩ := X
  intro H locs ls hW hS hls
  exact lv_iload C.1 C.2.1 d (hls.2.2 _ _ hl).1 (k H locs ls hW hS hls)
theorem r_istore_n {i : Fin 4} {z : Int} (C : Cx G X own cc) (d : decode cc pc = .ok (.istore_n i, 1)) (hn : (i : Nat) < xN X) (k : AtH G X cells slots (pc + 1) (((i : Nat), vI z) :: lv) st N h) : AtH G X cells slots pc lv (vI z :: st) N h := by
  obtain ⟨p, l, e, R, s, m, args, below, meth, c, Q, nL⟩ := X
  intro H locs ls hW hS hls
  obtain ⟨hexec, hb, -⟩ := C
  obtain ⟨ls', e', g⟩ := lh_st (v := vI z) hls hn rfl
  intro T hT X0
  obtain ⟨t, a1, b1⟩ := k H locs ls' hW hS g T hT X0
  refine ⟨t, ?_, b1⟩
  jvm_step X0.here [X0.here.top, ↓top_set X0.here.top, hexec, hb, d, e']
  exact a1
theorem r_istore {i : Nat} {z : Int} (C : Cx G X own cc) (d : decode cc pc = .ok (.istore i, 2)) (hn : i < xN X) (k : AtH G X cells slots (pc + 2) ((i, vI z) :: lv) st N h) : AtH G X cells slots pc lv (vI z :: st) N h := by
  obtain ⟨p, l, e, R, s, m, args, below, meth, c, Q, nL⟩ := X
  intro H locs ls hW hS hls
  obtain ⟨hexec, hb, -⟩ := C
  obtain ⟨ls', e', g⟩ := lh_st (v := vI z) hls hn rfl
  intro T hT X0
  obtain ⟨t, a1, b1⟩ := k H locs ls' hW hS g T hT X0
  refine ⟨t, ?_, b1⟩
  jvm_step X0.here [X0.here.top, ↓top_set X0.here.top, hexec, hb, d, e']
  exact a1
theorem r_astore_n {i : Fin 4} {a : Nat} (C : Cx G X own cc) (d : decode cc pc = .ok (.astore_n i, 1)) (hn : (i : Nat) < xN X) (k : AtH G X cells slots (pc + 1) (((i : Nat), .ref a) :: lv) st N h) : AtH G X cells slots pc lv (.ref a :: st) N h := by
  obtain ⟨p, l, e, R, s, m, args, below, meth, c, Q, nL⟩ := X
  intro H locs ls hW hS hls
  obtain ⟨hexec, hb, -⟩ := C
  obtain ⟨ls', e', g⟩ := lh_st (v := .ref a) hls hn rfl
  intro T hT X0
  obtain ⟨t, a1, b1⟩ := k H locs ls' hW hS g T hT X0
  refine ⟨t, ?_, b1⟩
  jvm_step X0.here [X0.here.top, ↓top_set X0.here.top, hexec, hb, d, e', Value.isRef]
  exact a1
theorem r_astore {i : Nat} {a : Nat} (C : Cx G X own cc) (d : decode cc pc = .ok (.astore i, 2)) (hn : i < xN X) (k : AtH G X cells slots (pc + 2) ((i, .ref a) :: lv) st N h) : AtH G X cells slots pc lv (.ref a :: st) N h := by
  obtain ⟨p, l, e, R, s, m, args, below, meth, c, Q, nL⟩ := X
  intro H locs ls hW hS hls
  obtain ⟨hexec, hb, -⟩ := C
  obtain ⟨ls', e', g⟩ := lh_st (v := .ref a) hls hn rfl
  intro T hT X0
  obtain ⟨t, a1, b1⟩ := k H locs ls' hW hS g T hT X0
  refine ⟨t, ?_, b1⟩
  jvm_step X0.here [X0.here.top, ↓top_set X0.here.top, hexec, hb, d, e', Value.isRef]
  exact a1
theorem r_iinc {i : Nat} {n z : Int} (C : Cx G X own cc) (d : decode cc pc = .ok (.iinc i n, 3)) (hl : lv.lookup i = some (vI z)) (hn : i < xN X) (k : AtH G X cells slots (pc + 3) ((i, vI (z + n)) :: lv) st N h) : AtH G X cells slots pc lv st N h := by
  obtain ⟨p, l, e, R, s, m, args, below, meth, c, Q, nL⟩ := X
  intro H locs ls hW hS hls
  obtain ⟨hexec, hb, -⟩ := C
  have hg := (hls.2.2 _ _ hl).1
  obtain ⟨ls', e', g⟩ := lh_st (v := vI (z + n)) hls hn rfl
  have e2 : iI z + Int32.ofInt n = iI (z + n) := iI_add z n
  have e' : storeLocals ls i (.int (iI z + Int32.ofInt n)) = some ls' := by rw [e2]; exact e'
  intro T hT X0
  obtain ⟨t, a1, b1⟩ := k H locs ls' hW hS g T hT X0
  refine ⟨t, ?_, b1⟩
  jvm_step X0.here [X0.here.top, ↓top_set X0.here.top, hexec, hb, d, hg, e']
  exact a1
theorem r_iconst {n : Int} (C : Cx G X own cc) (d : decode cc pc = .ok (.iconst n, 1)) (k : AtH G X cells slots (pc + 1) lv (vI n :: st) N h) : AtH G X cells slots pc lv st N h := by
  obtain ⟨p, l, e, R, s, m, args, below, meth, c, Q, nL⟩ := X
  intro H locs ls hW hS hls
  exact lv_iconst C.1 C.2.1 d rfl (k H locs ls hW hS hls)
theorem r_bipush {n : Int} (C : Cx G X own cc) (d : decode cc pc = .ok (.bipush n, 2)) (hn : (Int8.ofInt n).toInt32 = iI n) (k : AtH G X cells slots (pc + 2) lv (vI n :: st) N h) : AtH G X cells slots pc lv st N h := by
  obtain ⟨p, l, e, R, s, m, args, below, meth, c, Q, nL⟩ := X
  intro H locs ls hW hS hls
  exact lv_bipush C.1 C.2.1 d hn (k H locs ls hW hS hls)
theorem r_sipush {n : Int} (C : Cx G X own cc) (d : decode cc pc = .ok (.sipush n, 3)) (hn : (Int16.ofInt n).toInt32 = iI n) (k : AtH G X cells slots (pc + 3) lv (vI n :: st) N h) : AtH G X cells slots pc lv st N h := by
  obtain ⟨p, l, e, R, s, m, args, below, meth, c, Q, nL⟩ := X
  intro H locs ls hW hS hls
  exact lv_sipush C.1 C.2.1 d hn (k H locs ls hW hS hls)
theorem r_iadd {x y : Int} (C : Cx G X own cc) (d : decode cc pc = .ok (.iadd, 1)) (k : AtH G X cells slots (pc + 1) lv (vI (x + y) :: st) N h) : AtH G X cells slots pc lv (vI y :: vI x :: st) N h := by
  obtain ⟨p, l, e, R, s, m, args, below, meth, c, Q, nL⟩ := X
  intro H locs ls hW hS hls
  refine lv_iadd C.1 C.2.1 d ?_
  rw [iI_add]
  exact k H locs ls hW hS hls
theorem r_isub {x y : Int} (C : Cx G X own cc) (d : decode cc pc = .ok (.isub, 1)) (k : AtH G X cells slots (pc + 1) lv (vI (x - y) :: st) N h) : AtH G X cells slots pc lv (vI y :: vI x :: st) N h := by
  obtain ⟨p, l, e, R, s, m, args, below, meth, c, Q, nL⟩ := X
  intro H locs ls hW hS hls
  refine lv_isub C.1 C.2.1 d ?_
  rw [iI_sub]
  exact k H locs ls hW hS hls
theorem r_imul {x y : Int} (C : Cx G X own cc) (d : decode cc pc = .ok (.imul, 1)) (k : AtH G X cells slots (pc + 1) lv (vI (x * y) :: st) N h) : AtH G X cells slots pc lv (vI y :: vI x :: st) N h := by
  obtain ⟨p, l, e, R, s, m, args, below, meth, c, Q, nL⟩ := X
  intro H locs ls hW hS hls
  refine lv_imul C.1 C.2.1 d ?_
  rw [iI_mul]
  exact k H locs ls hW hS hls
theorem r_ineg {x : Int} (C : Cx G X own cc) (d : decode cc pc = .ok (.ineg, 1)) (k : AtH G X cells slots (pc + 1) lv (vI (-x) :: st) N h) : AtH G X cells slots pc lv (vI x :: st) N h := by
  obtain ⟨p, l, e, R, s, m, args, below, meth, c, Q, nL⟩ := X
  intro H locs ls hW hS hls
  refine lv_ineg C.1 C.2.1 d ?_
  rw [iI_neg]
  exact k H locs ls hW hS hls
theorem r_idiv {x y : Int} (C : Cx G X own cc) (d : decode cc pc = .ok (.idiv, 1)) (hx : rg x) (hy : rg y) (h0 : 0 < y) (k : AtH G X cells slots (pc + 1) lv (vI (x.tdiv y) :: st) N h) : AtH G X cells slots pc lv (vI y :: vI x :: st) N h := by
  obtain ⟨p, l, e, R, s, m, args, below, meth, c, Q, nL⟩ := X
  intro H locs ls hW hS hls
  refine lv_idiv C.1 C.2.1 d (fun e9 => ?_) ?_
  · have := (iI_eq hy ⟨by omega, by omega⟩).mp (e9.trans iI_zero.symm)
    omega
  · rw [iI_div hx hy (by omega)]
    exact k H locs ls hW hS hls
theorem r_irem {x y : Int} (C : Cx G X own cc) (d : decode cc pc = .ok (.irem, 1)) (hx : rg x) (hy : rg y) (h0 : 0 < y) (k : AtH G X cells slots (pc + 1) lv (vI (x.tmod y) :: st) N h) : AtH G X cells slots pc lv (vI y :: vI x :: st) N h := by
  obtain ⟨p, l, e, R, s, m, args, below, meth, c, Q, nL⟩ := X
  intro H locs ls hW hS hls
  refine lv_irem C.1 C.2.1 d (fun e9 => ?_) ?_
  · have := (iI_eq hy ⟨by omega, by omega⟩).mp (e9.trans iI_zero.symm)
    omega
  · rw [iI_rem hx hy (by omega)]
    exact k H locs ls hW hS hls
theorem r_i2b {x : Int} (C : Cx G X own cc) (d : decode cc pc = .ok (.i2b, 1)) (k : AtH G X cells slots (pc + 1) lv (vI (wB x) :: st) N h) : AtH G X cells slots pc lv (vI x :: st) N h := by
  obtain ⟨p, l, e, R, s, m, args, below, meth, c, Q, nL⟩ := X
  intro H locs ls hW hS hls
  exact lv_i2b C.1 C.2.1 d (iI_i2b x) (k H locs ls hW hS hls)
theorem r_iand {x y z : Int} (C : Cx G X own cc) (d : decode cc pc = .ok (.iand, 1)) (hz : iI x &&& iI y = iI z) (k : AtH G X cells slots (pc + 1) lv (vI z :: st) N h) : AtH G X cells slots pc lv (vI y :: vI x :: st) N h := by
  obtain ⟨p, l, e, R, s, m, args, below, meth, c, Q, nL⟩ := X
  intro H locs ls hW hS hls
  refine lv_iand C.1 C.2.1 d ?_
  rw [hz]
  exact k H locs ls hW hS hls
theorem r_ior {x y z : Int} (C : Cx G X own cc) (d : decode cc pc = .ok (.ior, 1)) (hz : iI x ||| iI y = iI z) (k : AtH G X cells slots (pc + 1) lv (vI z :: st) N h) : AtH G X cells slots pc lv (vI y :: vI x :: st) N h := by
  obtain ⟨p, l, e, R, s, m, args, below, meth, c, Q, nL⟩ := X
  intro H locs ls hW hS hls
  refine lv_ior C.1 C.2.1 d ?_
  rw [hz]
  exact k H locs ls hW hS hls
theorem r_ixor {x y z : Int} (C : Cx G X own cc) (d : decode cc pc = .ok (.ixor, 1)) (hz : iI x ^^^ iI y = iI z) (k : AtH G X cells slots (pc + 1) lv (vI z :: st) N h) : AtH G X cells slots pc lv (vI y :: vI x :: st) N h := by
  obtain ⟨p, l, e, R, s, m, args, below, meth, c, Q, nL⟩ := X
  intro H locs ls hW hS hls
  refine lv_ixor C.1 C.2.1 d ?_
  rw [hz]
  exact k H locs ls hW hS hls
theorem r_ishl {x y z : Int} (C : Cx G X own cc) (d : decode cc pc = .ok (.ishl, 1)) (hz : iI x <<< (iI y &&& 31) = iI z) (k : AtH G X cells slots (pc + 1) lv (vI z :: st) N h) : AtH G X cells slots pc lv (vI y :: vI x :: st) N h := by
  obtain ⟨p, l, e, R, s, m, args, below, meth, c, Q, nL⟩ := X
  intro H locs ls hW hS hls
  refine lv_ishl C.1 C.2.1 d ?_
  rw [hz]
  exact k H locs ls hW hS hls
theorem r_ishr {x y z : Int} (C : Cx G X own cc) (d : decode cc pc = .ok (.ishr, 1)) (hz : iI x >>> (iI y &&& 31) = iI z) (k : AtH G X cells slots (pc + 1) lv (vI z :: st) N h) : AtH G X cells slots pc lv (vI y :: vI x :: st) N h := by
  obtain ⟨p, l, e, R, s, m, args, below, meth, c, Q, nL⟩ := X
  intro H locs ls hW hS hls
  refine lv_ishr C.1 C.2.1 d ?_
  rw [hz]
  exact k H locs ls hW hS hls
theorem r_iushr {x y z : Int} (C : Cx G X own cc) (d : decode cc pc = .ok (.iushr, 1)) (hz : ((iI x).toUInt32 >>> ((iI y).toUInt32 &&& Int32.toUInt32 31)).toInt32 = iI z) (k : AtH G X cells slots (pc + 1) lv (vI z :: st) N h) : AtH G X cells slots pc lv (vI y :: vI x :: st) N h := by
  obtain ⟨p, l, e, R, s, m, args, below, meth, c, Q, nL⟩ := X
  intro H locs ls hW hS hls
  exact lv_iushr C.1 C.2.1 d hz (k H locs ls hW hS hls)
theorem r_dup {v : Value} (C : Cx G X own cc) (d : decode cc pc = .ok (.dup, 1)) (hv : v.category = 1) (k : AtH G X cells slots (pc + 1) lv (v :: v :: st) N h) : AtH G X cells slots pc lv (v :: st) N h := by
  obtain ⟨p, l, e, R, s, m, args, below, meth, c, Q, nL⟩ := X
  intro H locs ls hW hS hls
  exact lv_dup C.1 C.2.1 d hv (k H locs ls hW hS hls)
theorem r_dup2 {v w : Value} (C : Cx G X own cc) (d : decode cc pc = .ok (.dup2, 1)) (hv : v.category = 1) (hw : w.category = 1) (k : AtH G X cells slots (pc + 1) lv (v :: w :: v :: w :: st) N h) : AtH G X cells slots pc lv (v :: w :: st) N h := by
  obtain ⟨p, l, e, R, s, m, args, below, meth, c, Q, nL⟩ := X
  intro H locs ls hW hS hls
  exact lv_dup2_11 C.1 C.2.1 d hv hw (k H locs ls hW hS hls)
theorem r_pop {v : Value} (C : Cx G X own cc) (d : decode cc pc = .ok (.pop, 1)) (hv : v.category = 1) (k : AtH G X cells slots (pc + 1) lv st N h) : AtH G X cells slots pc lv (v :: st) N h := by
  obtain ⟨p, l, e, R, s, m, args, below, meth, c, Q, nL⟩ := X
  intro H locs ls hW hS hls
  exact lv_pop C.1 C.2.1 d hv (k H locs ls hW hS hls)
theorem r_goto {off : Int} {tgt : Nat} (C : Cx G X own cc) (d : decode cc pc = .ok (.goto off, 3)) (ht : (pc : Int) + off = (tgt : Int)) (k : AtH G X cells slots tgt lv st N h) : AtH G X cells slots pc lv st N h := by
  obtain ⟨p, l, e, R, s, m, args, below, meth, c, Q, nL⟩ := X
  intro H locs ls hW hS hls
  exact lv_goto C.1 C.2.1 d ht (k H locs ls hW hS hls)
theorem r_ifeq {z off : Int} {tgt : Nat} (C : Cx G X own cc) (d : decode cc pc = .ok (.ifCond .eq off, 3)) (ht : (pc : Int) + off = (tgt : Int)) (hz : rg z) (k1 : z = 0 → AtH G X cells slots tgt lv st N h) (k2 : z ≠ 0 → AtH G X cells slots (pc + 3) lv st N h) : AtH G X cells slots pc lv (vI z :: st) N h := by
  obtain ⟨p, l, e, R, s, m, args, below, meth, c, Q, nL⟩ := X
  intro H locs ls hW hS hls
  have e9 : iI z = 0 ↔ z = 0 := iI_eq (b := 0) hz ⟨by omega, by omega⟩
  exact lv_if_eq C.1 C.2.1 d ht (fun q => k1 (e9.mp q) H locs ls hW hS hls) (fun q => k2 (fun z => q (e9.mpr z)) H locs ls hW hS hls)
theorem r_ifne {z off : Int} {tgt : Nat} (C : Cx G X own cc) (d : decode cc pc = .ok (.ifCond .ne off, 3)) (ht : (pc : Int) + off = (tgt : Int)) (hz : rg z) (k1 : z ≠ 0 → AtH G X cells slots tgt lv st N h) (k2 : z = 0 → AtH G X cells slots (pc + 3) lv st N h) : AtH G X cells slots pc lv (vI z :: st) N h := by
  obtain ⟨p, l, e, R, s, m, args, below, meth, c, Q, nL⟩ := X
  intro H locs ls hW hS hls
  have e9 : iI z = 0 ↔ z = 0 := iI_eq (b := 0) hz ⟨by omega, by omega⟩
  exact lv_if_ne C.1 C.2.1 d ht (fun q => k1 (fun z => q (e9.mpr z)) H locs ls hW hS hls) (fun q => k2 (e9.mp q) H locs ls hW hS hls)
theorem r_iflt {z off : Int} {tgt : Nat} (C : Cx G X own cc) (d : decode cc pc = .ok (.ifCond .lt off, 3)) (ht : (pc : Int) + off = (tgt : Int)) (hz : rg z) (k1 : z < 0 → AtH G X cells slots tgt lv st N h) (k2 : ¬ z < 0 → AtH G X cells slots (pc + 3) lv st N h) : AtH G X cells slots pc lv (vI z :: st) N h := by
  obtain ⟨p, l, e, R, s, m, args, below, meth, c, Q, nL⟩ := X
  intro H locs ls hW hS hls
  have e9 : iI z < 0 ↔ z < 0 := iI_lt (b := 0) hz ⟨by omega, by omega⟩
  exact lv_if_lt C.1 C.2.1 d ht (fun q => k1 (e9.mp q) H locs ls hW hS hls) (fun q => k2 (fun z => q (e9.mpr z)) H locs ls hW hS hls)
theorem r_ifge {z off : Int} {tgt : Nat} (C : Cx G X own cc) (d : decode cc pc = .ok (.ifCond .ge off, 3)) (ht : (pc : Int) + off = (tgt : Int)) (hz : rg z) (k1 : 0 ≤ z → AtH G X cells slots tgt lv st N h) (k2 : ¬ 0 ≤ z → AtH G X cells slots (pc + 3) lv st N h) : AtH G X cells slots pc lv (vI z :: st) N h := by
  obtain ⟨p, l, e, R, s, m, args, below, meth, c, Q, nL⟩ := X
  intro H locs ls hW hS hls
  have e9 : 0 ≤ iI z ↔ 0 ≤ z := iI_le (a := 0) ⟨by omega, by omega⟩ hz
  exact lv_if_ge C.1 C.2.1 d ht (fun q => k1 (e9.mp q) H locs ls hW hS hls) (fun q => k2 (fun z => q (e9.mpr z)) H locs ls hW hS hls)
theorem r_ifgt {z off : Int} {tgt : Nat} (C : Cx G X own cc) (d : decode cc pc = .ok (.ifCond .gt off, 3)) (ht : (pc : Int) + off = (tgt : Int)) (hz : rg z) (k1 : 0 < z → AtH G X cells slots tgt lv st N h) (k2 : ¬ 0 < z → AtH G X cells slots (pc + 3) lv st N h) : AtH G X cells slots pc lv (vI z :: st) N h := by
  obtain ⟨p, l, e, R, s, m, args, below, meth, c, Q, nL⟩ := X
  intro H locs ls hW hS hls
  have e9 : 0 < iI z ↔ 0 < z := iI_lt (a := 0) ⟨by omega, by omega⟩ hz
  exact lv_if_gt C.1 C.2.1 d ht (fun q => k1 (e9.mp q) H locs ls hW hS hls) (fun q => k2 (fun z => q (e9.mpr z)) H locs ls hW hS hls)
theorem r_ifle {z off : Int} {tgt : Nat} (C : Cx G X own cc) (d : decode cc pc = .ok (.ifCond .le off, 3)) (ht : (pc : Int) + off = (tgt : Int)) (hz : rg z) (k1 : z ≤ 0 → AtH G X cells slots tgt lv st N h) (k2 : ¬ z ≤ 0 → AtH G X cells slots (pc + 3) lv st N h) : AtH G X cells slots pc lv (vI z :: st) N h := by
  obtain ⟨p, l, e, R, s, m, args, below, meth, c, Q, nL⟩ := X
  intro H locs ls hW hS hls
  have e9 : iI z ≤ 0 ↔ z ≤ 0 := iI_le (b := 0) hz ⟨by omega, by omega⟩
  exact lv_if_le C.1 C.2.1 d ht (fun q => k1 (e9.mp q) H locs ls hW hS hls) (fun q => k2 (fun z => q (e9.mpr z)) H locs ls hW hS hls)
theorem r_icmpeq {x y off : Int} {tgt : Nat} (C : Cx G X own cc) (d : decode cc pc = .ok (.if_icmp .eq off, 3)) (ht : (pc : Int) + off = (tgt : Int)) (hx : rg x) (hy : rg y) (k1 : x = y → AtH G X cells slots tgt lv st N h) (k2 : x ≠ y → AtH G X cells slots (pc + 3) lv st N h) : AtH G X cells slots pc lv (vI y :: vI x :: st) N h := by
  obtain ⟨p, l, e, R, s, m, args, below, meth, c, Q, nL⟩ := X
  intro H locs ls hW hS hls
  have e9 := iI_eq hx hy
  exact lv_icmp_eq C.1 C.2.1 d ht (fun q => k1 (e9.mp q) H locs ls hW hS hls) (fun q => k2 (fun z => q (e9.mpr z)) H locs ls hW hS hls)
theorem r_icmpne {x y off : Int} {tgt : Nat} (C : Cx G X own cc) (d : decode cc pc = .ok (.if_icmp .ne off, 3)) (ht : (pc : Int) + off = (tgt : Int)) (hx : rg x) (hy : rg y) (k1 : x ≠ y → AtH G X cells slots tgt lv st N h) (k2 : x = y → AtH G X cells slots (pc + 3) lv st N h) : AtH G X cells slots pc lv (vI y :: vI x :: st) N h := by
  obtain ⟨p, l, e, R, s, m, args, below, meth, c, Q, nL⟩ := X
  intro H locs ls hW hS hls
  have e9 := iI_eq hx hy
  exact lv_icmp_ne C.1 C.2.1 d ht (fun q => k1 (fun z => q (e9.mpr z)) H locs ls hW hS hls) (fun q => k2 (e9.mp q) H locs ls hW hS hls)
theorem r_icmplt {x y off : Int} {tgt : Nat} (C : Cx G X own cc) (d : decode cc pc = .ok (.if_icmp .lt off, 3)) (ht : (pc : Int) + off = (tgt : Int)) (hx : rg x) (hy : rg y) (k1 : x < y → AtH G X cells slots tgt lv st N h) (k2 : ¬ x < y → AtH G X cells slots (pc + 3) lv st N h) : AtH G X cells slots pc lv (vI y :: vI x :: st) N h := by
  obtain ⟨p, l, e, R, s, m, args, below, meth, c, Q, nL⟩ := X
  intro H locs ls hW hS hls
  have e9 := iI_lt hx hy
  exact lv_icmp_lt C.1 C.2.1 d ht (fun q => k1 (e9.mp q) H locs ls hW hS hls) (fun q => k2 (fun z => q (e9.mpr z)) H locs ls hW hS hls)
theorem r_icmpge {x y off : Int} {tgt : Nat} (C : Cx G X own cc) (d : decode cc pc = .ok (.if_icmp .ge off, 3)) (ht : (pc : Int) + off = (tgt : Int)) (hx : rg x) (hy : rg y) (k1 : y ≤ x → AtH G X cells slots tgt lv st N h) (k2 : ¬ y ≤ x → AtH G X cells slots (pc + 3) lv st N h) : AtH G X cells slots pc lv (vI y :: vI x :: st) N h := by
  obtain ⟨p, l, e, R, s, m, args, below, meth, c, Q, nL⟩ := X
  intro H locs ls hW hS hls
  have e9 := iI_le hy hx
  exact lv_icmp_ge C.1 C.2.1 d ht (fun q => k1 (e9.mp q) H locs ls hW hS hls) (fun q => k2 (fun z => q (e9.mpr z)) H locs ls hW hS hls)
theorem r_icmpgt {x y off : Int} {tgt : Nat} (C : Cx G X own cc) (d : decode cc pc = .ok (.if_icmp .gt off, 3)) (ht : (pc : Int) + off = (tgt : Int)) (hx : rg x) (hy : rg y) (k1 : y < x → AtH G X cells slots tgt lv st N h) (k2 : ¬ y < x → AtH G X cells slots (pc + 3) lv st N h) : AtH G X cells slots pc lv (vI y :: vI x :: st) N h := by
  obtain ⟨p, l, e, R, s, m, args, below, meth, c, Q, nL⟩ := X
  intro H locs ls hW hS hls
  have e9 := iI_lt hy hx
  exact lv_icmp_gt C.1 C.2.1 d ht (fun q => k1 (e9.mp q) H locs ls hW hS hls) (fun q => k2 (fun z => q (e9.mpr z)) H locs ls hW hS hls)
theorem r_icmple {x y off : Int} {tgt : Nat} (C : Cx G X own cc) (d : decode cc pc = .ok (.if_icmp .le off, 3)) (ht : (pc : Int) + off = (tgt : Int)) (hx : rg x) (hy : rg y) (k1 : x ≤ y → AtH G X cells slots tgt lv st N h) (k2 : ¬ x ≤ y → AtH G X cells slots (pc + 3) lv st N h) : AtH G X cells slots pc lv (vI y :: vI x :: st) N h := by
  obtain ⟨p, l, e, R, s, m, args, below, meth, c, Q, nL⟩ := X
  intro H locs ls hW hS hls
  have e9 := iI_le hx hy
  exact lv_icmp_le C.1 C.2.1 d ht (fun q => k1 (e9.mp q) H locs ls hW hS hls) (fun q => k2 (fun z => q (e9.mpr z)) H locs ls hW hS hls)
/-- the same number, in other words -/
theorem r_top {z y : Int} (e : z = y) (k : AtH G X cells slots pc lv (vI y :: st) N h) : AtH G X cells slots pc lv (vI z :: st) N h := e ▸ k
end
end
section
/-! THE ENGINE, its heap: fields, arrays, calls, ends -/
/-- a class of the system: its place, its fields -/
def OI (ci : Nat) (C : String) (T : u_T) (n : Nat) : Prop := cls7[ci]? = some (C, T, n) ∧ (∀ w ∈ u_ws C T n, w ∈ LW) ∧ (∀ k, k < n → parseFieldDescriptor (T k).2.2.1 = some (tyO (T k).2.2.1)) ∧ ∀ a, a < n → ∀ b, b < n → a ≠ b → (T a).2.1 ≠ (T b).2.1
theorem oi0 : OI 0 R0 T0 8 := ⟨rfl, ws0_in, ty0_ok, nm0_ok⟩
theorem oi1 : OI 1 R1 T1 15 := ⟨rfl, ws1_in, ty1_ok, nm1_ok⟩
theorem oi2 : OI 2 R2 T2 6 := ⟨rfl, ws2_in, ty2_ok, nm2_ok⟩
theorem oi3 : OI 3 R3 T3 5 := ⟨rfl, ws3_in, ty3_ok, nm3_ok⟩
theorem oi4 : OI 4 R4 T4 5 := ⟨rfl, ws4_in, ty4_ok, nm4_ok⟩
theorem oi5 : OI 5 R5 T5 14 := ⟨rfl, ws5_in, ty5_ok, nm5_ok⟩
theorem oi6 : OI 6 R6 T6 12 := ⟨rfl, ws6_in, ty6_ok, nm6_ok⟩
theorem oi7 : OI 7 R7 T7 4 := ⟨rfl, ws7_in, ty7_ok, nm7_ok⟩
theorem oi8 : OI 8 R8 T8 4 := ⟨rfl, ws8_in, ty8_ok, nm8_ok⟩
theorem Wd.put {G : GT} {N k : Nat} {h : HT} {e : va_E} {H H1 : Heap} (hW : Wd G N h H) (hk : k < N) (z : H1.size = H.size) (he : va_at (gD G) cls7 (ad G k, e) H1) (oq : ∀ q : Nat, q ≠ ad G k → H1[q]? = H[q]?) : Wd G N (upH h k e) H1 := by
  refine ⟨⟨by rw [z]; exact hW.1.1, hW.1.2.1.kept (fun j x hx => oq x.1 (fun e9 => hW.1.2.2 x (List.mem_of_getElem? hx) (by rw [e9]; exact gR_ad hW.1.1.1))), hW.1.2.2⟩, fun q => by rw [z]; exact hW.2.1 q, ?_⟩
  have h1 := va_P.set hW.2.2 (wsO_D hW.1.1.1) (wsO_get hk) he oq
  rw [wsO_set e hk] at h1
  exact h1
theorem Wd.at {G : GT} {N k : Nat} {h : HT} {H : Heap} (hW : Wd G N h H) (hk : k < N) : va_at (gD G) cls7 (ad G k, h k) H := hW.2.2 k _ (wsO_get hk)
section
variable {G : GT} {X : CT} {cells slots pc N : Nat} {lv : List (Nat × Value)} {st : List Value} {h : HT} {own : String} {cc : ByteArray}
/-- getfield -/
theorem r_gf {a0 : Nat} {idx k ci n sl : Nat} {T : u_T} {K : String} {fs : List Value} {v : Value} (C : Cx G X own cc) (d : decode cc pc = .ok (.getfield idx, 3)) (ha : ad G k = a0) (hk : k < N) (he : h k = .inr (ci, fs)) (o : OI ci K T n) (hsl : sl < n) (hl : .fieldLink own idx (T sl).1 (T sl).2.1 (T sl).2.2.1 ∈ LW) (hv : fs[sl]? = some v) (kk : AtH G X cells slots (pc + 3) lv (v :: st) N h) : AtH G X cells slots pc lv (.ref a0 :: st) N h := by
  obtain ⟨p, l, e, R, s, m, args, below, meth, c, Q, nL⟩ := X
  intro H locs ls hW hS hls
  subst ha
  obtain ⟨hx, hb, hml, hown, hts, hK, -⟩ := C
  exact va_get (D := gD G) (ci := ci) (v := v) (C := K) (T := T) (N := n) (fs := fs) hx hb hts o.2.1 hown hK hW.2.2 k (by rw [wsO_get hk, he]) o.1 sl hsl (hts _ hl) (fun _ h9 => h9) hv d (kk H locs ls hW hS hls)
/-- putfield of a field that isn't final -/
theorem r_pf {a0 : Nat} {idx k ci n sl : Nat} {T : u_T} {K : String} {fs : List Value} {v : Value} {ty : FieldType} (C : Cx G X own cc) (d : decode cc pc = .ok (.putfield idx, 3)) (ha : ad G k = a0) (hk : k < N) (he : h k = .inr (ci, fs)) (o : OI ci K T n) (hsl : sl < n) (hl : .fieldLink own idx (T sl).1 (T sl).2.1 (T sl).2.2.1 ∈ LW) (hfin : (T sl).2.2.2 = false) (hd : parseFieldDescriptor (T sl).2.2.1 = some ty) (hn : narrow ty v = v) (hfit : fits ty v = true) (hlen : sl < fs.length)
    (kk : AtH G X cells slots (pc + 3) lv st N (upH h k (.inr (ci, fs.set sl v)))) : AtH G X cells slots pc lv (v :: .ref a0 :: st) N h := by
  obtain ⟨p, l, e, R, s, m, args, below, meth, c, Q, nL⟩ := X
  intro H locs ls hW hS hls
  subst ha
  obtain ⟨hx, hb, hml, hown, hts, hK, -⟩ := C
  have hap := va_apart (own := own) hts o.2.1 (fun k => tyO (T k).2.2.1) o.2.2.1 o.2.2.2 hK o.1
  have h9 := hW.at hk
  rw [he] at h9
  obtain ⟨r, h1, cell, q1, q2, q3, q4⟩ := h9
  have hr : r = (K, T, n) := Option.some.inj (h1.symm.trans o.1)
  subst hr
  obtain ⟨hSl, hfc, kC, hkC, hkind⟩ := hK.1 ci _ o.1
  obtain ⟨cf, kf, fi, f, hi, hsl2⟩ := hSl sl hsl
  have hlay := hts _ (o.2.1 _ (u_in_lay hsl))
  unfold u_lay at hlay
  rw [if_neg (by rw [hfin]; decide)] at hlay
  have hst := (u_facts hfc hkC (u_lays hts o.2.1 hsl) hi).1
  have h6 := u_store hfc hkC hkind hlay hi hd hn hfit
  refine W.putK hx hb (f := f) ⟨hown, hts _ hl, ⟨_, _, _, hi⟩, hst⟩ (by rw [q2]; exact h6) q1 q3 (by rw [hsl2]; exact k2_hasslot (q4 sl hsl)) rfl rfl d fun H' e1 e2 e3 => ?_
  rw [hsl2] at e1 ⊢
  exact kk H' _ ls (hW.put hk e2 ⟨_, o.1, t_OB.to (V := updV (vp_V fs) sl v) ⟨_, e1, q2, q3, t_set q4 hap hsl v⟩ (fun j _ => vp_updV_set hlen v j)⟩ e3) (hS.put e2 e3 (gR_ad hW.1.1.1)) hls
/-- array reads -/
theorem r_iald {a0 : Nat} {k n : Nat} {row : Nat → Int} {j : Int} (C : Cx G X own cc) (d : decode cc pc = .ok (.iaload, 1)) (ha : ad G k = a0) (hk : k < N) (he : h k = arI (gA G 0) n row) (h0 : 0 ≤ j) (h1 : j < n) (hn : (n : Int) ≤ 2147483647) (kk : AtH G X cells slots (pc + 1) lv (vI (row j.toNat) :: st) N h) : AtH G X cells slots pc lv (vI j :: .ref a0 :: st) N h := by
  obtain ⟨p, l, e, R, s, m, args, below, meth, c, Q, nL⟩ := X
  intro H locs ls hW hS hls
  subst ha
  refine va_iald (D := gD G) C.1 C.2.1 C.2.2.2.2.2.1 hW.2.2 k 0 (n := n) (f := fun i => iI (row i)) (by rw [wsO_get hk, he]; rfl) rfl (iI_in h0 h1 hn) d ?_
  rw [iI_clamp h0 ⟨by omega, by omega⟩]
  exact kk H locs ls hW hS hls
theorem r_zald {a0 : Nat} {k n : Nat} {row : Nat → Int} {j : Int} (C : Cx G X own cc) (d : decode cc pc = .ok (.baload, 1)) (ha : ad G k = a0) (hk : k < N) (he : h k = arI (gA G 1) n row) (h0 : 0 ≤ j) (h1 : j < n) (hn : (n : Int) ≤ 2147483647) (kk : AtH G X cells slots (pc + 1) lv (vI (row j.toNat) :: st) N h) : AtH G X cells slots pc lv (vI j :: .ref a0 :: st) N h := by
  obtain ⟨p, l, e, R, s, m, args, below, meth, c, Q, nL⟩ := X
  intro H locs ls hW hS hls
  subst ha
  refine va_zald (D := gD G) C.1 C.2.1 C.2.2.2.2.2.1 hW.2.2 k 1 (n := n) (f := fun i => iI (row i)) (by rw [wsO_get hk, he]; rfl) rfl (iI_in h0 h1 hn) d ?_
  rw [iI_clamp h0 ⟨by omega, by omega⟩]
  exact kk H locs ls hW hS hls
theorem r_bald {a0 : Nat} {k n : Nat} {row : Nat → Int} {j : Int} (C : Cx G X own cc) (d : decode cc pc = .ok (.baload, 1)) (ha : ad G k = a0) (hk : k < N) (he : h k = arI (gA G 2) n row) (h0 : 0 ≤ j) (h1 : j < n) (hn : (n : Int) ≤ 2147483647) (kk : AtH G X cells slots (pc + 1) lv (vI (row j.toNat) :: st) N h) : AtH G X cells slots pc lv (vI j :: .ref a0 :: st) N h := by
  obtain ⟨p, l, e, R, s, m, args, below, meth, c, Q, nL⟩ := X
  intro H locs ls hW hS hls
  subst ha
  refine va_bald (D := gD G) C.1 C.2.1 C.2.2.2.2.2.1 hW.2.2 k 2 (n := n) (f := fun i => iI (row i)) (by rw [wsO_get hk, he]; rfl) rfl (iI_in h0 h1 hn) d ?_
  rw [iI_clamp h0 ⟨by omega, by omega⟩]
  exact kk H locs ls hW hS hls
theorem r_aald4 {a0 : Nat} {k n a : Nat} {f : Nat → Option Nat} {j : Int} (C : Cx G X own cc) (d : decode cc pc = .ok (.aaload, 1)) (ha : ad G k = a0) (hk : k < N) (he : h k = arR (gA G 4) n f) (h0 : 0 ≤ j) (h1 : j < n) (hn : (n : Int) ≤ 2147483647) (hf : f j.toNat = some a) (kk : AtH G X cells slots (pc + 1) lv (.ref a :: st) N h) : AtH G X cells slots pc lv (vI j :: .ref a0 :: st) N h := by
  obtain ⟨p, l, e, R, s, m, args, below, meth, c, Q, nL⟩ := X
  intro H locs ls hW hS hls
  subst ha
  refine va_aldq (D := gD G) C.1 C.2.1 C.2.2.2.2.2.1 hW.2.2 k 4 (n := n) (f := f) (C := R4) (by rw [wsO_get hk, he]; rfl) rfl (iI_in h0 h1 hn) d ?_
  rw [iI_clamp h0 ⟨by omega, by omega⟩, hf]
  exact kk H locs ls hW hS hls
theorem r_aald5 {a0 : Nat} {k n a : Nat} {f : Nat → Option Nat} {j : Int} (C : Cx G X own cc) (d : decode cc pc = .ok (.aaload, 1)) (ha : ad G k = a0) (hk : k < N) (he : h k = arR (gA G 5) n f) (h0 : 0 ≤ j) (h1 : j < n) (hn : (n : Int) ≤ 2147483647) (hf : f j.toNat = some a) (kk : AtH G X cells slots (pc + 1) lv (.ref a :: st) N h) : AtH G X cells slots pc lv (vI j :: .ref a0 :: st) N h := by
  obtain ⟨p, l, e, R, s, m, args, below, meth, c, Q, nL⟩ := X
  intro H locs ls hW hS hls
  subst ha
  refine va_aldq (D := gD G) C.1 C.2.1 C.2.2.2.2.2.1 hW.2.2 k 5 (n := n) (f := f) (C := R1) (by rw [wsO_get hk, he]; rfl) rfl (iI_in h0 h1 hn) d ?_
  rw [iI_clamp h0 ⟨by omega, by omega⟩, hf]
  exact kk H locs ls hW hS hls
theorem r_alen2 {a0 : Nat} {k n : Nat} {row : Nat → Int} (C : Cx G X own cc) (d : decode cc pc = .ok (.arraylength, 1)) (ha : ad G k = a0) (hk : k < N) (he : h k = arI (gA G 2) n row) (kk : AtH G X cells slots (pc + 1) lv (vI (n : Int) :: st) N h) : AtH G X cells slots pc lv (.ref a0 :: st) N h := by
  obtain ⟨p, l, e, R, s, m, args, below, meth, c, Q, nL⟩ := X
  intro H locs ls hW hS hls
  subst ha
  exact va_alen (D := gD G) (x := (n, .inl (fun i => iI (row i)))) (v := iI (n : Int)) (cA := gA G 2) C.1 C.2.1 C.2.2.2.2.2.1 hW.2.2 k 2 (by rw [wsO_get hk, he]; rfl) rfl (iI_nI n) d (kk H locs ls hW hS hls)
theorem arI_up {cA : ClassId} {n : Nat} {row : Nat → Int} {j z : Int} (h0 : 0 ≤ j) (hj : rg j) : ((Sum.inl (cA, n, .inl (upd (fun i => iI (row i)) (iI j).toNatClampNeg (iI z)))) : va_E) = arI cA n (updI row j.toNat z) := by
  unfold arI
  congr 4
  funext q
  rw [iI_clamp h0 hj]
  unfold upd updI
  split <;> rfl
/-- array writes -/
theorem r_iast {a0 : Nat} {k n : Nat} {row : Nat → Int} {j z : Int} (C : Cx G X own cc) (d : decode cc pc = .ok (.iastore, 1)) (ha : ad G k = a0) (hk : k < N) (he : h k = arI (gA G 0) n row) (h0 : 0 ≤ j) (h1 : j < n) (hn : (n : Int) ≤ 2147483647) (kk : AtH G X cells slots (pc + 1) lv st N (upH h k (arI (gA G 0) n (updI row j.toNat z)))) : AtH G X cells slots pc lv (vI z :: vI j :: .ref a0 :: st) N h := by
  obtain ⟨p, l, e, R, s, m, args, below, meth, c, Q, nL⟩ := X
  intro H locs ls hW hS hls
  subst ha
  have h9 := hW.at hk
  rw [he] at h9
  have hin := iI_in h0 h1 hn
  refine W.iast (cell := arrV (gA G 0) n (fun i => .int (iI (row i)))) C.1 C.2.1 h9 ((C.2.2.2.2.2.1.2 0 _ rfl).1 n (fun j => .int (iI (row j)))) (fun q => by cases q) (by rw [arrV_size]; exact hin) rfl rfl d fun H1 e z1 oq => ?_
  refine kk H1 _ ls (hW.put hk z1 ?_ oq) (hS.put z1 oq (gR_ad hW.1.1.1)) hls
  show H1[ad G k]? = some (vp_cell _ _)
  rw [e, vp_cell_i, arrV_store]
  congr 2
  funext q
  rw [iI_clamp h0 ⟨by omega, by omega⟩]
  by_cases hq : q = j.toNat
  · simp [updV, updI, hq]
  · simp [updV, updI, hq]
theorem r_bast {a0 : Nat} {k n : Nat} {row : Nat → Int} {j z : Int} (C : Cx G X own cc) (d : decode cc pc = .ok (.bastore, 1)) (ha : ad G k = a0) (hk : k < N) (he : h k = arI (gA G 2) n row) (h0 : 0 ≤ j) (h1 : j < n) (hn : (n : Int) ≤ 2147483647) (kk : AtH G X cells slots (pc + 1) lv st N (upH h k (arI (gA G 2) n (updI row j.toNat (wB z))))) : AtH G X cells slots pc lv (vI z :: vI j :: .ref a0 :: st) N h := by
  obtain ⟨p, l, e, R, s, m, args, below, meth, c, Q, nL⟩ := X
  intro H locs ls hW hS hls
  subst ha
  have h9 := hW.at hk
  rw [he] at h9
  have hin := iI_in h0 h1 hn
  refine W.bast (cell := arrV (gA G 2) n (fun i => .int (iI (row i)))) C.1 C.2.1 h9 ((C.2.2.2.2.2.1.2 2 _ rfl).1 n (fun j => .int (iI (row j)))) (fun q => by cases q) (by rw [arrV_size]; exact hin) rfl rfl d fun H1 e z1 oq => ?_
  refine kk H1 _ ls (hW.put hk z1 ?_ oq) (hS.put z1 oq (gR_ad hW.1.1.1)) hls
  show H1[ad G k]? = some (vp_cell _ _)
  rw [e, vp_cell_i, arrV_store]
  congr 2
  funext q
  rw [iI_clamp h0 ⟨by omega, by omega⟩]
  have e8 : narrow .byte (.int (iI z)) = .int (iI (wB z)) := by rw [narrow_byte, iI_i2b]
  by_cases hq : q = j.toNat
  · simp only [updV, updI, hq, if_true]
    first | exact e8 | (rw [← iI_i2b])
  · simp [updV, updI, hq]
theorem r_zast {a0 : Nat} {k n : Nat} {row : Nat → Int} {j z : Int} (C : Cx G X own cc) (d : decode cc pc = .ok (.bastore, 1)) (ha : ad G k = a0) (hk : k < N) (he : h k = arI (gA G 1) n row) (h0 : 0 ≤ j) (h1 : j < n) (hn : (n : Int) ≤ 2147483647) (hz : z = 0 ∨ z = 1) (kk : AtH G X cells slots (pc + 1) lv st N (upH h k (arI (gA G 1) n (updI row j.toNat z)))) : AtH G X cells slots pc lv (vI z :: vI j :: .ref a0 :: st) N h := by
  obtain ⟨p, l, e, R, s, m, args, below, meth, c, Q, nL⟩ := X
  intro H locs ls hW hS hls
  subst ha
  have h9 := hW.at hk
  rw [he] at h9
  have hin := iI_in h0 h1 hn
  refine W.zast (cell := arrV (gA G 1) n (fun i => .int (iI (row i)))) C.1 C.2.1 h9 ((C.2.2.2.2.2.1.2 1 _ rfl).1 n (fun j => .int (iI (row j)))) (fun q => by cases q) (by rw [arrV_size]; exact hin) rfl rfl d fun H1 e z1 oq => ?_
  refine kk H1 _ ls (hW.put hk z1 ?_ oq) (hS.put z1 oq (gR_ad hW.1.1.1)) hls
  show H1[ad G k]? = some (vp_cell _ _)
  rw [e, vp_cell_i, arrV_store]
  congr 2
  funext q
  rw [iI_clamp h0 ⟨by omega, by omega⟩]
  have e8 : narrow .boolean (.int (iI z)) = .int (iI z) := by rcases hz with e | e <;> subst e <;> rfl
  by_cases hq : q = j.toNat
  · simp only [updV, updI, hq, if_true]
    first | exact e8 | rfl
  · simp [updV, updI, hq]
/-- a call by the receiver's class; it may throw what this method hands on -/
theorem r_callV {a0 : Nat} {idx kk0 nLy n dy mc ms d0 mc0 ms0 : Nat} {y : MethodName} {ccy : ByteArray} {ret ret0 : Option FieldType} {As rest st0 : List Value} {post : Option Value → Nat → HT → Prop} {postX : String → Nat → HT → Prop} {p0 : Option Value → Nat → HT → Prop} {pX0 : String → Nat → HT → Prop} {ci : Nat} {fs : List Value}
    (C : Cx G X own cc) (M : Mx G X d0 mc0 ms0 ret0 p0 pX0) (d : decode cc pc = .ok (.invokevirtual idx, 3)) (wl : .methodLink own idx y ∈ LW) (wy : YV y ccy nLy ret n) (hE : EvH G (xl X) y ccy nLy ret dy mc ms (.ref a0 :: As) N h post postX) (hst : st0 = As.reverse ++ .ref a0 :: rest) (hn : As.length = n) (ha : ad G kk0 = a0) (hk : kk0 < N) (he : h kk0 = .inr (ci, fs)) (hci : (cls7[ci]?).map (fun q => q.1) = some y.cls)
    (hcat : (rest.map fun v => v.category).sum ≤ 8) (hd : dy + 1 ≤ d0) (hnl : nLy ≤ 21) (hmc : cells + mc ≤ mc0) (hms : slots + ms ≤ ms0)
    (hx : ∀ (E : String) (N' : Nat) (h' : HT), postX E N' h' → pX0 E N' h')
    (kk : ∀ (v : Option Value) (N' : Nat) (h' : HT), post v N' h' → AtH G X (cells + mc) (slots + ms) (pc + 3) lv (v.toList ++ rest) N' h') : AtH G X cells slots pc lv st0 N h := by
  obtain ⟨p, l, e, R, s, m, args, below, meth, c, Q, nL⟩ := X
  intro H locs ls hW hS hls
  subst ha
  obtain ⟨hR, hQ, -, htab⟩ := M
  subst hR
  obtain ⟨hexec, hb, hml, hown, hts, hK, hF, hlocks, -, hbs⟩ := C
  obtain ⟨w1, w2, w3, w4, w5, w6⟩ := wy
  have hcb : CallB (rmD d0 mc0 ms0) s args own idx y ccy nLy ret (.code y ccy nLy ret :: LW) (rmD dy mc ms) mc ms n := LW_callB hts wl w3 w4 w5 w6 (by show dy + 1 ≤ d0; exact hd) (by show 8 + (nLy + 11) + 40 * dy ≤ 40 * d0; omega)
  have hA : ∀ q, q < H.size → gR G q → gR G q := fun _ _ q => q
  have hwat := hW.at hk
  rw [he] at hwat
  obtain ⟨r9, hr9, cell9, q1, q2, q3, -⟩ := hwat
  have hcls : s.vm.findClass y.cls = some cell9.cls := by
    have h1 := (hK.1 ci r9 hr9).2.1
    rw [hr9] at hci
    have h2 : r9.1 = y.cls := Option.some.inj hci
    rw [← h2, q2]
    exact h1
  have hpre : PreV s H y.cls (ad G kk0) (PH G (.ref (ad G kk0) :: As) N h) As := by
    refine ⟨PH_blind, ⟨cell9, q1, by rw [q3]; rfl, hcls⟩, fun U hU hWm => ⟨rfl, by rw [hU]; exact hW, va_K.moved hWm.alike hK, ?_⟩⟩
    rw [hU]
    exact (hF.kept (fun a h1 h2 => hS.2.1 a h1 h2)).moved hWm
  have hrun := vx_runV (H := H) (locs := locs) (cells := cells) (slots := slots) (p := p) (e := e) (below := below) (meth := meth) (rest := rest) (As := As) (b := ad G kk0) (g := F0 m pc ls st0) ⟨hexec, hb, hml, hown, hts⟩ hE ⟨hcb, hts _ w1, hts _ w2⟩ hpre rfl hn hls.1 hst (lv_room hcat) d ⟨hmc, hms⟩
  intro T hT X0
  rcases hrun T hT X0 with ⟨v, st₀, t, T', L, h0, X', hL, e1, e2, ⟨v', N', h', hv, hp, hWd, hFr⟩, stp⟩ | ⟨q, st₀, t, T', L, E, ce, h0, X', hL, e1, e2, ⟨N', h', hp, hWd, hFr⟩, hce, hcv, hcl, stp⟩
  · cases hv
    obtain ⟨k1, k2, k3⟩ := vx_keep h0 e1 hS hA (fun _ q => q) hL hFr
    obtain ⟨t2, a1, b1⟩ := kk v N' h' hp T'.heap (locs ++ L) ls (by rw [e1]; exact hWd) k3 hls T' rfl X'
    exact ⟨t2, stp t2 a1, b1⟩
  · obtain ⟨k1, k2, k3⟩ := vx_keep h0 e1 hS hA (fun _ q => q) hL hFr
    subst hQ
    have hout := vx_out (p := p) (l := l) (e := e) (R := rmD d0 mc0 ms0) (args := args) (below := below) (Qc := QH G p0) (XC := XH G pX0) (meth := meth) (c := c) (pc := pc) (ls := ls) (rest := rest) (free := gR G) (m := m) (H := T'.heap) (locs := locs ++ L) (fun x hx9 => (htab x hx9).elim) hlocks (by rw [e1]; exact hce) hcv hcl (fun t9 ht9 hal9 => ⟨N', h', hx E N' h' hp, by rw [ht9, e1]; exact hWd, k3.F ht9⟩) k3.2.2 hmc hms
    obtain ⟨t2, a1, b1⟩ := hout T' rfl X'
    exact ⟨t2, stp.trans a1, b1⟩
/-- a call of a static method -/
theorem r_callS {idx nLy n dy mc ms d0 mc0 ms0 : Nat} {y : MethodName} {ccy : ByteArray} {ret ret0 : Option FieldType} {As rest st0 : List Value} {post : Option Value → Nat → HT → Prop} {postX : String → Nat → HT → Prop} {p0 : Option Value → Nat → HT → Prop} {pX0 : String → Nat → HT → Prop}
    (C : Cx G X own cc) (M : Mx G X d0 mc0 ms0 ret0 p0 pX0) (d : decode cc pc = .ok (.invokestatic idx, 3)) (wl : .methodLink own idx y ∈ LW) (wy : YS y ccy nLy ret n) (hE : EvH G (xl X) y ccy nLy ret dy mc ms As N h post postX) (hst : st0 = As.reverse ++ rest) (hn : As.length = n)
    (hcat : (rest.map fun v => v.category).sum ≤ 8) (hd : dy + 1 ≤ d0) (hnl : nLy ≤ 21) (hmc : cells + mc ≤ mc0) (hms : slots + ms ≤ ms0)
    (hx : ∀ (E : String) (N' : Nat) (h' : HT), postX E N' h' → pX0 E N' h')
    (kk : ∀ (v : Option Value) (N' : Nat) (h' : HT), post v N' h' → AtH G X (cells + mc) (slots + ms) (pc + 3) lv (v.toList ++ rest) N' h') : AtH G X cells slots pc lv st0 N h := by
  obtain ⟨p, l, e, R, s, m, args, below, meth, c, Q, nL⟩ := X
  intro H locs ls hW hS hls
  obtain ⟨hR, hQ, -, htab⟩ := M
  subst hR
  obtain ⟨hexec, hb, hml, hown, hts, hK, hF, hlocks, -, hbs⟩ := C
  obtain ⟨w2, w3, w4, w5, w6⟩ := wy
  have hcb : CallB (rmD d0 mc0 ms0) s args own idx y ccy nLy ret (.code y ccy nLy ret :: LW) (rmD dy mc ms) mc ms n := LW_callB hts wl w3 w4 w5 w6 (by show dy + 1 ≤ d0; exact hd) (by show 8 + (nLy + 11) + 40 * dy ≤ 40 * d0; omega)
  have hA : ∀ q, q < H.size → gR G q → gR G q := fun _ _ q => q
  have hpre : PreS s H (PH G As N h) As := by
    refine ⟨PH_blind, fun U hU hWm => ⟨rfl, by rw [hU]; exact hW, va_K.moved hWm.alike hK, ?_⟩⟩
    rw [hU]
    exact (hF.kept (fun a h1 h2 => hS.2.1 a h1 h2)).moved hWm
  have hrun := vx_runS (H := H) (locs := locs) (cells := cells) (slots := slots) (p := p) (e := e) (below := below) (meth := meth) (rest := rest) (As := As) (g := F0 m pc ls st0) ⟨hexec, hb, hml, hown, hts⟩ hE ⟨hcb, hts _ w2⟩ hpre rfl hn hls.1 hst (lv_room hcat) d ⟨hmc, hms⟩
  intro T hT X0
  rcases hrun T hT X0 with ⟨v, st₀, t, T', L, h0, X', hL, e1, e2, ⟨v', N', h', hv, hp, hWd, hFr⟩, stp⟩ | ⟨q, st₀, t, T', L, E, ce, h0, X', hL, e1, e2, ⟨N', h', hp, hWd, hFr⟩, hce, hcv, hcl, stp⟩
  · cases hv
    obtain ⟨k1, k2, k3⟩ := vx_keep h0 e1 hS hA (fun _ q => q) hL hFr
    obtain ⟨t2, a1, b1⟩ := kk v N' h' hp T'.heap (locs ++ L) ls (by rw [e1]; exact hWd) k3 hls T' rfl X'
    exact ⟨t2, stp t2 a1, b1⟩
  · obtain ⟨k1, k2, k3⟩ := vx_keep h0 e1 hS hA (fun _ q => q) hL hFr
    subst hQ
    have hout := vx_out (p := p) (l := l) (e := e) (R := rmD d0 mc0 ms0) (args := args) (below := below) (Qc := QH G p0) (XC := XH G pX0) (meth := meth) (c := c) (pc := pc) (ls := ls) (rest := rest) (free := gR G) (m := m) (H := T'.heap) (locs := locs ++ L) (fun x hx9 => (htab x hx9).elim) hlocks (by rw [e1]; exact hce) hcv hcl (fun t9 ht9 hal9 => ⟨N', h', hx E N' h' hp, by rw [ht9, e1]; exact hWd, k3.F ht9⟩) k3.2.2 hmc hms
    obtain ⟨t2, a1, b1⟩ := hout T' rfl X'
    exact ⟨t2, stp.trans a1, b1⟩
/-- the ends -/
theorem r_iret {d0 mc0 ms0 : Nat} {ty : FieldType} {post : Option Value → Nat → HT → Prop} {postX : String → Nat → HT → Prop} {z : Int} (C : Cx G X own cc) (M : Mx G X d0 mc0 ms0 (some ty) post postX) (d : decode cc pc = .ok (.ireturn, 1)) (hn : narrow ty (vI z) = vI z) (hmc : cells ≤ mc0) (hms : slots ≤ ms0) (hp : post (some (vI z)) N h) : AtH G X cells slots pc lv [vI z] N h := by
  obtain ⟨p, l, e, R, s, m, args, below, meth, c, Q, nL⟩ := X
  intro H locs ls hW hS hls
  obtain ⟨hR, hQ, hr, -⟩ := M
  have hlocks : meth.locks = false := C.2.2.2.2.2.2.2.1
  subst hQ
  refine W.widen hmc hms (vx_ret ?_)
  exact W.zret C.1 C.2.1 hr hn (fun t ht hW9 => ⟨_, N, h, rfl, hp, by rw [ht]; exact hW, hS.F ht⟩) hS.2.2 d hlocks
theorem r_vret {d0 mc0 ms0 : Nat} {post : Option Value → Nat → HT → Prop} {postX : String → Nat → HT → Prop} (C : Cx G X own cc) (M : Mx G X d0 mc0 ms0 none post postX) (d : decode cc pc = .ok (.return_, 1)) (hmc : cells ≤ mc0) (hms : slots ≤ ms0) (hp : post none N h) : AtH G X cells slots pc lv [] N h := by
  obtain ⟨p, l, e, R, s, m, args, below, meth, c, Q, nL⟩ := X
  intro H locs ls hW hS hls
  obtain ⟨hR, hQ, hr, -⟩ := M
  have hlocks : meth.locks = false := C.2.2.2.2.2.2.2.1
  subst hQ
  refine W.widen hmc hms (vx_ret ?_)
  exact W.vret C.1 C.2.1 hr (fun t ht hW9 => ⟨none, N, h, rfl, hp, by rw [ht]; exact hW, hS.F ht⟩) hS.2.2 d hlocks
end
/-- a contract out of a body's walk -/
theorem ev_of {G : GT} {l : Launch} {y : MethodName} {cc : ByteArray} {nL : Nat} {ret : Option FieldType} {d mc ms : Nat} {av : List Value} {N : Nat} {h : HT} {post : Option Value → Nat → HT → Prop} {postX : String → Nat → HT → Prop} (hlt : l.stackTraces = false) (hy : plainName y.cls = true) (hlen : (lg_sl av).length ≤ nL) (hav : ∀ q ∈ lv_args 0 av, q.2.category = 1) (hnd : (lv_args 0 av).all (fun q => decide ((lv_args 0 av).lookup q.1 = some q.2)) = true ∨ True)
    (body : ∀ X : CT, xl X = l → xN X = nL → Cx G X y.cls cc → Mx G X d mc ms ret post postX → AtH G X 0 0 0 (lv_args 0 av) [] N h) : EvH G l y cc nL ret d mc ms av N h post postX := by
  refine vx_ofW hy rfl ?_
  intro p e s m args below meth c s₁ B hml ht hv
  obtain ⟨rfl, hW, hK, hF⟩ := hv
  have hts := atoms_spec (ws := .code y cc nL ret :: LW) B.pre
  have hl := lv_entry av hlen
  rw [lg_entry_eq]
  generalize (lg_sl av ++ List.replicate (nL - (lg_sl av).length) Slot.unset).toArray = ls at hl ⊢
  have hb9 : gB G ≤ s.heap.size := by have := hW.1; omega
  refine body (p, l, e, rmD d mc ms, s, m, av.toArray, below, meth, c, vx_MQ below (QH G post) (XH G postX) av.toArray s mc ms (gR G), nL) rfl rfl
    ⟨B.exec, B.bytes, hml, findClass_of_methodNamed B.named, fun w hw => hts w (List.mem_cons_of_mem _ hw), hK, hF, B.notSynchronized, hlt, hb9⟩ ⟨rfl, rfl, B.returns, ht⟩ s.heap [] ls hW va_S.rf ⟨hl.1, hl.2.1, fun i v hi => ?_⟩
  have hm : (i, v) ∈ lv_args 0 av := by
    clear hl hnd hav
    revert hi
    generalize lv_args 0 av = lw
    intro hi
    induction lw with
    | nil => simp at hi
    | cons a l9 ih =>
      rw [List.lookup_cons] at hi
      by_cases e9 : i = a.1
      · subst e9
        simp at hi
        subst hi
        exact List.mem_cons_self
      · have hb : (i == a.1) = false := by simp [e9]
        rw [hb] at hi
        exact List.mem_cons_of_mem _ (ih hi)
  exact ⟨hl.2.2 _ hm, hav _ hm⟩
end
section
/-! rows over numbered cells: the heap as numbers V k i -/
theorem celP_0 {b c : Nat} {A : Nat → ClassId} {p : Nat} (hp : p < 10) : ∀ r, celOf b c A (aP p) r = obPlan b (aP p) r := by
  intro r
  have : p = 0 ∨ p = 1 ∨ p = 2 ∨ p = 3 ∨ p = 4 ∨ p = 5 ∨ p = 6 ∨ p = 7 ∨ p = 8 ∨ p = 9 := by omega
  rcases this with h | h | h | h | h | h | h | h | h | h <;> subst h <;> rfl
theorem celP_I {b c : Nat} {A : Nat → ClassId} {p j : Nat} (hp : p < 10) (hj : j = 1 ∨ j = 3 ∨ j = 4) : ∀ r, celOf b c A (aP p + j) r = arI (A 0) 20 r := by
  intro r
  have : p = 0 ∨ p = 1 ∨ p = 2 ∨ p = 3 ∨ p = 4 ∨ p = 5 ∨ p = 6 ∨ p = 7 ∨ p = 8 ∨ p = 9 := by omega
  rcases hj with e | e | e <;> subst e <;> rcases this with h | h | h | h | h | h | h | h | h | h <;> subst h <;> rfl
theorem celP_Z {b c : Nat} {A : Nat → ClassId} {p : Nat} (hp : p < 10) : ∀ r, celOf b c A (aP p + 2) r = arI (A 1) 20 r := by
  intro r
  have : p = 0 ∨ p = 1 ∨ p = 2 ∨ p = 3 ∨ p = 4 ∨ p = 5 ∨ p = 6 ∨ p = 7 ∨ p = 8 ∨ p = 9 := by omega
  rcases this with h | h | h | h | h | h | h | h | h | h <;> subst h <;> rfl
theorem celP_J {b c : Nat} {A : Nat → ClassId} {p j : Nat} (hp : p < 10) (hj : j = 5 ∨ j = 7 ∨ j = 8) : ∀ r, celOf b c A (aP p + j) r = arI (A 0) 8 r := by
  intro r
  have : p = 0 ∨ p = 1 ∨ p = 2 ∨ p = 3 ∨ p = 4 ∨ p = 5 ∨ p = 6 ∨ p = 7 ∨ p = 8 ∨ p = 9 := by omega
  rcases hj with e | e | e <;> subst e <;> rcases this with h | h | h | h | h | h | h | h | h | h <;> subst h <;> rfl
theorem celP_Y {b c : Nat} {A : Nat → ClassId} {p : Nat} (hp : p < 10) : ∀ r, celOf b c A (aP p + 6) r = arI (A 1) 8 r := by
  intro r
  have : p = 0 ∨ p = 1 ∨ p = 2 ∨ p = 3 ∨ p = 4 ∨ p = 5 ∨ p = 6 ∨ p = 7 ∨ p = 8 ∨ p = 9 := by omega
  rcases this with h | h | h | h | h | h | h | h | h | h <;> subst h <;> rfl
theorem celS_0 {b c : Nat} {A : Nat → ClassId} {q : Nat} (hq : q < 2) : ∀ r, celOf b c A (aS q) r = obSetup b (aS q) r := by
  intro r
  have : q = 0 ∨ q = 1 := by omega
  rcases this with h | h <;> subst h <;> rfl
theorem celS_A {b c : Nat} {A : Nat → ClassId} {q : Nat} (hq : q < 2) : ∀ r, celOf b c A (aS q + 1) r = arR (A 4) 10 (fun i => some (b + (aS q + (2 + 2 * i)))) := by
  intro r
  have : q = 0 ∨ q = 1 := by omega
  rcases this with h | h <;> subst h <;> (show arR _ _ _ = arR _ _ _) <;> congr 1 <;> funext i <;> congr 2 <;> unfold aS <;> omega
theorem celS_H {b c : Nat} {A : Nat → ClassId} {q i : Nat} (hq : q < 2) (hi : i < 10) : ∀ r, celOf b c A (aS q + (2 + 2 * i)) r = obShip b (aS q + (2 + 2 * i)) r := by
  intro r
  have h1 : q = 0 ∨ q = 1 := by omega
  have : i = 0 ∨ i = 1 ∨ i = 2 ∨ i = 3 ∨ i = 4 ∨ i = 5 ∨ i = 6 ∨ i = 7 ∨ i = 8 ∨ i = 9 := by omega
  rcases h1 with e | e <;> subst e <;> rcases this with h | h | h | h | h | h | h | h | h | h <;> subst h <;> rfl
theorem celS_N {b c : Nat} {A : Nat → ClassId} {q i : Nat} (hq : q < 2) (hi : i < 10) : ∀ r, celOf b c A (aS q + (2 + 2 * i) + 1) r = arI (A 2) 6 r := by
  intro r
  have h1 : q = 0 ∨ q = 1 := by omega
  have : i = 0 ∨ i = 1 ∨ i = 2 ∨ i = 3 ∨ i = 4 ∨ i = 5 ∨ i = 6 ∨ i = 7 ∨ i = 8 ∨ i = 9 := by omega
  rcases h1 with e | e <;> subst e <;> rcases this with h | h | h | h | h | h | h | h | h | h <;> subst h <;> rfl
theorem aP_lt {p j : Nat} (hp : p < 10) (hj : j < 9) : aP p + j < 148 := by unfold aP; split <;> omega
theorem aP_lt0 {p : Nat} (hp : p < 10) : aP p < 148 := aP_lt (j := 0) hp (by omega)
theorem aS_lt {q j : Nat} (hq : q < 2) (hj : j < 22) : aS q + j < 148 := by unfold aS; omega
theorem aS_lt0 {q : Nat} (hq : q < 2) : aS q < 148 := aS_lt (j := 0) hq (by omega)
theorem hV_up {G : GT} {V : VV} {k i : Nat} {z : Int} {e : va_E} (he : celOf (gB G) (gC G) (gA G) k (updI (V k) i z) = e) : ∀ j, j < gN G → upH (hV G V) k e j = hV G (up2 V k i z) j := by
  intro j _
  unfold upH hV up2
  split
  · rename_i h; subst h; exact he.symm
  · rfl
section
variable {G : GT} {X : CT} {cells slots pc : Nat} {lv : List (Nat × Value)} {st : List Value} {V : VV} {own : String} {cc : ByteArray}
theorem v_gf {a0 : Nat} {idx k ci n sl : Nat} {T : u_T} {K : String} {fs : (Nat → Int) → List Value} {v : Value} (C : Cx G X own cc) (d : decode cc pc = .ok (.getfield idx, 3)) (hl : .fieldLink own idx (T sl).1 (T sl).2.1 (T sl).2.2.1 ∈ LW) (ha : ad G k = a0) (hk : k < gN G) (cf : ∀ r, celOf (gB G) (gC G) (gA G) k r = .inr (ci, fs r)) (o : OI ci K T n) (hsl : sl < n) (hv : (fs (V k))[sl]? = some v) (kk : At G X cells slots (pc + 3) lv (v :: st) V) : At G X cells slots pc lv (.ref a0 :: st) V :=
  r_gf C d ha hk (cf _) o hsl hl hv kk
theorem v_pf {a0 : Nat} {idx k ci n sl : Nat} {T : u_T} {K : String} {fs : (Nat → Int) → List Value} {z : Int} (C : Cx G X own cc) (d : decode cc pc = .ok (.putfield idx, 3)) (hl : .fieldLink own idx (T sl).1 (T sl).2.1 (T sl).2.2.1 ∈ LW) (ha : ad G k = a0) (hk : k < gN G) (cf : ∀ r, celOf (gB G) (gC G) (gA G) k r = .inr (ci, fs r)) (o : OI ci K T n) (hsl : sl < n) (hfin : (T sl).2.2.2 = false) (hd : parseFieldDescriptor (T sl).2.2.1 = some .int) (hlen : ∀ r, sl < (fs r).length) (hset : ∀ r, (fs r).set sl (vI z) = fs (updI r sl z))
    (kk : At G X cells slots (pc + 3) lv st (up2 V k sl z)) : At G X cells slots pc lv (vI z :: .ref a0 :: st) V := by
  refine r_pf C d ha hk (cf _) o hsl hl hfin hd rfl rfl (hlen _) (AtH.e (hV_up ?_) kk)
  rw [cf, hset]
theorem v_iald {a0 : Nat} {k n : Nat} {j : Int} (C : Cx G X own cc) (d : decode cc pc = .ok (.iaload, 1)) (ha : ad G k = a0) (hk : k < gN G) (ca : ∀ r, celOf (gB G) (gC G) (gA G) k r = arI (gA G 0) n r) (h0 : 0 ≤ j) (h1 : j < n) (hn : (n : Int) ≤ 2147483647) (kk : At G X cells slots (pc + 1) lv (vI (V k j.toNat) :: st) V) : At G X cells slots pc lv (vI j :: .ref a0 :: st) V :=
  r_iald C d ha hk (ca _) h0 h1 hn kk
theorem v_zald {a0 : Nat} {k n : Nat} {j : Int} (C : Cx G X own cc) (d : decode cc pc = .ok (.baload, 1)) (ha : ad G k = a0) (hk : k < gN G) (ca : ∀ r, celOf (gB G) (gC G) (gA G) k r = arI (gA G 1) n r) (h0 : 0 ≤ j) (h1 : j < n) (hn : (n : Int) ≤ 2147483647) (kk : At G X cells slots (pc + 1) lv (vI (V k j.toNat) :: st) V) : At G X cells slots pc lv (vI j :: .ref a0 :: st) V :=
  r_zald C d ha hk (ca _) h0 h1 hn kk
theorem v_bald {a0 : Nat} {k n : Nat} {j : Int} (C : Cx G X own cc) (d : decode cc pc = .ok (.baload, 1)) (ha : ad G k = a0) (hk : k < gN G) (ca : ∀ r, celOf (gB G) (gC G) (gA G) k r = arI (gA G 2) n r) (h0 : 0 ≤ j) (h1 : j < n) (hn : (n : Int) ≤ 2147483647) (kk : At G X cells slots (pc + 1) lv (vI (V k j.toNat) :: st) V) : At G X cells slots pc lv (vI j :: .ref a0 :: st) V :=
  r_bald C d ha hk (ca _) h0 h1 hn kk
theorem v_iast {a0 : Nat} {k n : Nat} {j z : Int} (C : Cx G X own cc) (d : decode cc pc = .ok (.iastore, 1)) (ha : ad G k = a0) (hk : k < gN G) (ca : ∀ r, celOf (gB G) (gC G) (gA G) k r = arI (gA G 0) n r) (h0 : 0 ≤ j) (h1 : j < n) (hn : (n : Int) ≤ 2147483647) (kk : At G X cells slots (pc + 1) lv st (up2 V k j.toNat z)) : At G X cells slots pc lv (vI z :: vI j :: .ref a0 :: st) V :=
  r_iast C d ha hk (ca _) h0 h1 hn (AtH.e (hV_up (ca _)) kk)
theorem v_zast {a0 : Nat} {k n : Nat} {j z : Int} (C : Cx G X own cc) (d : decode cc pc = .ok (.bastore, 1)) (ha : ad G k = a0) (hk : k < gN G) (ca : ∀ r, celOf (gB G) (gC G) (gA G) k r = arI (gA G 1) n r) (h0 : 0 ≤ j) (h1 : j < n) (hn : (n : Int) ≤ 2147483647) (hz : z = 0 ∨ z = 1) (kk : At G X cells slots (pc + 1) lv st (up2 V k j.toNat z)) : At G X cells slots pc lv (vI z :: vI j :: .ref a0 :: st) V :=
  r_zast C d ha hk (ca _) h0 h1 hn hz (AtH.e (hV_up (ca _)) kk)
theorem v_bast {a0 : Nat} {k n : Nat} {j z : Int} (C : Cx G X own cc) (d : decode cc pc = .ok (.bastore, 1)) (ha : ad G k = a0) (hk : k < gN G) (ca : ∀ r, celOf (gB G) (gC G) (gA G) k r = arI (gA G 2) n r) (h0 : 0 ≤ j) (h1 : j < n) (hn : (n : Int) ≤ 2147483647) (kk : At G X cells slots (pc + 1) lv st (up2 V k j.toNat (wB z))) : At G X cells slots pc lv (vI z :: vI j :: .ref a0 :: st) V :=
  r_bast C d ha hk (ca _) h0 h1 hn (AtH.e (hV_up (ca _)) kk)
/-- calls -/
theorem v_callV {a0 : Nat} {idx kk0 nLy n dy mc ms d0 mc0 ms0 : Nat} {y : MethodName} {ccy : ByteArray} {ret ret0 : Option FieldType} {As rest st0 : List Value} {post : Option Value → VV → Prop} {postX : String → VV → Prop} {p0 : Option Value → VV → Prop} {pX0 : String → VV → Prop} {ci : Nat} {fs : (Nat → Int) → List Value}
    (C : Cx G X own cc) (M : Mx G X d0 mc0 ms0 ret0 (vP G p0) (vX G pX0)) (d : decode cc pc = .ok (.invokevirtual idx, 3)) (wl : .methodLink own idx y ∈ LW) (wy : YV y ccy nLy ret n) (ha : ad G kk0 = a0) (hk : kk0 < gN G) (cf : ∀ r, celOf (gB G) (gC G) (gA G) kk0 r = .inr (ci, fs r)) (hci : (cls7[ci]?).map (fun q => q.1) = some y.cls) (hE : Ev G (xl X) y ccy nLy ret dy mc ms (.ref a0 :: As) V post postX) (hst : st0 = As.reverse ++ .ref a0 :: rest) (hn : As.length = n)
    (hcat : (rest.map fun v => v.category).sum ≤ 8) (hd : dy + 1 ≤ d0) (hnl : nLy ≤ 21) (hmc : cells + mc ≤ mc0) (hms : slots + ms ≤ ms0)
    (hx : ∀ (E : String) (V' : VV), postX E V' → pX0 E V')
    (kk : ∀ (v : Option Value) (V' : VV), post v V' → At G X (cells + mc) (slots + ms) (pc + 3) lv (v.toList ++ rest) V') : At G X cells slots pc lv st0 V :=
  r_callV C M d wl wy hE hst hn ha hk (cf _) hci hcat hd hnl hmc hms (fun E N' h' q => by obtain ⟨q1, V', q2, q3⟩ := q; exact ⟨q1, V', q2, hx E V' q3⟩) (fun v N' h' q => by obtain ⟨q1, V', q2, q3⟩ := q; subst q1; subst q2; exact kk v V' q3)
theorem v_callS {idx nLy n dy mc ms d0 mc0 ms0 : Nat} {y : MethodName} {ccy : ByteArray} {ret ret0 : Option FieldType} {As rest st0 : List Value} {post : Option Value → VV → Prop} {postX : String → VV → Prop} {p0 : Option Value → VV → Prop} {pX0 : String → VV → Prop}
    (C : Cx G X own cc) (M : Mx G X d0 mc0 ms0 ret0 (vP G p0) (vX G pX0)) (d : decode cc pc = .ok (.invokestatic idx, 3)) (wl : .methodLink own idx y ∈ LW) (wy : YS y ccy nLy ret n) (hE : Ev G (xl X) y ccy nLy ret dy mc ms As V post postX) (hst : st0 = As.reverse ++ rest) (hn : As.length = n)
    (hcat : (rest.map fun v => v.category).sum ≤ 8) (hd : dy + 1 ≤ d0) (hnl : nLy ≤ 21) (hmc : cells + mc ≤ mc0) (hms : slots + ms ≤ ms0)
    (hx : ∀ (E : String) (V' : VV), postX E V' → pX0 E V')
    (kk : ∀ (v : Option Value) (V' : VV), post v V' → At G X (cells + mc) (slots + ms) (pc + 3) lv (v.toList ++ rest) V') : At G X cells slots pc lv st0 V :=
  r_callS C M d wl wy hE hst hn hcat hd hnl hmc hms (fun E N' h' q => by obtain ⟨q1, V', q2, q3⟩ := q; exact ⟨q1, V', q2, hx E V' q3⟩) (fun v N' h' q => by obtain ⟨q1, V', q2, q3⟩ := q; subst q1; subst q2; exact kk v V' q3)
/-- a method that answers z and changes nothing -/
abbrev EvP (G : GT) (l : Launch) (y : MethodName) (cc : ByteArray) (nL : Nat) (ret : Option FieldType) (d : Nat) (av : List Value) (V : VV) (z : Int) : Prop := Ev G l y cc nL ret d 0 0 av V (fun v V' => v = some (vI z) ∧ V' = V) noX
theorem v_callVp {a0 : Nat} {idx kk0 nLy n dy d0 mc0 ms0 : Nat} {y : MethodName} {ccy : ByteArray} {ret ret0 : Option FieldType} {As rest st0 : List Value} {z : Int} {p0 : Option Value → VV → Prop} {pX0 : String → VV → Prop} {ci : Nat} {fs : (Nat → Int) → List Value}
    (C : Cx G X own cc) (M : Mx G X d0 mc0 ms0 ret0 (vP G p0) (vX G pX0)) (d : decode cc pc = .ok (.invokevirtual idx, 3)) (wl : .methodLink own idx y ∈ LW) (wy : YV y ccy nLy ret n) (ha : ad G kk0 = a0) (hk : kk0 < gN G) (cf : ∀ r, celOf (gB G) (gC G) (gA G) kk0 r = .inr (ci, fs r)) (hci : (cls7[ci]?).map (fun q => q.1) = some y.cls) (hE : EvP G (xl X) y ccy nLy ret dy (.ref a0 :: As) V z) (hst : st0 = As.reverse ++ .ref a0 :: rest) (hn : As.length = n)
    (hcat : (rest.map fun v => v.category).sum ≤ 8) (hd : dy + 1 ≤ d0) (hnl : nLy ≤ 21) (hmc : cells ≤ mc0) (hms : slots ≤ ms0)
    (kk : At G X cells slots (pc + 3) lv (vI z :: rest) V) : At G X cells slots pc lv st0 V :=
  v_callV C M d wl wy ha hk cf hci hE hst hn hcat hd hnl hmc hms (fun E V' q => q.elim) (fun v V' q => by obtain ⟨q1, q2⟩ := q; subst q1; subst q2; exact kk)
theorem v_callSp {idx nLy n dy d0 mc0 ms0 : Nat} {y : MethodName} {ccy : ByteArray} {ret ret0 : Option FieldType} {As rest st0 : List Value} {z : Int} {p0 : Option Value → VV → Prop} {pX0 : String → VV → Prop}
    (C : Cx G X own cc) (M : Mx G X d0 mc0 ms0 ret0 (vP G p0) (vX G pX0)) (d : decode cc pc = .ok (.invokestatic idx, 3)) (wl : .methodLink own idx y ∈ LW) (wy : YS y ccy nLy ret n) (hE : EvP G (xl X) y ccy nLy ret dy As V z) (hst : st0 = As.reverse ++ rest) (hn : As.length = n)
    (hcat : (rest.map fun v => v.category).sum ≤ 8) (hd : dy + 1 ≤ d0) (hnl : nLy ≤ 21) (hmc : cells ≤ mc0) (hms : slots ≤ ms0)
    (kk : At G X cells slots (pc + 3) lv (vI z :: rest) V) : At G X cells slots pc lv st0 V :=
  v_callS C M d wl wy hE hst hn hcat hd hnl hmc hms (fun E V' q => q.elim) (fun v V' q => by obtain ⟨q1, q2⟩ := q; subst q1; subst q2; exact kk)
/-- the ends -/
theorem v_iret {d0 mc0 ms0 : Nat} {post : Option Value → VV → Prop} {postX : String → VV → Prop} {z : Int} (C : Cx G X own cc) (M : Mx G X d0 mc0 ms0 (some .int) (vP G post) (vX G postX)) (d : decode cc pc = .ok (.ireturn, 1)) (hmc : cells ≤ mc0) (hms : slots ≤ ms0) (hp : post (some (vI z)) V) : At G X cells slots pc lv [vI z] V :=
  r_iret C M d rfl hmc hms ⟨rfl, V, rfl, hp⟩
theorem v_zret {d0 mc0 ms0 : Nat} {post : Option Value → VV → Prop} {postX : String → VV → Prop} {z : Int} (C : Cx G X own cc) (M : Mx G X d0 mc0 ms0 (some .boolean) (vP G post) (vX G postX)) (d : decode cc pc = .ok (.ireturn, 1)) (hmc : cells ≤ mc0) (hms : slots ≤ ms0) (hz : z = 0 ∨ z = 1) (hp : post (some (vI z)) V) : At G X cells slots pc lv [vI z] V :=
  r_iret C M d (by rcases hz with e | e <;> subst e <;> rfl) hmc hms ⟨rfl, V, rfl, hp⟩
theorem v_vret {d0 mc0 ms0 : Nat} {post : Option Value → VV → Prop} {postX : String → VV → Prop} (C : Cx G X own cc) (M : Mx G X d0 mc0 ms0 none (vP G post) (vX G postX)) (d : decode cc pc = .ok (.return_, 1)) (hmc : cells ≤ mc0) (hms : slots ≤ ms0) (hp : post none V) : At G X cells slots pc lv [] V :=
  r_vret C M d hmc hms ⟨rfl, V, rfl, hp⟩
end
end
section
/-! names of the class: codes, words, decode rows (printed by names.py) -/
abbrev b0_init : ByteArray := prog_2_method_1_code
def y0_init : MethodName := ⟨"ChannelSchedule$Input", "<init>", "()V"⟩
theorem w0_init : YI y0_init b0_init 1 0 := ⟨LW_i 64 (by decide +kernel) (by decide +kernel), LW_i 29 (by decide +kernel) (by decide +kernel), LW_i 65 (by decide +kernel) (by decide +kernel), by decide +kernel, by decide +kernel, rfl⟩
theorem d0_init_0 : decode b0_init 0 = .ok (.aload_n 0, 1) := by decide +kernel
theorem d0_init_1 : decode b0_init 1 = .ok (.invokespecial 3, 3) := by decide +kernel
theorem d0_init_4 : decode b0_init 4 = .ok (.aload_n 0, 1) := by decide +kernel
theorem d0_init_5 : decode b0_init 5 = .ok (.sipush 600, 3) := by decide +kernel
theorem d0_init_8 : decode b0_init 8 = .ok (.newarray .byte, 2) := by decide +kernel
theorem d0_init_10 : decode b0_init 10 = .ok (.putfield 9, 3) := by decide +kernel
theorem d0_init_13 : decode b0_init 13 = .ok (.aload_n 0, 1) := by decide +kernel
theorem d0_init_14 : decode b0_init 14 = .ok (.iconst 0, 1) := by decide +kernel
theorem d0_init_15 : decode b0_init 15 = .ok (.putfield 15, 3) := by decide +kernel
theorem d0_init_18 : decode b0_init 18 = .ok (.aload_n 0, 1) := by decide +kernel
theorem d0_init_19 : decode b0_init 19 = .ok (.iconst 0, 1) := by decide +kernel
theorem d0_init_20 : decode b0_init 20 = .ok (.putfield 19, 3) := by decide +kernel
theorem d0_init_23 : decode b0_init 23 = .ok (.aload_n 0, 1) := by decide +kernel
theorem d0_init_24 : decode b0_init 24 = .ok (.iconst (-1), 1) := by decide +kernel
theorem d0_init_25 : decode b0_init 25 = .ok (.putfield 22, 3) := by decide +kernel
theorem d0_init_28 : decode b0_init 28 = .ok (.aload_n 0, 1) := by decide +kernel
theorem d0_init_29 : decode b0_init 29 = .ok (.iconst 0, 1) := by decide +kernel
theorem d0_init_30 : decode b0_init 30 = .ok (.putfield 25, 3) := by decide +kernel
theorem d0_init_33 : decode b0_init 33 = .ok (.aload_n 0, 1) := by decide +kernel
theorem d0_init_34 : decode b0_init 34 = .ok (.iconst 0, 1) := by decide +kernel
theorem d0_init_35 : decode b0_init 35 = .ok (.putfield 28, 3) := by decide +kernel
theorem d0_init_38 : decode b0_init 38 = .ok (.aload_n 0, 1) := by decide +kernel
theorem d0_init_39 : decode b0_init 39 = .ok (.iconst 0, 1) := by decide +kernel
theorem d0_init_40 : decode b0_init 40 = .ok (.putfield 31, 3) := by decide +kernel
theorem d0_init_43 : decode b0_init 43 = .ok (.aload_n 0, 1) := by decide +kernel
theorem d0_init_44 : decode b0_init 44 = .ok (.iconst 0, 1) := by decide +kernel
theorem d0_init_45 : decode b0_init 45 = .ok (.putfield 34, 3) := by decide +kernel
theorem d0_init_48 : decode b0_init 48 = .ok (.return_, 1) := by decide +kernel
abbrev b0_putByte : ByteArray := prog_2_method_2_code
def y0_putByte : MethodName := ⟨"ChannelSchedule$Input", "putByte", "(I)V"⟩
theorem w0_putByte : YV y0_putByte b0_putByte 2 none 1 := ⟨LW_i 297 (by decide +kernel) (by decide +kernel), LW_i 298 (by decide +kernel) (by decide +kernel), LW_i 29 (by decide +kernel) (by decide +kernel), LW_i 299 (by decide +kernel) (by decide +kernel), by decide +kernel, by decide +kernel⟩
theorem d0_putByte_0 : decode b0_putByte 0 = .ok (.aload_n 0, 1) := by decide +kernel
theorem d0_putByte_1 : decode b0_putByte 1 = .ok (.getfield 15, 3) := by decide +kernel
theorem d0_putByte_4 : decode b0_putByte 4 = .ok (.aload_n 0, 1) := by decide +kernel
theorem d0_putByte_5 : decode b0_putByte 5 = .ok (.getfield 9, 3) := by decide +kernel
theorem d0_putByte_8 : decode b0_putByte 8 = .ok (.arraylength, 1) := by decide +kernel
theorem d0_putByte_9 : decode b0_putByte 9 = .ok (.if_icmp .ge 24, 3) := by decide +kernel
theorem d0_putByte_12 : decode b0_putByte 12 = .ok (.aload_n 0, 1) := by decide +kernel
theorem d0_putByte_13 : decode b0_putByte 13 = .ok (.getfield 9, 3) := by decide +kernel
theorem d0_putByte_16 : decode b0_putByte 16 = .ok (.aload_n 0, 1) := by decide +kernel
theorem d0_putByte_17 : decode b0_putByte 17 = .ok (.getfield 15, 3) := by decide +kernel
theorem d0_putByte_20 : decode b0_putByte 20 = .ok (.iload_n 1, 1) := by decide +kernel
theorem d0_putByte_21 : decode b0_putByte 21 = .ok (.i2b, 1) := by decide +kernel
theorem d0_putByte_22 : decode b0_putByte 22 = .ok (.bastore, 1) := by decide +kernel
theorem d0_putByte_23 : decode b0_putByte 23 = .ok (.aload_n 0, 1) := by decide +kernel
theorem d0_putByte_24 : decode b0_putByte 24 = .ok (.dup, 1) := by decide +kernel
theorem d0_putByte_25 : decode b0_putByte 25 = .ok (.getfield 15, 3) := by decide +kernel
theorem d0_putByte_28 : decode b0_putByte 28 = .ok (.iconst 1, 1) := by decide +kernel
theorem d0_putByte_29 : decode b0_putByte 29 = .ok (.iadd, 1) := by decide +kernel
theorem d0_putByte_30 : decode b0_putByte 30 = .ok (.putfield 15, 3) := by decide +kernel
theorem d0_putByte_33 : decode b0_putByte 33 = .ok (.return_, 1) := by decide +kernel
abbrev b0_putFour : ByteArray := prog_2_method_3_code
def y0_putFour : MethodName := ⟨"ChannelSchedule$Input", "putFour", "(I)V"⟩
theorem w0_putFour : YV y0_putFour b0_putFour 2 none 1 := ⟨LW_i 825 (by decide +kernel) (by decide +kernel), LW_i 826 (by decide +kernel) (by decide +kernel), LW_i 29 (by decide +kernel) (by decide +kernel), LW_i 827 (by decide +kernel) (by decide +kernel), by decide +kernel, by decide +kernel⟩
theorem d0_putFour_0 : decode b0_putFour 0 = .ok (.aload_n 0, 1) := by decide +kernel
theorem d0_putFour_1 : decode b0_putFour 1 = .ok (.iload_n 1, 1) := by decide +kernel
theorem d0_putFour_2 : decode b0_putFour 2 = .ok (.bipush 24, 2) := by decide +kernel
theorem d0_putFour_4 : decode b0_putFour 4 = .ok (.iushr, 1) := by decide +kernel
theorem d0_putFour_5 : decode b0_putFour 5 = .ok (.invokevirtual 37, 3) := by decide +kernel
theorem d0_putFour_8 : decode b0_putFour 8 = .ok (.aload_n 0, 1) := by decide +kernel
theorem d0_putFour_9 : decode b0_putFour 9 = .ok (.iload_n 1, 1) := by decide +kernel
theorem d0_putFour_10 : decode b0_putFour 10 = .ok (.bipush 16, 2) := by decide +kernel
theorem d0_putFour_12 : decode b0_putFour 12 = .ok (.iushr, 1) := by decide +kernel
theorem d0_putFour_13 : decode b0_putFour 13 = .ok (.invokevirtual 37, 3) := by decide +kernel
theorem d0_putFour_16 : decode b0_putFour 16 = .ok (.aload_n 0, 1) := by decide +kernel
theorem d0_putFour_17 : decode b0_putFour 17 = .ok (.iload_n 1, 1) := by decide +kernel
theorem d0_putFour_18 : decode b0_putFour 18 = .ok (.bipush 8, 2) := by decide +kernel
theorem d0_putFour_20 : decode b0_putFour 20 = .ok (.iushr, 1) := by decide +kernel
theorem d0_putFour_21 : decode b0_putFour 21 = .ok (.invokevirtual 37, 3) := by decide +kernel
theorem d0_putFour_24 : decode b0_putFour 24 = .ok (.aload_n 0, 1) := by decide +kernel
theorem d0_putFour_25 : decode b0_putFour 25 = .ok (.iload_n 1, 1) := by decide +kernel
theorem d0_putFour_26 : decode b0_putFour 26 = .ok (.invokevirtual 37, 3) := by decide +kernel
theorem d0_putFour_29 : decode b0_putFour 29 = .ok (.return_, 1) := by decide +kernel
abbrev b0_startReading : ByteArray := prog_2_method_4_code
def y0_startReading : MethodName := ⟨"ChannelSchedule$Input", "startReading", "()V"⟩
theorem w0_startReading : YV y0_startReading b0_startReading 1 none 0 := ⟨LW_i 305 (by decide +kernel) (by decide +kernel), LW_i 306 (by decide +kernel) (by decide +kernel), LW_i 29 (by decide +kernel) (by decide +kernel), LW_i 307 (by decide +kernel) (by decide +kernel), by decide +kernel, by decide +kernel⟩
theorem d0_startReading_0 : decode b0_startReading 0 = .ok (.aload_n 0, 1) := by decide +kernel
theorem d0_startReading_1 : decode b0_startReading 1 = .ok (.iconst 0, 1) := by decide +kernel
theorem d0_startReading_2 : decode b0_startReading 2 = .ok (.putfield 19, 3) := by decide +kernel
theorem d0_startReading_5 : decode b0_startReading 5 = .ok (.aload_n 0, 1) := by decide +kernel
theorem d0_startReading_6 : decode b0_startReading 6 = .ok (.iconst (-1), 1) := by decide +kernel
theorem d0_startReading_7 : decode b0_startReading 7 = .ok (.putfield 22, 3) := by decide +kernel
theorem d0_startReading_10 : decode b0_startReading 10 = .ok (.aload_n 0, 1) := by decide +kernel
theorem d0_startReading_11 : decode b0_startReading 11 = .ok (.iconst 0, 1) := by decide +kernel
theorem d0_startReading_12 : decode b0_startReading 12 = .ok (.putfield 31, 3) := by decide +kernel
theorem d0_startReading_15 : decode b0_startReading 15 = .ok (.aload_n 0, 1) := by decide +kernel
theorem d0_startReading_16 : decode b0_startReading 16 = .ok (.invokevirtual 41, 3) := by decide +kernel
theorem d0_startReading_19 : decode b0_startReading 19 = .ok (.return_, 1) := by decide +kernel
abbrev b0_readToken : ByteArray := prog_2_method_5_code
def y0_readToken : MethodName := ⟨"ChannelSchedule$Input", "readToken", "()V"⟩
theorem w0_readToken : YV y0_readToken b0_readToken 1 none 0 := ⟨LW_i 309 (by decide +kernel) (by decide +kernel), LW_i 310 (by decide +kernel) (by decide +kernel), LW_i 29 (by decide +kernel) (by decide +kernel), LW_i 311 (by decide +kernel) (by decide +kernel), by decide +kernel, by decide +kernel⟩
theorem d0_readToken_0 : decode b0_readToken 0 = .ok (.aload_n 0, 1) := by decide +kernel
theorem d0_readToken_1 : decode b0_readToken 1 = .ok (.getfield 31, 3) := by decide +kernel
theorem d0_readToken_4 : decode b0_readToken 4 = .ok (.aload_n 0, 1) := by decide +kernel
theorem d0_readToken_5 : decode b0_readToken 5 = .ok (.getfield 15, 3) := by decide +kernel
theorem d0_readToken_8 : decode b0_readToken 8 = .ok (.if_icmp .ge 32, 3) := by decide +kernel
theorem d0_readToken_11 : decode b0_readToken 11 = .ok (.aload_n 0, 1) := by decide +kernel
theorem d0_readToken_12 : decode b0_readToken 12 = .ok (.getfield 9, 3) := by decide +kernel
theorem d0_readToken_15 : decode b0_readToken 15 = .ok (.aload_n 0, 1) := by decide +kernel
theorem d0_readToken_16 : decode b0_readToken 16 = .ok (.getfield 31, 3) := by decide +kernel
theorem d0_readToken_19 : decode b0_readToken 19 = .ok (.baload, 1) := by decide +kernel
theorem d0_readToken_20 : decode b0_readToken 20 = .ok (.invokestatic 44, 3) := by decide +kernel
theorem d0_readToken_23 : decode b0_readToken 23 = .ok (.iconst 5, 1) := by decide +kernel
theorem d0_readToken_24 : decode b0_readToken 24 = .ok (.if_icmp .ne 16, 3) := by decide +kernel
theorem d0_readToken_27 : decode b0_readToken 27 = .ok (.aload_n 0, 1) := by decide +kernel
theorem d0_readToken_28 : decode b0_readToken 28 = .ok (.dup, 1) := by decide +kernel
theorem d0_readToken_29 : decode b0_readToken 29 = .ok (.getfield 31, 3) := by decide +kernel
theorem d0_readToken_32 : decode b0_readToken 32 = .ok (.iconst 1, 1) := by decide +kernel
theorem d0_readToken_33 : decode b0_readToken 33 = .ok (.iadd, 1) := by decide +kernel
theorem d0_readToken_34 : decode b0_readToken 34 = .ok (.putfield 31, 3) := by decide +kernel
theorem d0_readToken_37 : decode b0_readToken 37 = .ok (.goto (-37), 3) := by decide +kernel
theorem d0_readToken_40 : decode b0_readToken 40 = .ok (.aload_n 0, 1) := by decide +kernel
theorem d0_readToken_41 : decode b0_readToken 41 = .ok (.aload_n 0, 1) := by decide +kernel
theorem d0_readToken_42 : decode b0_readToken 42 = .ok (.getfield 31, 3) := by decide +kernel
theorem d0_readToken_45 : decode b0_readToken 45 = .ok (.putfield 28, 3) := by decide +kernel
theorem d0_readToken_48 : decode b0_readToken 48 = .ok (.aload_n 0, 1) := by decide +kernel
theorem d0_readToken_49 : decode b0_readToken 49 = .ok (.getfield 31, 3) := by decide +kernel
theorem d0_readToken_52 : decode b0_readToken 52 = .ok (.aload_n 0, 1) := by decide +kernel
theorem d0_readToken_53 : decode b0_readToken 53 = .ok (.getfield 15, 3) := by decide +kernel
theorem d0_readToken_56 : decode b0_readToken 56 = .ok (.if_icmp .lt 9, 3) := by decide +kernel
theorem d0_readToken_59 : decode b0_readToken 59 = .ok (.aload_n 0, 1) := by decide +kernel
theorem d0_readToken_60 : decode b0_readToken 60 = .ok (.iconst 0, 1) := by decide +kernel
theorem d0_readToken_61 : decode b0_readToken 61 = .ok (.putfield 25, 3) := by decide +kernel
theorem d0_readToken_64 : decode b0_readToken 64 = .ok (.return_, 1) := by decide +kernel
theorem d0_readToken_65 : decode b0_readToken 65 = .ok (.aload_n 0, 1) := by decide +kernel
theorem d0_readToken_66 : decode b0_readToken 66 = .ok (.aload_n 0, 1) := by decide +kernel
theorem d0_readToken_67 : decode b0_readToken 67 = .ok (.getfield 9, 3) := by decide +kernel
theorem d0_readToken_70 : decode b0_readToken 70 = .ok (.aload_n 0, 1) := by decide +kernel
theorem d0_readToken_71 : decode b0_readToken 71 = .ok (.getfield 31, 3) := by decide +kernel
theorem d0_readToken_74 : decode b0_readToken 74 = .ok (.baload, 1) := by decide +kernel
theorem d0_readToken_75 : decode b0_readToken 75 = .ok (.invokestatic 44, 3) := by decide +kernel
theorem d0_readToken_78 : decode b0_readToken 78 = .ok (.putfield 25, 3) := by decide +kernel
theorem d0_readToken_81 : decode b0_readToken 81 = .ok (.aload_n 0, 1) := by decide +kernel
theorem d0_readToken_82 : decode b0_readToken 82 = .ok (.dup, 1) := by decide +kernel
theorem d0_readToken_83 : decode b0_readToken 83 = .ok (.getfield 31, 3) := by decide +kernel
theorem d0_readToken_86 : decode b0_readToken 86 = .ok (.iconst 1, 1) := by decide +kernel
theorem d0_readToken_87 : decode b0_readToken 87 = .ok (.iadd, 1) := by decide +kernel
theorem d0_readToken_88 : decode b0_readToken 88 = .ok (.putfield 31, 3) := by decide +kernel
theorem d0_readToken_91 : decode b0_readToken 91 = .ok (.aload_n 0, 1) := by decide +kernel
theorem d0_readToken_92 : decode b0_readToken 92 = .ok (.getfield 25, 3) := by decide +kernel
theorem d0_readToken_95 : decode b0_readToken 95 = .ok (.iconst 1, 1) := by decide +kernel
theorem d0_readToken_96 : decode b0_readToken 96 = .ok (.if_icmp .eq 11, 3) := by decide +kernel
theorem d0_readToken_99 : decode b0_readToken 99 = .ok (.aload_n 0, 1) := by decide +kernel
theorem d0_readToken_100 : decode b0_readToken 100 = .ok (.getfield 25, 3) := by decide +kernel
theorem d0_readToken_103 : decode b0_readToken 103 = .ok (.iconst 2, 1) := by decide +kernel
theorem d0_readToken_104 : decode b0_readToken 104 = .ok (.if_icmp .ne 7, 3) := by decide +kernel
theorem d0_readToken_107 : decode b0_readToken 107 = .ok (.aload_n 0, 1) := by decide +kernel
theorem d0_readToken_108 : decode b0_readToken 108 = .ok (.invokevirtual 48, 3) := by decide +kernel
theorem d0_readToken_111 : decode b0_readToken 111 = .ok (.return_, 1) := by decide +kernel
abbrev b0_readRun : ByteArray := prog_2_method_6_code
def y0_readRun : MethodName := ⟨"ChannelSchedule$Input", "readRun", "()V"⟩
theorem w0_readRun : YV y0_readRun b0_readRun 2 none 0 := ⟨LW_i 316 (by decide +kernel) (by decide +kernel), LW_i 317 (by decide +kernel) (by decide +kernel), LW_i 29 (by decide +kernel) (by decide +kernel), LW_i 318 (by decide +kernel) (by decide +kernel), by decide +kernel, by decide +kernel⟩
theorem d0_readRun_0 : decode b0_readRun 0 = .ok (.aload_n 0, 1) := by decide +kernel
theorem d0_readRun_1 : decode b0_readRun 1 = .ok (.getfield 31, 3) := by decide +kernel
theorem d0_readRun_4 : decode b0_readRun 4 = .ok (.aload_n 0, 1) := by decide +kernel
theorem d0_readRun_5 : decode b0_readRun 5 = .ok (.getfield 15, 3) := by decide +kernel
theorem d0_readRun_8 : decode b0_readRun 8 = .ok (.if_icmp .ge 35, 3) := by decide +kernel
theorem d0_readRun_11 : decode b0_readRun 11 = .ok (.aload_n 0, 1) := by decide +kernel
theorem d0_readRun_12 : decode b0_readRun 12 = .ok (.getfield 9, 3) := by decide +kernel
theorem d0_readRun_15 : decode b0_readRun 15 = .ok (.aload_n 0, 1) := by decide +kernel
theorem d0_readRun_16 : decode b0_readRun 16 = .ok (.getfield 31, 3) := by decide +kernel
theorem d0_readRun_19 : decode b0_readRun 19 = .ok (.baload, 1) := by decide +kernel
theorem d0_readRun_20 : decode b0_readRun 20 = .ok (.invokestatic 44, 3) := by decide +kernel
theorem d0_readRun_23 : decode b0_readRun 23 = .ok (.aload_n 0, 1) := by decide +kernel
theorem d0_readRun_24 : decode b0_readRun 24 = .ok (.getfield 25, 3) := by decide +kernel
theorem d0_readRun_27 : decode b0_readRun 27 = .ok (.if_icmp .ne 16, 3) := by decide +kernel
theorem d0_readRun_30 : decode b0_readRun 30 = .ok (.aload_n 0, 1) := by decide +kernel
theorem d0_readRun_31 : decode b0_readRun 31 = .ok (.dup, 1) := by decide +kernel
theorem d0_readRun_32 : decode b0_readRun 32 = .ok (.getfield 31, 3) := by decide +kernel
theorem d0_readRun_35 : decode b0_readRun 35 = .ok (.iconst 1, 1) := by decide +kernel
theorem d0_readRun_36 : decode b0_readRun 36 = .ok (.iadd, 1) := by decide +kernel
theorem d0_readRun_37 : decode b0_readRun 37 = .ok (.putfield 31, 3) := by decide +kernel
theorem d0_readRun_40 : decode b0_readRun 40 = .ok (.goto (-40), 3) := by decide +kernel
theorem d0_readRun_43 : decode b0_readRun 43 = .ok (.aload_n 0, 1) := by decide +kernel
theorem d0_readRun_44 : decode b0_readRun 44 = .ok (.getfield 25, 3) := by decide +kernel
theorem d0_readRun_47 : decode b0_readRun 47 = .ok (.iconst 1, 1) := by decide +kernel
theorem d0_readRun_48 : decode b0_readRun 48 = .ok (.if_icmp .ne 8, 3) := by decide +kernel
theorem d0_readRun_51 : decode b0_readRun 51 = .ok (.bipush 8, 2) := by decide +kernel
theorem d0_readRun_53 : decode b0_readRun 53 = .ok (.goto 4, 3) := by decide +kernel
theorem d0_readRun_56 : decode b0_readRun 56 = .ok (.iconst 4, 1) := by decide +kernel
theorem d0_readRun_57 : decode b0_readRun 57 = .ok (.istore_n 1, 1) := by decide +kernel
theorem d0_readRun_58 : decode b0_readRun 58 = .ok (.aload_n 0, 1) := by decide +kernel
theorem d0_readRun_59 : decode b0_readRun 59 = .ok (.getfield 31, 3) := by decide +kernel
theorem d0_readRun_62 : decode b0_readRun 62 = .ok (.aload_n 0, 1) := by decide +kernel
theorem d0_readRun_63 : decode b0_readRun 63 = .ok (.getfield 28, 3) := by decide +kernel
theorem d0_readRun_66 : decode b0_readRun 66 = .ok (.isub, 1) := by decide +kernel
theorem d0_readRun_67 : decode b0_readRun 67 = .ok (.iload_n 1, 1) := by decide +kernel
theorem d0_readRun_68 : decode b0_readRun 68 = .ok (.if_icmp .le 8, 3) := by decide +kernel
theorem d0_readRun_71 : decode b0_readRun 71 = .ok (.aload_n 0, 1) := by decide +kernel
theorem d0_readRun_72 : decode b0_readRun 72 = .ok (.iconst 4, 1) := by decide +kernel
theorem d0_readRun_73 : decode b0_readRun 73 = .ok (.putfield 25, 3) := by decide +kernel
theorem d0_readRun_76 : decode b0_readRun 76 = .ok (.return_, 1) := by decide +kernel
abbrev b0_kindOf : ByteArray := prog_2_method_7_code
def y0_kindOf : MethodName := ⟨"ChannelSchedule$Input", "kindOf", "(I)I"⟩
theorem w0_kindOf : YS y0_kindOf b0_kindOf 1 (some .int) 1 := ⟨LW_i 313 (by decide +kernel) (by decide +kernel), LW_i 29 (by decide +kernel) (by decide +kernel), LW_i 314 (by decide +kernel) (by decide +kernel), by decide +kernel, by decide +kernel⟩
theorem d0_kindOf_0 : decode b0_kindOf 0 = .ok (.iload_n 0, 1) := by decide +kernel
theorem d0_kindOf_1 : decode b0_kindOf 1 = .ok (.bipush 97, 2) := by decide +kernel
theorem d0_kindOf_3 : decode b0_kindOf 3 = .ok (.if_icmp .lt 11, 3) := by decide +kernel
theorem d0_kindOf_6 : decode b0_kindOf 6 = .ok (.iload_n 0, 1) := by decide +kernel
theorem d0_kindOf_7 : decode b0_kindOf 7 = .ok (.bipush 122, 2) := by decide +kernel
theorem d0_kindOf_9 : decode b0_kindOf 9 = .ok (.if_icmp .gt 5, 3) := by decide +kernel
theorem d0_kindOf_12 : decode b0_kindOf 12 = .ok (.iconst 1, 1) := by decide +kernel
theorem d0_kindOf_13 : decode b0_kindOf 13 = .ok (.ireturn, 1) := by decide +kernel
theorem d0_kindOf_14 : decode b0_kindOf 14 = .ok (.iload_n 0, 1) := by decide +kernel
theorem d0_kindOf_15 : decode b0_kindOf 15 = .ok (.bipush 48, 2) := by decide +kernel
theorem d0_kindOf_17 : decode b0_kindOf 17 = .ok (.if_icmp .lt 11, 3) := by decide +kernel
theorem d0_kindOf_20 : decode b0_kindOf 20 = .ok (.iload_n 0, 1) := by decide +kernel
theorem d0_kindOf_21 : decode b0_kindOf 21 = .ok (.bipush 57, 2) := by decide +kernel
theorem d0_kindOf_23 : decode b0_kindOf 23 = .ok (.if_icmp .gt 5, 3) := by decide +kernel
theorem d0_kindOf_26 : decode b0_kindOf 26 = .ok (.iconst 2, 1) := by decide +kernel
theorem d0_kindOf_27 : decode b0_kindOf 27 = .ok (.ireturn, 1) := by decide +kernel
theorem d0_kindOf_28 : decode b0_kindOf 28 = .ok (.iload_n 0, 1) := by decide +kernel
theorem d0_kindOf_29 : decode b0_kindOf 29 = .ok (.bipush 59, 2) := by decide +kernel
theorem d0_kindOf_31 : decode b0_kindOf 31 = .ok (.if_icmp .ne 5, 3) := by decide +kernel
theorem d0_kindOf_34 : decode b0_kindOf 34 = .ok (.iconst 3, 1) := by decide +kernel
theorem d0_kindOf_35 : decode b0_kindOf 35 = .ok (.ireturn, 1) := by decide +kernel
theorem d0_kindOf_36 : decode b0_kindOf 36 = .ok (.iload_n 0, 1) := by decide +kernel
theorem d0_kindOf_37 : decode b0_kindOf 37 = .ok (.bipush 32, 2) := by decide +kernel
theorem d0_kindOf_39 : decode b0_kindOf 39 = .ok (.if_icmp .eq 9, 3) := by decide +kernel
theorem d0_kindOf_42 : decode b0_kindOf 42 = .ok (.iload_n 0, 1) := by decide +kernel
theorem d0_kindOf_43 : decode b0_kindOf 43 = .ok (.bipush 10, 2) := by decide +kernel
theorem d0_kindOf_45 : decode b0_kindOf 45 = .ok (.if_icmp .ne 7, 3) := by decide +kernel
theorem d0_kindOf_48 : decode b0_kindOf 48 = .ok (.iconst 5, 1) := by decide +kernel
theorem d0_kindOf_49 : decode b0_kindOf 49 = .ok (.goto 4, 3) := by decide +kernel
theorem d0_kindOf_52 : decode b0_kindOf 52 = .ok (.iconst 4, 1) := by decide +kernel
theorem d0_kindOf_53 : decode b0_kindOf 53 = .ok (.ireturn, 1) := by decide +kernel
abbrev b0_fail : ByteArray := prog_2_method_8_code
def y0_fail : MethodName := ⟨"ChannelSchedule$Input", "fail", "(I)Z"⟩
theorem w0_fail : YV y0_fail b0_fail 2 (some .boolean) 1 := ⟨LW_i 335 (by decide +kernel) (by decide +kernel), LW_i 336 (by decide +kernel) (by decide +kernel), LW_i 29 (by decide +kernel) (by decide +kernel), LW_i 337 (by decide +kernel) (by decide +kernel), by decide +kernel, by decide +kernel⟩
theorem d0_fail_0 : decode b0_fail 0 = .ok (.aload_n 0, 1) := by decide +kernel
theorem d0_fail_1 : decode b0_fail 1 = .ok (.iload_n 1, 1) := by decide +kernel
theorem d0_fail_2 : decode b0_fail 2 = .ok (.putfield 19, 3) := by decide +kernel
theorem d0_fail_5 : decode b0_fail 5 = .ok (.aload_n 0, 1) := by decide +kernel
theorem d0_fail_6 : decode b0_fail 6 = .ok (.aload_n 0, 1) := by decide +kernel
theorem d0_fail_7 : decode b0_fail 7 = .ok (.getfield 28, 3) := by decide +kernel
theorem d0_fail_10 : decode b0_fail 10 = .ok (.putfield 22, 3) := by decide +kernel
theorem d0_fail_13 : decode b0_fail 13 = .ok (.iconst 0, 1) := by decide +kernel
theorem d0_fail_14 : decode b0_fail 14 = .ok (.ireturn, 1) := by decide +kernel
abbrev b0_isWord : ByteArray := prog_2_method_9_code
def y0_isWord : MethodName := ⟨"ChannelSchedule$Input", "isWord", "(Ljava/lang/String;)Z"⟩
theorem w0_isWord : YV y0_isWord b0_isWord 3 (some .boolean) 1 := ⟨LW_i 329 (by decide +kernel) (by decide +kernel), LW_i 330 (by decide +kernel) (by decide +kernel), LW_i 29 (by decide +kernel) (by decide +kernel), LW_i 331 (by decide +kernel) (by decide +kernel), by decide +kernel, by decide +kernel⟩
theorem d0_isWord_0 : decode b0_isWord 0 = .ok (.aload_n 0, 1) := by decide +kernel
theorem d0_isWord_1 : decode b0_isWord 1 = .ok (.getfield 25, 3) := by decide +kernel
theorem d0_isWord_4 : decode b0_isWord 4 = .ok (.iconst 1, 1) := by decide +kernel
theorem d0_isWord_5 : decode b0_isWord 5 = .ok (.if_icmp .ne 19, 3) := by decide +kernel
theorem d0_isWord_8 : decode b0_isWord 8 = .ok (.aload_n 0, 1) := by decide +kernel
theorem d0_isWord_9 : decode b0_isWord 9 = .ok (.getfield 31, 3) := by decide +kernel
theorem d0_isWord_12 : decode b0_isWord 12 = .ok (.aload_n 0, 1) := by decide +kernel
theorem d0_isWord_13 : decode b0_isWord 13 = .ok (.getfield 28, 3) := by decide +kernel
theorem d0_isWord_16 : decode b0_isWord 16 = .ok (.isub, 1) := by decide +kernel
theorem d0_isWord_17 : decode b0_isWord 17 = .ok (.aload_n 1, 1) := by decide +kernel
theorem d0_isWord_18 : decode b0_isWord 18 = .ok (.invokevirtual 51, 3) := by decide +kernel
theorem d0_isWord_21 : decode b0_isWord 21 = .ok (.if_icmp .eq 5, 3) := by decide +kernel
theorem d0_isWord_24 : decode b0_isWord 24 = .ok (.iconst 0, 1) := by decide +kernel
theorem d0_isWord_25 : decode b0_isWord 25 = .ok (.ireturn, 1) := by decide +kernel
theorem d0_isWord_26 : decode b0_isWord 26 = .ok (.iconst 0, 1) := by decide +kernel
theorem d0_isWord_27 : decode b0_isWord 27 = .ok (.istore_n 2, 1) := by decide +kernel
theorem d0_isWord_28 : decode b0_isWord 28 = .ok (.iload_n 2, 1) := by decide +kernel
theorem d0_isWord_29 : decode b0_isWord 29 = .ok (.aload_n 1, 1) := by decide +kernel
theorem d0_isWord_30 : decode b0_isWord 30 = .ok (.invokevirtual 51, 3) := by decide +kernel
theorem d0_isWord_33 : decode b0_isWord 33 = .ok (.if_icmp .ge 30, 3) := by decide +kernel
theorem d0_isWord_36 : decode b0_isWord 36 = .ok (.aload_n 0, 1) := by decide +kernel
theorem d0_isWord_37 : decode b0_isWord 37 = .ok (.getfield 9, 3) := by decide +kernel
theorem d0_isWord_40 : decode b0_isWord 40 = .ok (.aload_n 0, 1) := by decide +kernel
theorem d0_isWord_41 : decode b0_isWord 41 = .ok (.getfield 28, 3) := by decide +kernel
theorem d0_isWord_44 : decode b0_isWord 44 = .ok (.iload_n 2, 1) := by decide +kernel
theorem d0_isWord_45 : decode b0_isWord 45 = .ok (.iadd, 1) := by decide +kernel
theorem d0_isWord_46 : decode b0_isWord 46 = .ok (.baload, 1) := by decide +kernel
theorem d0_isWord_47 : decode b0_isWord 47 = .ok (.aload_n 1, 1) := by decide +kernel
theorem d0_isWord_48 : decode b0_isWord 48 = .ok (.iload_n 2, 1) := by decide +kernel
theorem d0_isWord_49 : decode b0_isWord 49 = .ok (.invokevirtual 56, 3) := by decide +kernel
theorem d0_isWord_52 : decode b0_isWord 52 = .ok (.if_icmp .eq 5, 3) := by decide +kernel
theorem d0_isWord_55 : decode b0_isWord 55 = .ok (.iconst 0, 1) := by decide +kernel
theorem d0_isWord_56 : decode b0_isWord 56 = .ok (.ireturn, 1) := by decide +kernel
theorem d0_isWord_57 : decode b0_isWord 57 = .ok (.iinc 2 1, 3) := by decide +kernel
theorem d0_isWord_60 : decode b0_isWord 60 = .ok (.goto (-32), 3) := by decide +kernel
theorem d0_isWord_63 : decode b0_isWord 63 = .ok (.iconst 1, 1) := by decide +kernel
theorem d0_isWord_64 : decode b0_isWord 64 = .ok (.ireturn, 1) := by decide +kernel
abbrev b0_takeWord : ByteArray := prog_2_method_10_code
def y0_takeWord : MethodName := ⟨"ChannelSchedule$Input", "takeWord", "(Ljava/lang/String;)Z"⟩
theorem w0_takeWord : YV y0_takeWord b0_takeWord 2 (some .boolean) 1 := ⟨LW_i 325 (by decide +kernel) (by decide +kernel), LW_i 326 (by decide +kernel) (by decide +kernel), LW_i 29 (by decide +kernel) (by decide +kernel), LW_i 327 (by decide +kernel) (by decide +kernel), by decide +kernel, by decide +kernel⟩
theorem d0_takeWord_0 : decode b0_takeWord 0 = .ok (.aload_n 0, 1) := by decide +kernel
theorem d0_takeWord_1 : decode b0_takeWord 1 = .ok (.aload_n 1, 1) := by decide +kernel
theorem d0_takeWord_2 : decode b0_takeWord 2 = .ok (.invokevirtual 60, 3) := by decide +kernel
theorem d0_takeWord_5 : decode b0_takeWord 5 = .ok (.ifCond .ne 9, 3) := by decide +kernel
theorem d0_takeWord_8 : decode b0_takeWord 8 = .ok (.aload_n 0, 1) := by decide +kernel
theorem d0_takeWord_9 : decode b0_takeWord 9 = .ok (.iconst 1, 1) := by decide +kernel
theorem d0_takeWord_10 : decode b0_takeWord 10 = .ok (.invokevirtual 64, 3) := by decide +kernel
theorem d0_takeWord_13 : decode b0_takeWord 13 = .ok (.ireturn, 1) := by decide +kernel
theorem d0_takeWord_14 : decode b0_takeWord 14 = .ok (.aload_n 0, 1) := by decide +kernel
theorem d0_takeWord_15 : decode b0_takeWord 15 = .ok (.invokevirtual 41, 3) := by decide +kernel
theorem d0_takeWord_18 : decode b0_takeWord 18 = .ok (.iconst 1, 1) := by decide +kernel
theorem d0_takeWord_19 : decode b0_takeWord 19 = .ok (.ireturn, 1) := by decide +kernel
abbrev b0_takeSemicolon : ByteArray := prog_2_method_11_code
def y0_takeSemicolon : MethodName := ⟨"ChannelSchedule$Input", "takeSemicolon", "()Z"⟩
theorem w0_takeSemicolon : YV y0_takeSemicolon b0_takeSemicolon 1 (some .boolean) 0 := ⟨LW_i 343 (by decide +kernel) (by decide +kernel), LW_i 344 (by decide +kernel) (by decide +kernel), LW_i 29 (by decide +kernel) (by decide +kernel), LW_i 345 (by decide +kernel) (by decide +kernel), by decide +kernel, by decide +kernel⟩
theorem d0_takeSemicolon_0 : decode b0_takeSemicolon 0 = .ok (.aload_n 0, 1) := by decide +kernel
theorem d0_takeSemicolon_1 : decode b0_takeSemicolon 1 = .ok (.getfield 25, 3) := by decide +kernel
theorem d0_takeSemicolon_4 : decode b0_takeSemicolon 4 = .ok (.iconst 3, 1) := by decide +kernel
theorem d0_takeSemicolon_5 : decode b0_takeSemicolon 5 = .ok (.if_icmp .eq 9, 3) := by decide +kernel
theorem d0_takeSemicolon_8 : decode b0_takeSemicolon 8 = .ok (.aload_n 0, 1) := by decide +kernel
theorem d0_takeSemicolon_9 : decode b0_takeSemicolon 9 = .ok (.iconst 1, 1) := by decide +kernel
theorem d0_takeSemicolon_10 : decode b0_takeSemicolon 10 = .ok (.invokevirtual 64, 3) := by decide +kernel
theorem d0_takeSemicolon_13 : decode b0_takeSemicolon 13 = .ok (.ireturn, 1) := by decide +kernel
theorem d0_takeSemicolon_14 : decode b0_takeSemicolon 14 = .ok (.aload_n 0, 1) := by decide +kernel
theorem d0_takeSemicolon_15 : decode b0_takeSemicolon 15 = .ok (.invokevirtual 41, 3) := by decide +kernel
theorem d0_takeSemicolon_18 : decode b0_takeSemicolon 18 = .ok (.iconst 1, 1) := by decide +kernel
theorem d0_takeSemicolon_19 : decode b0_takeSemicolon 19 = .ok (.ireturn, 1) := by decide +kernel
abbrev b0_takeNumber : ByteArray := prog_2_method_12_code
def y0_takeNumber : MethodName := ⟨"ChannelSchedule$Input", "takeNumber", "(II)Z"⟩
theorem w0_takeNumber : YV y0_takeNumber b0_takeNumber 4 (some .boolean) 2 := ⟨LW_i 339 (by decide +kernel) (by decide +kernel), LW_i 340 (by decide +kernel) (by decide +kernel), LW_i 29 (by decide +kernel) (by decide +kernel), LW_i 341 (by decide +kernel) (by decide +kernel), by decide +kernel, by decide +kernel⟩
theorem d0_takeNumber_0 : decode b0_takeNumber 0 = .ok (.aload_n 0, 1) := by decide +kernel
theorem d0_takeNumber_1 : decode b0_takeNumber 1 = .ok (.getfield 25, 3) := by decide +kernel
theorem d0_takeNumber_4 : decode b0_takeNumber 4 = .ok (.iconst 2, 1) := by decide +kernel
theorem d0_takeNumber_5 : decode b0_takeNumber 5 = .ok (.if_icmp .eq 9, 3) := by decide +kernel
theorem d0_takeNumber_8 : decode b0_takeNumber 8 = .ok (.aload_n 0, 1) := by decide +kernel
theorem d0_takeNumber_9 : decode b0_takeNumber 9 = .ok (.iconst 1, 1) := by decide +kernel
theorem d0_takeNumber_10 : decode b0_takeNumber 10 = .ok (.invokevirtual 64, 3) := by decide +kernel
theorem d0_takeNumber_13 : decode b0_takeNumber 13 = .ok (.ireturn, 1) := by decide +kernel
theorem d0_takeNumber_14 : decode b0_takeNumber 14 = .ok (.aload_n 0, 1) := by decide +kernel
theorem d0_takeNumber_15 : decode b0_takeNumber 15 = .ok (.iconst 0, 1) := by decide +kernel
theorem d0_takeNumber_16 : decode b0_takeNumber 16 = .ok (.putfield 34, 3) := by decide +kernel
theorem d0_takeNumber_19 : decode b0_takeNumber 19 = .ok (.aload_n 0, 1) := by decide +kernel
theorem d0_takeNumber_20 : decode b0_takeNumber 20 = .ok (.getfield 28, 3) := by decide +kernel
theorem d0_takeNumber_23 : decode b0_takeNumber 23 = .ok (.istore_n 3, 1) := by decide +kernel
theorem d0_takeNumber_24 : decode b0_takeNumber 24 = .ok (.iload_n 3, 1) := by decide +kernel
theorem d0_takeNumber_25 : decode b0_takeNumber 25 = .ok (.aload_n 0, 1) := by decide +kernel
theorem d0_takeNumber_26 : decode b0_takeNumber 26 = .ok (.getfield 31, 3) := by decide +kernel
theorem d0_takeNumber_29 : decode b0_takeNumber 29 = .ok (.if_icmp .ge 30, 3) := by decide +kernel
theorem d0_takeNumber_32 : decode b0_takeNumber 32 = .ok (.aload_n 0, 1) := by decide +kernel
theorem d0_takeNumber_33 : decode b0_takeNumber 33 = .ok (.aload_n 0, 1) := by decide +kernel
theorem d0_takeNumber_34 : decode b0_takeNumber 34 = .ok (.getfield 34, 3) := by decide +kernel
theorem d0_takeNumber_37 : decode b0_takeNumber 37 = .ok (.bipush 10, 2) := by decide +kernel
theorem d0_takeNumber_39 : decode b0_takeNumber 39 = .ok (.imul, 1) := by decide +kernel
theorem d0_takeNumber_40 : decode b0_takeNumber 40 = .ok (.aload_n 0, 1) := by decide +kernel
theorem d0_takeNumber_41 : decode b0_takeNumber 41 = .ok (.getfield 9, 3) := by decide +kernel
theorem d0_takeNumber_44 : decode b0_takeNumber 44 = .ok (.iload_n 3, 1) := by decide +kernel
theorem d0_takeNumber_45 : decode b0_takeNumber 45 = .ok (.baload, 1) := by decide +kernel
theorem d0_takeNumber_46 : decode b0_takeNumber 46 = .ok (.bipush 48, 2) := by decide +kernel
theorem d0_takeNumber_48 : decode b0_takeNumber 48 = .ok (.isub, 1) := by decide +kernel
theorem d0_takeNumber_49 : decode b0_takeNumber 49 = .ok (.iadd, 1) := by decide +kernel
theorem d0_takeNumber_50 : decode b0_takeNumber 50 = .ok (.putfield 34, 3) := by decide +kernel
theorem d0_takeNumber_53 : decode b0_takeNumber 53 = .ok (.iinc 3 1, 3) := by decide +kernel
theorem d0_takeNumber_56 : decode b0_takeNumber 56 = .ok (.goto (-32), 3) := by decide +kernel
theorem d0_takeNumber_59 : decode b0_takeNumber 59 = .ok (.aload_n 0, 1) := by decide +kernel
theorem d0_takeNumber_60 : decode b0_takeNumber 60 = .ok (.getfield 34, 3) := by decide +kernel
theorem d0_takeNumber_63 : decode b0_takeNumber 63 = .ok (.iload_n 1, 1) := by decide +kernel
theorem d0_takeNumber_64 : decode b0_takeNumber 64 = .ok (.if_icmp .lt 11, 3) := by decide +kernel
theorem d0_takeNumber_67 : decode b0_takeNumber 67 = .ok (.aload_n 0, 1) := by decide +kernel
theorem d0_takeNumber_68 : decode b0_takeNumber 68 = .ok (.getfield 34, 3) := by decide +kernel
theorem d0_takeNumber_71 : decode b0_takeNumber 71 = .ok (.iload_n 2, 1) := by decide +kernel
theorem d0_takeNumber_72 : decode b0_takeNumber 72 = .ok (.if_icmp .le 9, 3) := by decide +kernel
theorem d0_takeNumber_75 : decode b0_takeNumber 75 = .ok (.aload_n 0, 1) := by decide +kernel
theorem d0_takeNumber_76 : decode b0_takeNumber 76 = .ok (.iconst 2, 1) := by decide +kernel
theorem d0_takeNumber_77 : decode b0_takeNumber 77 = .ok (.invokevirtual 64, 3) := by decide +kernel
theorem d0_takeNumber_80 : decode b0_takeNumber 80 = .ok (.ireturn, 1) := by decide +kernel
theorem d0_takeNumber_81 : decode b0_takeNumber 81 = .ok (.aload_n 0, 1) := by decide +kernel
theorem d0_takeNumber_82 : decode b0_takeNumber 82 = .ok (.invokevirtual 41, 3) := by decide +kernel
theorem d0_takeNumber_85 : decode b0_takeNumber 85 = .ok (.iconst 1, 1) := by decide +kernel
theorem d0_takeNumber_86 : decode b0_takeNumber 86 = .ok (.ireturn, 1) := by decide +kernel
abbrev b1_init : ByteArray := prog_3_method_1_code
def y1_init : MethodName := ⟨"ChannelSchedule$Plan", "<init>", "()V"⟩
theorem w1_init : YI y1_init b1_init 1 0 := ⟨LW_i 182 (by decide +kernel) (by decide +kernel), LW_i 33 (by decide +kernel) (by decide +kernel), LW_i 183 (by decide +kernel) (by decide +kernel), by decide +kernel, by decide +kernel, rfl⟩
theorem d1_init_0 : decode b1_init 0 = .ok (.aload_n 0, 1) := by decide +kernel
theorem d1_init_1 : decode b1_init 1 = .ok (.invokespecial 3, 3) := by decide +kernel
theorem d1_init_4 : decode b1_init 4 = .ok (.aload_n 0, 1) := by decide +kernel
theorem d1_init_5 : decode b1_init 5 = .ok (.iconst 0, 1) := by decide +kernel
theorem d1_init_6 : decode b1_init 6 = .ok (.putfield 9, 3) := by decide +kernel
theorem d1_init_9 : decode b1_init 9 = .ok (.aload_n 0, 1) := by decide +kernel
theorem d1_init_10 : decode b1_init 10 = .ok (.iconst 0, 1) := by decide +kernel
theorem d1_init_11 : decode b1_init 11 = .ok (.putfield 15, 3) := by decide +kernel
theorem d1_init_14 : decode b1_init 14 = .ok (.aload_n 0, 1) := by decide +kernel
theorem d1_init_15 : decode b1_init 15 = .ok (.iconst 0, 1) := by decide +kernel
theorem d1_init_16 : decode b1_init 16 = .ok (.putfield 18, 3) := by decide +kernel
theorem d1_init_19 : decode b1_init 19 = .ok (.aload_n 0, 1) := by decide +kernel
theorem d1_init_20 : decode b1_init 20 = .ok (.iconst 0, 1) := by decide +kernel
theorem d1_init_21 : decode b1_init 21 = .ok (.putfield 21, 3) := by decide +kernel
theorem d1_init_24 : decode b1_init 24 = .ok (.aload_n 0, 1) := by decide +kernel
theorem d1_init_25 : decode b1_init 25 = .ok (.iconst 0, 1) := by decide +kernel
theorem d1_init_26 : decode b1_init 26 = .ok (.putfield 24, 3) := by decide +kernel
theorem d1_init_29 : decode b1_init 29 = .ok (.aload_n 0, 1) := by decide +kernel
theorem d1_init_30 : decode b1_init 30 = .ok (.iconst 0, 1) := by decide +kernel
theorem d1_init_31 : decode b1_init 31 = .ok (.putfield 27, 3) := by decide +kernel
theorem d1_init_34 : decode b1_init 34 = .ok (.aload_n 0, 1) := by decide +kernel
theorem d1_init_35 : decode b1_init 35 = .ok (.bipush 20, 2) := by decide +kernel
theorem d1_init_37 : decode b1_init 37 = .ok (.newarray .int, 2) := by decide +kernel
theorem d1_init_39 : decode b1_init 39 = .ok (.putfield 30, 3) := by decide +kernel
theorem d1_init_42 : decode b1_init 42 = .ok (.aload_n 0, 1) := by decide +kernel
theorem d1_init_43 : decode b1_init 43 = .ok (.bipush 20, 2) := by decide +kernel
theorem d1_init_45 : decode b1_init 45 = .ok (.newarray .boolean, 2) := by decide +kernel
theorem d1_init_47 : decode b1_init 47 = .ok (.putfield 34, 3) := by decide +kernel
theorem d1_init_50 : decode b1_init 50 = .ok (.aload_n 0, 1) := by decide +kernel
theorem d1_init_51 : decode b1_init 51 = .ok (.bipush 20, 2) := by decide +kernel
theorem d1_init_53 : decode b1_init 53 = .ok (.newarray .int, 2) := by decide +kernel
theorem d1_init_55 : decode b1_init 55 = .ok (.putfield 38, 3) := by decide +kernel
theorem d1_init_58 : decode b1_init 58 = .ok (.aload_n 0, 1) := by decide +kernel
theorem d1_init_59 : decode b1_init 59 = .ok (.bipush 20, 2) := by decide +kernel
theorem d1_init_61 : decode b1_init 61 = .ok (.newarray .int, 2) := by decide +kernel
theorem d1_init_63 : decode b1_init 63 = .ok (.putfield 41, 3) := by decide +kernel
theorem d1_init_66 : decode b1_init 66 = .ok (.aload_n 0, 1) := by decide +kernel
theorem d1_init_67 : decode b1_init 67 = .ok (.iconst 0, 1) := by decide +kernel
theorem d1_init_68 : decode b1_init 68 = .ok (.putfield 44, 3) := by decide +kernel
theorem d1_init_71 : decode b1_init 71 = .ok (.aload_n 0, 1) := by decide +kernel
theorem d1_init_72 : decode b1_init 72 = .ok (.bipush 8, 2) := by decide +kernel
theorem d1_init_74 : decode b1_init 74 = .ok (.newarray .int, 2) := by decide +kernel
theorem d1_init_76 : decode b1_init 76 = .ok (.putfield 47, 3) := by decide +kernel
theorem d1_init_79 : decode b1_init 79 = .ok (.aload_n 0, 1) := by decide +kernel
theorem d1_init_80 : decode b1_init 80 = .ok (.bipush 8, 2) := by decide +kernel
theorem d1_init_82 : decode b1_init 82 = .ok (.newarray .boolean, 2) := by decide +kernel
theorem d1_init_84 : decode b1_init 84 = .ok (.putfield 50, 3) := by decide +kernel
theorem d1_init_87 : decode b1_init 87 = .ok (.aload_n 0, 1) := by decide +kernel
theorem d1_init_88 : decode b1_init 88 = .ok (.bipush 8, 2) := by decide +kernel
theorem d1_init_90 : decode b1_init 90 = .ok (.newarray .int, 2) := by decide +kernel
theorem d1_init_92 : decode b1_init 92 = .ok (.putfield 53, 3) := by decide +kernel
theorem d1_init_95 : decode b1_init 95 = .ok (.aload_n 0, 1) := by decide +kernel
theorem d1_init_96 : decode b1_init 96 = .ok (.bipush 8, 2) := by decide +kernel
theorem d1_init_98 : decode b1_init 98 = .ok (.newarray .int, 2) := by decide +kernel
theorem d1_init_100 : decode b1_init 100 = .ok (.putfield 56, 3) := by decide +kernel
theorem d1_init_103 : decode b1_init 103 = .ok (.return_, 1) := by decide +kernel
abbrev b1_startAnew : ByteArray := prog_3_method_2_code
def y1_startAnew : MethodName := ⟨"ChannelSchedule$Plan", "startAnew", "(I)V"⟩
theorem w1_startAnew : YV y1_startAnew b1_startAnew 2 none 1 := ⟨LW_i 375 (by decide +kernel) (by decide +kernel), LW_i 376 (by decide +kernel) (by decide +kernel), LW_i 33 (by decide +kernel) (by decide +kernel), LW_i 377 (by decide +kernel) (by decide +kernel), by decide +kernel, by decide +kernel⟩
theorem d1_startAnew_0 : decode b1_startAnew 0 = .ok (.aload_n 0, 1) := by decide +kernel
theorem d1_startAnew_1 : decode b1_startAnew 1 = .ok (.iload_n 1, 1) := by decide +kernel
theorem d1_startAnew_2 : decode b1_startAnew 2 = .ok (.putfield 9, 3) := by decide +kernel
theorem d1_startAnew_5 : decode b1_startAnew 5 = .ok (.aload_n 0, 1) := by decide +kernel
theorem d1_startAnew_6 : decode b1_startAnew 6 = .ok (.iconst 0, 1) := by decide +kernel
theorem d1_startAnew_7 : decode b1_startAnew 7 = .ok (.putfield 15, 3) := by decide +kernel
theorem d1_startAnew_10 : decode b1_startAnew 10 = .ok (.aload_n 0, 1) := by decide +kernel
theorem d1_startAnew_11 : decode b1_startAnew 11 = .ok (.iconst 0, 1) := by decide +kernel
theorem d1_startAnew_12 : decode b1_startAnew 12 = .ok (.putfield 18, 3) := by decide +kernel
theorem d1_startAnew_15 : decode b1_startAnew 15 = .ok (.aload_n 0, 1) := by decide +kernel
theorem d1_startAnew_16 : decode b1_startAnew 16 = .ok (.iconst 0, 1) := by decide +kernel
theorem d1_startAnew_17 : decode b1_startAnew 17 = .ok (.putfield 21, 3) := by decide +kernel
theorem d1_startAnew_20 : decode b1_startAnew 20 = .ok (.aload_n 0, 1) := by decide +kernel
theorem d1_startAnew_21 : decode b1_startAnew 21 = .ok (.iconst 0, 1) := by decide +kernel
theorem d1_startAnew_22 : decode b1_startAnew 22 = .ok (.putfield 24, 3) := by decide +kernel
theorem d1_startAnew_25 : decode b1_startAnew 25 = .ok (.aload_n 0, 1) := by decide +kernel
theorem d1_startAnew_26 : decode b1_startAnew 26 = .ok (.iconst 0, 1) := by decide +kernel
theorem d1_startAnew_27 : decode b1_startAnew 27 = .ok (.putfield 27, 3) := by decide +kernel
theorem d1_startAnew_30 : decode b1_startAnew 30 = .ok (.aload_n 0, 1) := by decide +kernel
theorem d1_startAnew_31 : decode b1_startAnew 31 = .ok (.iconst 0, 1) := by decide +kernel
theorem d1_startAnew_32 : decode b1_startAnew 32 = .ok (.putfield 44, 3) := by decide +kernel
theorem d1_startAnew_35 : decode b1_startAnew 35 = .ok (.return_, 1) := by decide +kernel
abbrev b1_copyFrom : ByteArray := prog_3_method_3_code
def y1_copyFrom : MethodName := ⟨"ChannelSchedule$Plan", "copyFrom", "(LChannelSchedule$Plan;)V"⟩
theorem w1_copyFrom : YV y1_copyFrom b1_copyFrom 3 none 1 := ⟨LW_i 601 (by decide +kernel) (by decide +kernel), LW_i 602 (by decide +kernel) (by decide +kernel), LW_i 33 (by decide +kernel) (by decide +kernel), LW_i 603 (by decide +kernel) (by decide +kernel), by decide +kernel, by decide +kernel⟩
theorem d1_copyFrom_0 : decode b1_copyFrom 0 = .ok (.aload_n 0, 1) := by decide +kernel
theorem d1_copyFrom_1 : decode b1_copyFrom 1 = .ok (.aload_n 1, 1) := by decide +kernel
theorem d1_copyFrom_2 : decode b1_copyFrom 2 = .ok (.getfield 9, 3) := by decide +kernel
theorem d1_copyFrom_5 : decode b1_copyFrom 5 = .ok (.putfield 9, 3) := by decide +kernel
theorem d1_copyFrom_8 : decode b1_copyFrom 8 = .ok (.aload_n 0, 1) := by decide +kernel
theorem d1_copyFrom_9 : decode b1_copyFrom 9 = .ok (.aload_n 1, 1) := by decide +kernel
theorem d1_copyFrom_10 : decode b1_copyFrom 10 = .ok (.getfield 15, 3) := by decide +kernel
theorem d1_copyFrom_13 : decode b1_copyFrom 13 = .ok (.putfield 15, 3) := by decide +kernel
theorem d1_copyFrom_16 : decode b1_copyFrom 16 = .ok (.aload_n 0, 1) := by decide +kernel
theorem d1_copyFrom_17 : decode b1_copyFrom 17 = .ok (.aload_n 1, 1) := by decide +kernel
theorem d1_copyFrom_18 : decode b1_copyFrom 18 = .ok (.getfield 18, 3) := by decide +kernel
theorem d1_copyFrom_21 : decode b1_copyFrom 21 = .ok (.putfield 18, 3) := by decide +kernel
theorem d1_copyFrom_24 : decode b1_copyFrom 24 = .ok (.aload_n 0, 1) := by decide +kernel
theorem d1_copyFrom_25 : decode b1_copyFrom 25 = .ok (.aload_n 1, 1) := by decide +kernel
theorem d1_copyFrom_26 : decode b1_copyFrom 26 = .ok (.getfield 21, 3) := by decide +kernel
theorem d1_copyFrom_29 : decode b1_copyFrom 29 = .ok (.putfield 21, 3) := by decide +kernel
theorem d1_copyFrom_32 : decode b1_copyFrom 32 = .ok (.aload_n 0, 1) := by decide +kernel
theorem d1_copyFrom_33 : decode b1_copyFrom 33 = .ok (.aload_n 1, 1) := by decide +kernel
theorem d1_copyFrom_34 : decode b1_copyFrom 34 = .ok (.getfield 24, 3) := by decide +kernel
theorem d1_copyFrom_37 : decode b1_copyFrom 37 = .ok (.putfield 24, 3) := by decide +kernel
theorem d1_copyFrom_40 : decode b1_copyFrom 40 = .ok (.aload_n 0, 1) := by decide +kernel
theorem d1_copyFrom_41 : decode b1_copyFrom 41 = .ok (.aload_n 1, 1) := by decide +kernel
theorem d1_copyFrom_42 : decode b1_copyFrom 42 = .ok (.getfield 27, 3) := by decide +kernel
theorem d1_copyFrom_45 : decode b1_copyFrom 45 = .ok (.putfield 27, 3) := by decide +kernel
theorem d1_copyFrom_48 : decode b1_copyFrom 48 = .ok (.iconst 0, 1) := by decide +kernel
theorem d1_copyFrom_49 : decode b1_copyFrom 49 = .ok (.istore_n 2, 1) := by decide +kernel
theorem d1_copyFrom_50 : decode b1_copyFrom 50 = .ok (.iload_n 2, 1) := by decide +kernel
theorem d1_copyFrom_51 : decode b1_copyFrom 51 = .ok (.aload_n 0, 1) := by decide +kernel
theorem d1_copyFrom_52 : decode b1_copyFrom 52 = .ok (.getfield 27, 3) := by decide +kernel
theorem d1_copyFrom_55 : decode b1_copyFrom 55 = .ok (.if_icmp .ge 38, 3) := by decide +kernel
theorem d1_copyFrom_58 : decode b1_copyFrom 58 = .ok (.aload_n 0, 1) := by decide +kernel
theorem d1_copyFrom_59 : decode b1_copyFrom 59 = .ok (.iload_n 2, 1) := by decide +kernel
theorem d1_copyFrom_60 : decode b1_copyFrom 60 = .ok (.aload_n 1, 1) := by decide +kernel
theorem d1_copyFrom_61 : decode b1_copyFrom 61 = .ok (.getfield 30, 3) := by decide +kernel
theorem d1_copyFrom_64 : decode b1_copyFrom 64 = .ok (.iload_n 2, 1) := by decide +kernel
theorem d1_copyFrom_65 : decode b1_copyFrom 65 = .ok (.iaload, 1) := by decide +kernel
theorem d1_copyFrom_66 : decode b1_copyFrom 66 = .ok (.aload_n 1, 1) := by decide +kernel
theorem d1_copyFrom_67 : decode b1_copyFrom 67 = .ok (.getfield 34, 3) := by decide +kernel
theorem d1_copyFrom_70 : decode b1_copyFrom 70 = .ok (.iload_n 2, 1) := by decide +kernel
theorem d1_copyFrom_71 : decode b1_copyFrom 71 = .ok (.baload, 1) := by decide +kernel
theorem d1_copyFrom_72 : decode b1_copyFrom 72 = .ok (.aload_n 1, 1) := by decide +kernel
theorem d1_copyFrom_73 : decode b1_copyFrom 73 = .ok (.getfield 38, 3) := by decide +kernel
theorem d1_copyFrom_76 : decode b1_copyFrom 76 = .ok (.iload_n 2, 1) := by decide +kernel
theorem d1_copyFrom_77 : decode b1_copyFrom 77 = .ok (.iaload, 1) := by decide +kernel
theorem d1_copyFrom_78 : decode b1_copyFrom 78 = .ok (.aload_n 1, 1) := by decide +kernel
theorem d1_copyFrom_79 : decode b1_copyFrom 79 = .ok (.getfield 41, 3) := by decide +kernel
theorem d1_copyFrom_82 : decode b1_copyFrom 82 = .ok (.iload_n 2, 1) := by decide +kernel
theorem d1_copyFrom_83 : decode b1_copyFrom 83 = .ok (.iaload, 1) := by decide +kernel
theorem d1_copyFrom_84 : decode b1_copyFrom 84 = .ok (.invokevirtual 59, 3) := by decide +kernel
theorem d1_copyFrom_87 : decode b1_copyFrom 87 = .ok (.iinc 2 1, 3) := by decide +kernel
theorem d1_copyFrom_90 : decode b1_copyFrom 90 = .ok (.goto (-40), 3) := by decide +kernel
theorem d1_copyFrom_93 : decode b1_copyFrom 93 = .ok (.aload_n 0, 1) := by decide +kernel
theorem d1_copyFrom_94 : decode b1_copyFrom 94 = .ok (.aload_n 1, 1) := by decide +kernel
theorem d1_copyFrom_95 : decode b1_copyFrom 95 = .ok (.getfield 44, 3) := by decide +kernel
theorem d1_copyFrom_98 : decode b1_copyFrom 98 = .ok (.putfield 44, 3) := by decide +kernel
theorem d1_copyFrom_101 : decode b1_copyFrom 101 = .ok (.iconst 0, 1) := by decide +kernel
theorem d1_copyFrom_102 : decode b1_copyFrom 102 = .ok (.istore_n 2, 1) := by decide +kernel
theorem d1_copyFrom_103 : decode b1_copyFrom 103 = .ok (.iload_n 2, 1) := by decide +kernel
theorem d1_copyFrom_104 : decode b1_copyFrom 104 = .ok (.aload_n 0, 1) := by decide +kernel
theorem d1_copyFrom_105 : decode b1_copyFrom 105 = .ok (.getfield 44, 3) := by decide +kernel
theorem d1_copyFrom_108 : decode b1_copyFrom 108 = .ok (.if_icmp .ge 38, 3) := by decide +kernel
theorem d1_copyFrom_111 : decode b1_copyFrom 111 = .ok (.aload_n 0, 1) := by decide +kernel
theorem d1_copyFrom_112 : decode b1_copyFrom 112 = .ok (.iload_n 2, 1) := by decide +kernel
theorem d1_copyFrom_113 : decode b1_copyFrom 113 = .ok (.aload_n 1, 1) := by decide +kernel
theorem d1_copyFrom_114 : decode b1_copyFrom 114 = .ok (.getfield 47, 3) := by decide +kernel
theorem d1_copyFrom_117 : decode b1_copyFrom 117 = .ok (.iload_n 2, 1) := by decide +kernel
theorem d1_copyFrom_118 : decode b1_copyFrom 118 = .ok (.iaload, 1) := by decide +kernel
theorem d1_copyFrom_119 : decode b1_copyFrom 119 = .ok (.aload_n 1, 1) := by decide +kernel
theorem d1_copyFrom_120 : decode b1_copyFrom 120 = .ok (.getfield 50, 3) := by decide +kernel
theorem d1_copyFrom_123 : decode b1_copyFrom 123 = .ok (.iload_n 2, 1) := by decide +kernel
theorem d1_copyFrom_124 : decode b1_copyFrom 124 = .ok (.baload, 1) := by decide +kernel
theorem d1_copyFrom_125 : decode b1_copyFrom 125 = .ok (.aload_n 1, 1) := by decide +kernel
theorem d1_copyFrom_126 : decode b1_copyFrom 126 = .ok (.getfield 53, 3) := by decide +kernel
theorem d1_copyFrom_129 : decode b1_copyFrom 129 = .ok (.iload_n 2, 1) := by decide +kernel
theorem d1_copyFrom_130 : decode b1_copyFrom 130 = .ok (.iaload, 1) := by decide +kernel
theorem d1_copyFrom_131 : decode b1_copyFrom 131 = .ok (.aload_n 1, 1) := by decide +kernel
theorem d1_copyFrom_132 : decode b1_copyFrom 132 = .ok (.getfield 56, 3) := by decide +kernel
theorem d1_copyFrom_135 : decode b1_copyFrom 135 = .ok (.iload_n 2, 1) := by decide +kernel
theorem d1_copyFrom_136 : decode b1_copyFrom 136 = .ok (.iaload, 1) := by decide +kernel
theorem d1_copyFrom_137 : decode b1_copyFrom 137 = .ok (.invokevirtual 63, 3) := by decide +kernel
theorem d1_copyFrom_140 : decode b1_copyFrom 140 = .ok (.iinc 2 1, 3) := by decide +kernel
theorem d1_copyFrom_143 : decode b1_copyFrom 143 = .ok (.goto (-40), 3) := by decide +kernel
theorem d1_copyFrom_146 : decode b1_copyFrom 146 = .ok (.return_, 1) := by decide +kernel
abbrev b1_putBooking : ByteArray := prog_3_method_4_code
def y1_putBooking : MethodName := ⟨"ChannelSchedule$Plan", "putBooking", "(IIZII)V"⟩
theorem w1_putBooking : YV y1_putBooking b1_putBooking 6 none 5 := ⟨LW_i 605 (by decide +kernel) (by decide +kernel), LW_i 606 (by decide +kernel) (by decide +kernel), LW_i 33 (by decide +kernel) (by decide +kernel), LW_i 607 (by decide +kernel) (by decide +kernel), by decide +kernel, by decide +kernel⟩
theorem d1_putBooking_0 : decode b1_putBooking 0 = .ok (.aload_n 0, 1) := by decide +kernel
theorem d1_putBooking_1 : decode b1_putBooking 1 = .ok (.getfield 30, 3) := by decide +kernel
theorem d1_putBooking_4 : decode b1_putBooking 4 = .ok (.iload_n 1, 1) := by decide +kernel
theorem d1_putBooking_5 : decode b1_putBooking 5 = .ok (.iload_n 2, 1) := by decide +kernel
theorem d1_putBooking_6 : decode b1_putBooking 6 = .ok (.iastore, 1) := by decide +kernel
theorem d1_putBooking_7 : decode b1_putBooking 7 = .ok (.aload_n 0, 1) := by decide +kernel
theorem d1_putBooking_8 : decode b1_putBooking 8 = .ok (.getfield 34, 3) := by decide +kernel
theorem d1_putBooking_11 : decode b1_putBooking 11 = .ok (.iload_n 1, 1) := by decide +kernel
theorem d1_putBooking_12 : decode b1_putBooking 12 = .ok (.iload_n 3, 1) := by decide +kernel
theorem d1_putBooking_13 : decode b1_putBooking 13 = .ok (.bastore, 1) := by decide +kernel
theorem d1_putBooking_14 : decode b1_putBooking 14 = .ok (.aload_n 0, 1) := by decide +kernel
theorem d1_putBooking_15 : decode b1_putBooking 15 = .ok (.getfield 38, 3) := by decide +kernel
theorem d1_putBooking_18 : decode b1_putBooking 18 = .ok (.iload_n 1, 1) := by decide +kernel
theorem d1_putBooking_19 : decode b1_putBooking 19 = .ok (.iload 4, 2) := by decide +kernel
theorem d1_putBooking_21 : decode b1_putBooking 21 = .ok (.iastore, 1) := by decide +kernel
theorem d1_putBooking_22 : decode b1_putBooking 22 = .ok (.aload_n 0, 1) := by decide +kernel
theorem d1_putBooking_23 : decode b1_putBooking 23 = .ok (.getfield 41, 3) := by decide +kernel
theorem d1_putBooking_26 : decode b1_putBooking 26 = .ok (.iload_n 1, 1) := by decide +kernel
theorem d1_putBooking_27 : decode b1_putBooking 27 = .ok (.iload 5, 2) := by decide +kernel
theorem d1_putBooking_29 : decode b1_putBooking 29 = .ok (.iastore, 1) := by decide +kernel
theorem d1_putBooking_30 : decode b1_putBooking 30 = .ok (.return_, 1) := by decide +kernel
abbrev b1_insertBooking : ByteArray := prog_3_method_5_code
def y1_insertBooking : MethodName := ⟨"ChannelSchedule$Plan", "insertBooking", "(IZII)V"⟩
theorem w1_insertBooking : YV y1_insertBooking b1_insertBooking 6 none 4 := ⟨LW_i 617 (by decide +kernel) (by decide +kernel), LW_i 618 (by decide +kernel) (by decide +kernel), LW_i 33 (by decide +kernel) (by decide +kernel), LW_i 619 (by decide +kernel) (by decide +kernel), by decide +kernel, by decide +kernel⟩
theorem d1_insertBooking_0 : decode b1_insertBooking 0 = .ok (.aload_n 0, 1) := by decide +kernel
theorem d1_insertBooking_1 : decode b1_insertBooking 1 = .ok (.getfield 27, 3) := by decide +kernel
theorem d1_insertBooking_4 : decode b1_insertBooking 4 = .ok (.bipush 20, 2) := by decide +kernel
theorem d1_insertBooking_6 : decode b1_insertBooking 6 = .ok (.if_icmp .lt 4, 3) := by decide +kernel
theorem d1_insertBooking_9 : decode b1_insertBooking 9 = .ok (.return_, 1) := by decide +kernel
theorem d1_insertBooking_10 : decode b1_insertBooking 10 = .ok (.aload_n 0, 1) := by decide +kernel
theorem d1_insertBooking_11 : decode b1_insertBooking 11 = .ok (.getfield 27, 3) := by decide +kernel
theorem d1_insertBooking_14 : decode b1_insertBooking 14 = .ok (.istore 5, 2) := by decide +kernel
theorem d1_insertBooking_16 : decode b1_insertBooking 16 = .ok (.iload 5, 2) := by decide +kernel
theorem d1_insertBooking_18 : decode b1_insertBooking 18 = .ok (.ifCond .le 64, 3) := by decide +kernel
theorem d1_insertBooking_21 : decode b1_insertBooking 21 = .ok (.aload_n 0, 1) := by decide +kernel
theorem d1_insertBooking_22 : decode b1_insertBooking 22 = .ok (.getfield 38, 3) := by decide +kernel
theorem d1_insertBooking_25 : decode b1_insertBooking 25 = .ok (.iload 5, 2) := by decide +kernel
theorem d1_insertBooking_27 : decode b1_insertBooking 27 = .ok (.iconst 1, 1) := by decide +kernel
theorem d1_insertBooking_28 : decode b1_insertBooking 28 = .ok (.isub, 1) := by decide +kernel
theorem d1_insertBooking_29 : decode b1_insertBooking 29 = .ok (.iaload, 1) := by decide +kernel
theorem d1_insertBooking_30 : decode b1_insertBooking 30 = .ok (.iload_n 3, 1) := by decide +kernel
theorem d1_insertBooking_31 : decode b1_insertBooking 31 = .ok (.if_icmp .le 51, 3) := by decide +kernel
theorem d1_insertBooking_34 : decode b1_insertBooking 34 = .ok (.aload_n 0, 1) := by decide +kernel
theorem d1_insertBooking_35 : decode b1_insertBooking 35 = .ok (.iload 5, 2) := by decide +kernel
theorem d1_insertBooking_37 : decode b1_insertBooking 37 = .ok (.aload_n 0, 1) := by decide +kernel
theorem d1_insertBooking_38 : decode b1_insertBooking 38 = .ok (.getfield 30, 3) := by decide +kernel
theorem d1_insertBooking_41 : decode b1_insertBooking 41 = .ok (.iload 5, 2) := by decide +kernel
theorem d1_insertBooking_43 : decode b1_insertBooking 43 = .ok (.iconst 1, 1) := by decide +kernel
theorem d1_insertBooking_44 : decode b1_insertBooking 44 = .ok (.isub, 1) := by decide +kernel
theorem d1_insertBooking_45 : decode b1_insertBooking 45 = .ok (.iaload, 1) := by decide +kernel
theorem d1_insertBooking_46 : decode b1_insertBooking 46 = .ok (.aload_n 0, 1) := by decide +kernel
theorem d1_insertBooking_47 : decode b1_insertBooking 47 = .ok (.getfield 34, 3) := by decide +kernel
theorem d1_insertBooking_50 : decode b1_insertBooking 50 = .ok (.iload 5, 2) := by decide +kernel
theorem d1_insertBooking_52 : decode b1_insertBooking 52 = .ok (.iconst 1, 1) := by decide +kernel
theorem d1_insertBooking_53 : decode b1_insertBooking 53 = .ok (.isub, 1) := by decide +kernel
theorem d1_insertBooking_54 : decode b1_insertBooking 54 = .ok (.baload, 1) := by decide +kernel
theorem d1_insertBooking_55 : decode b1_insertBooking 55 = .ok (.aload_n 0, 1) := by decide +kernel
theorem d1_insertBooking_56 : decode b1_insertBooking 56 = .ok (.getfield 38, 3) := by decide +kernel
theorem d1_insertBooking_59 : decode b1_insertBooking 59 = .ok (.iload 5, 2) := by decide +kernel
theorem d1_insertBooking_61 : decode b1_insertBooking 61 = .ok (.iconst 1, 1) := by decide +kernel
theorem d1_insertBooking_62 : decode b1_insertBooking 62 = .ok (.isub, 1) := by decide +kernel
theorem d1_insertBooking_63 : decode b1_insertBooking 63 = .ok (.iaload, 1) := by decide +kernel
theorem d1_insertBooking_64 : decode b1_insertBooking 64 = .ok (.aload_n 0, 1) := by decide +kernel
theorem d1_insertBooking_65 : decode b1_insertBooking 65 = .ok (.getfield 41, 3) := by decide +kernel
theorem d1_insertBooking_68 : decode b1_insertBooking 68 = .ok (.iload 5, 2) := by decide +kernel
theorem d1_insertBooking_70 : decode b1_insertBooking 70 = .ok (.iconst 1, 1) := by decide +kernel
theorem d1_insertBooking_71 : decode b1_insertBooking 71 = .ok (.isub, 1) := by decide +kernel
theorem d1_insertBooking_72 : decode b1_insertBooking 72 = .ok (.iaload, 1) := by decide +kernel
theorem d1_insertBooking_73 : decode b1_insertBooking 73 = .ok (.invokevirtual 59, 3) := by decide +kernel
theorem d1_insertBooking_76 : decode b1_insertBooking 76 = .ok (.iinc 5 (-1), 3) := by decide +kernel
theorem d1_insertBooking_79 : decode b1_insertBooking 79 = .ok (.goto (-63), 3) := by decide +kernel
theorem d1_insertBooking_82 : decode b1_insertBooking 82 = .ok (.aload_n 0, 1) := by decide +kernel
theorem d1_insertBooking_83 : decode b1_insertBooking 83 = .ok (.iload 5, 2) := by decide +kernel
theorem d1_insertBooking_85 : decode b1_insertBooking 85 = .ok (.iload_n 1, 1) := by decide +kernel
theorem d1_insertBooking_86 : decode b1_insertBooking 86 = .ok (.iload_n 2, 1) := by decide +kernel
theorem d1_insertBooking_87 : decode b1_insertBooking 87 = .ok (.iload_n 3, 1) := by decide +kernel
theorem d1_insertBooking_88 : decode b1_insertBooking 88 = .ok (.iload 4, 2) := by decide +kernel
theorem d1_insertBooking_90 : decode b1_insertBooking 90 = .ok (.invokevirtual 59, 3) := by decide +kernel
theorem d1_insertBooking_93 : decode b1_insertBooking 93 = .ok (.aload_n 0, 1) := by decide +kernel
theorem d1_insertBooking_94 : decode b1_insertBooking 94 = .ok (.dup, 1) := by decide +kernel
theorem d1_insertBooking_95 : decode b1_insertBooking 95 = .ok (.getfield 27, 3) := by decide +kernel
theorem d1_insertBooking_98 : decode b1_insertBooking 98 = .ok (.iconst 1, 1) := by decide +kernel
theorem d1_insertBooking_99 : decode b1_insertBooking 99 = .ok (.iadd, 1) := by decide +kernel
theorem d1_insertBooking_100 : decode b1_insertBooking 100 = .ok (.putfield 27, 3) := by decide +kernel
theorem d1_insertBooking_103 : decode b1_insertBooking 103 = .ok (.return_, 1) := by decide +kernel
abbrev b1_removeBooking : ByteArray := prog_3_method_6_code
def y1_removeBooking : MethodName := ⟨"ChannelSchedule$Plan", "removeBooking", "(I)V"⟩
theorem w1_removeBooking : YV y1_removeBooking b1_removeBooking 3 none 1 := ⟨LW_i 657 (by decide +kernel) (by decide +kernel), LW_i 658 (by decide +kernel) (by decide +kernel), LW_i 33 (by decide +kernel) (by decide +kernel), LW_i 659 (by decide +kernel) (by decide +kernel), by decide +kernel, by decide +kernel⟩
theorem d1_removeBooking_0 : decode b1_removeBooking 0 = .ok (.iload_n 1, 1) := by decide +kernel
theorem d1_removeBooking_1 : decode b1_removeBooking 1 = .ok (.iconst 1, 1) := by decide +kernel
theorem d1_removeBooking_2 : decode b1_removeBooking 2 = .ok (.iadd, 1) := by decide +kernel
theorem d1_removeBooking_3 : decode b1_removeBooking 3 = .ok (.istore_n 2, 1) := by decide +kernel
theorem d1_removeBooking_4 : decode b1_removeBooking 4 = .ok (.iload_n 2, 1) := by decide +kernel
theorem d1_removeBooking_5 : decode b1_removeBooking 5 = .ok (.aload_n 0, 1) := by decide +kernel
theorem d1_removeBooking_6 : decode b1_removeBooking 6 = .ok (.getfield 27, 3) := by decide +kernel
theorem d1_removeBooking_9 : decode b1_removeBooking 9 = .ok (.if_icmp .ge 40, 3) := by decide +kernel
theorem d1_removeBooking_12 : decode b1_removeBooking 12 = .ok (.aload_n 0, 1) := by decide +kernel
theorem d1_removeBooking_13 : decode b1_removeBooking 13 = .ok (.iload_n 2, 1) := by decide +kernel
theorem d1_removeBooking_14 : decode b1_removeBooking 14 = .ok (.iconst 1, 1) := by decide +kernel
theorem d1_removeBooking_15 : decode b1_removeBooking 15 = .ok (.isub, 1) := by decide +kernel
theorem d1_removeBooking_16 : decode b1_removeBooking 16 = .ok (.aload_n 0, 1) := by decide +kernel
theorem d1_removeBooking_17 : decode b1_removeBooking 17 = .ok (.getfield 30, 3) := by decide +kernel
theorem d1_removeBooking_20 : decode b1_removeBooking 20 = .ok (.iload_n 2, 1) := by decide +kernel
theorem d1_removeBooking_21 : decode b1_removeBooking 21 = .ok (.iaload, 1) := by decide +kernel
theorem d1_removeBooking_22 : decode b1_removeBooking 22 = .ok (.aload_n 0, 1) := by decide +kernel
theorem d1_removeBooking_23 : decode b1_removeBooking 23 = .ok (.getfield 34, 3) := by decide +kernel
theorem d1_removeBooking_26 : decode b1_removeBooking 26 = .ok (.iload_n 2, 1) := by decide +kernel
theorem d1_removeBooking_27 : decode b1_removeBooking 27 = .ok (.baload, 1) := by decide +kernel
theorem d1_removeBooking_28 : decode b1_removeBooking 28 = .ok (.aload_n 0, 1) := by decide +kernel
theorem d1_removeBooking_29 : decode b1_removeBooking 29 = .ok (.getfield 38, 3) := by decide +kernel
theorem d1_removeBooking_32 : decode b1_removeBooking 32 = .ok (.iload_n 2, 1) := by decide +kernel
theorem d1_removeBooking_33 : decode b1_removeBooking 33 = .ok (.iaload, 1) := by decide +kernel
theorem d1_removeBooking_34 : decode b1_removeBooking 34 = .ok (.aload_n 0, 1) := by decide +kernel
theorem d1_removeBooking_35 : decode b1_removeBooking 35 = .ok (.getfield 41, 3) := by decide +kernel
theorem d1_removeBooking_38 : decode b1_removeBooking 38 = .ok (.iload_n 2, 1) := by decide +kernel
theorem d1_removeBooking_39 : decode b1_removeBooking 39 = .ok (.iaload, 1) := by decide +kernel
theorem d1_removeBooking_40 : decode b1_removeBooking 40 = .ok (.invokevirtual 59, 3) := by decide +kernel
theorem d1_removeBooking_43 : decode b1_removeBooking 43 = .ok (.iinc 2 1, 3) := by decide +kernel
theorem d1_removeBooking_46 : decode b1_removeBooking 46 = .ok (.goto (-42), 3) := by decide +kernel
theorem d1_removeBooking_49 : decode b1_removeBooking 49 = .ok (.aload_n 0, 1) := by decide +kernel
theorem d1_removeBooking_50 : decode b1_removeBooking 50 = .ok (.dup, 1) := by decide +kernel
theorem d1_removeBooking_51 : decode b1_removeBooking 51 = .ok (.getfield 27, 3) := by decide +kernel
theorem d1_removeBooking_54 : decode b1_removeBooking 54 = .ok (.iconst 1, 1) := by decide +kernel
theorem d1_removeBooking_55 : decode b1_removeBooking 55 = .ok (.isub, 1) := by decide +kernel
theorem d1_removeBooking_56 : decode b1_removeBooking 56 = .ok (.putfield 27, 3) := by decide +kernel
theorem d1_removeBooking_59 : decode b1_removeBooking 59 = .ok (.return_, 1) := by decide +kernel
abbrev b1_putRequest : ByteArray := prog_3_method_7_code
def y1_putRequest : MethodName := ⟨"ChannelSchedule$Plan", "putRequest", "(IIZII)V"⟩
theorem w1_putRequest : YV y1_putRequest b1_putRequest 6 none 5 := ⟨LW_i 609 (by decide +kernel) (by decide +kernel), LW_i 610 (by decide +kernel) (by decide +kernel), LW_i 33 (by decide +kernel) (by decide +kernel), LW_i 611 (by decide +kernel) (by decide +kernel), by decide +kernel, by decide +kernel⟩
theorem d1_putRequest_0 : decode b1_putRequest 0 = .ok (.aload_n 0, 1) := by decide +kernel
theorem d1_putRequest_1 : decode b1_putRequest 1 = .ok (.getfield 47, 3) := by decide +kernel
theorem d1_putRequest_4 : decode b1_putRequest 4 = .ok (.iload_n 1, 1) := by decide +kernel
theorem d1_putRequest_5 : decode b1_putRequest 5 = .ok (.iload_n 2, 1) := by decide +kernel
theorem d1_putRequest_6 : decode b1_putRequest 6 = .ok (.iastore, 1) := by decide +kernel
theorem d1_putRequest_7 : decode b1_putRequest 7 = .ok (.aload_n 0, 1) := by decide +kernel
theorem d1_putRequest_8 : decode b1_putRequest 8 = .ok (.getfield 50, 3) := by decide +kernel
theorem d1_putRequest_11 : decode b1_putRequest 11 = .ok (.iload_n 1, 1) := by decide +kernel
theorem d1_putRequest_12 : decode b1_putRequest 12 = .ok (.iload_n 3, 1) := by decide +kernel
theorem d1_putRequest_13 : decode b1_putRequest 13 = .ok (.bastore, 1) := by decide +kernel
theorem d1_putRequest_14 : decode b1_putRequest 14 = .ok (.aload_n 0, 1) := by decide +kernel
theorem d1_putRequest_15 : decode b1_putRequest 15 = .ok (.getfield 53, 3) := by decide +kernel
theorem d1_putRequest_18 : decode b1_putRequest 18 = .ok (.iload_n 1, 1) := by decide +kernel
theorem d1_putRequest_19 : decode b1_putRequest 19 = .ok (.iload 4, 2) := by decide +kernel
theorem d1_putRequest_21 : decode b1_putRequest 21 = .ok (.iastore, 1) := by decide +kernel
theorem d1_putRequest_22 : decode b1_putRequest 22 = .ok (.aload_n 0, 1) := by decide +kernel
theorem d1_putRequest_23 : decode b1_putRequest 23 = .ok (.getfield 56, 3) := by decide +kernel
theorem d1_putRequest_26 : decode b1_putRequest 26 = .ok (.iload_n 1, 1) := by decide +kernel
theorem d1_putRequest_27 : decode b1_putRequest 27 = .ok (.iload 5, 2) := by decide +kernel
theorem d1_putRequest_29 : decode b1_putRequest 29 = .ok (.iastore, 1) := by decide +kernel
theorem d1_putRequest_30 : decode b1_putRequest 30 = .ok (.return_, 1) := by decide +kernel
abbrev b1_addRequest : ByteArray := prog_3_method_8_code
def y1_addRequest : MethodName := ⟨"ChannelSchedule$Plan", "addRequest", "(IZII)V"⟩
theorem w1_addRequest : YV y1_addRequest b1_addRequest 5 none 4 := ⟨LW_i 641 (by decide +kernel) (by decide +kernel), LW_i 642 (by decide +kernel) (by decide +kernel), LW_i 33 (by decide +kernel) (by decide +kernel), LW_i 643 (by decide +kernel) (by decide +kernel), by decide +kernel, by decide +kernel⟩
theorem d1_addRequest_0 : decode b1_addRequest 0 = .ok (.aload_n 0, 1) := by decide +kernel
theorem d1_addRequest_1 : decode b1_addRequest 1 = .ok (.getfield 44, 3) := by decide +kernel
theorem d1_addRequest_4 : decode b1_addRequest 4 = .ok (.bipush 8, 2) := by decide +kernel
theorem d1_addRequest_6 : decode b1_addRequest 6 = .ok (.if_icmp .ge 26, 3) := by decide +kernel
theorem d1_addRequest_9 : decode b1_addRequest 9 = .ok (.aload_n 0, 1) := by decide +kernel
theorem d1_addRequest_10 : decode b1_addRequest 10 = .ok (.aload_n 0, 1) := by decide +kernel
theorem d1_addRequest_11 : decode b1_addRequest 11 = .ok (.getfield 44, 3) := by decide +kernel
theorem d1_addRequest_14 : decode b1_addRequest 14 = .ok (.iload_n 1, 1) := by decide +kernel
theorem d1_addRequest_15 : decode b1_addRequest 15 = .ok (.iload_n 2, 1) := by decide +kernel
theorem d1_addRequest_16 : decode b1_addRequest 16 = .ok (.iload_n 3, 1) := by decide +kernel
theorem d1_addRequest_17 : decode b1_addRequest 17 = .ok (.iload 4, 2) := by decide +kernel
theorem d1_addRequest_19 : decode b1_addRequest 19 = .ok (.invokevirtual 63, 3) := by decide +kernel
theorem d1_addRequest_22 : decode b1_addRequest 22 = .ok (.aload_n 0, 1) := by decide +kernel
theorem d1_addRequest_23 : decode b1_addRequest 23 = .ok (.dup, 1) := by decide +kernel
theorem d1_addRequest_24 : decode b1_addRequest 24 = .ok (.getfield 44, 3) := by decide +kernel
theorem d1_addRequest_27 : decode b1_addRequest 27 = .ok (.iconst 1, 1) := by decide +kernel
theorem d1_addRequest_28 : decode b1_addRequest 28 = .ok (.iadd, 1) := by decide +kernel
theorem d1_addRequest_29 : decode b1_addRequest 29 = .ok (.putfield 44, 3) := by decide +kernel
theorem d1_addRequest_32 : decode b1_addRequest 32 = .ok (.return_, 1) := by decide +kernel
abbrev b1_removeRequest : ByteArray := prog_3_method_9_code
def y1_removeRequest : MethodName := ⟨"ChannelSchedule$Plan", "removeRequest", "(I)V"⟩
theorem w1_removeRequest : YV y1_removeRequest b1_removeRequest 3 none 1 := ⟨LW_i 665 (by decide +kernel) (by decide +kernel), LW_i 666 (by decide +kernel) (by decide +kernel), LW_i 33 (by decide +kernel) (by decide +kernel), LW_i 667 (by decide +kernel) (by decide +kernel), by decide +kernel, by decide +kernel⟩
theorem d1_removeRequest_0 : decode b1_removeRequest 0 = .ok (.iload_n 1, 1) := by decide +kernel
theorem d1_removeRequest_1 : decode b1_removeRequest 1 = .ok (.iconst 1, 1) := by decide +kernel
theorem d1_removeRequest_2 : decode b1_removeRequest 2 = .ok (.iadd, 1) := by decide +kernel
theorem d1_removeRequest_3 : decode b1_removeRequest 3 = .ok (.istore_n 2, 1) := by decide +kernel
theorem d1_removeRequest_4 : decode b1_removeRequest 4 = .ok (.iload_n 2, 1) := by decide +kernel
theorem d1_removeRequest_5 : decode b1_removeRequest 5 = .ok (.aload_n 0, 1) := by decide +kernel
theorem d1_removeRequest_6 : decode b1_removeRequest 6 = .ok (.getfield 44, 3) := by decide +kernel
theorem d1_removeRequest_9 : decode b1_removeRequest 9 = .ok (.if_icmp .ge 40, 3) := by decide +kernel
theorem d1_removeRequest_12 : decode b1_removeRequest 12 = .ok (.aload_n 0, 1) := by decide +kernel
theorem d1_removeRequest_13 : decode b1_removeRequest 13 = .ok (.iload_n 2, 1) := by decide +kernel
theorem d1_removeRequest_14 : decode b1_removeRequest 14 = .ok (.iconst 1, 1) := by decide +kernel
theorem d1_removeRequest_15 : decode b1_removeRequest 15 = .ok (.isub, 1) := by decide +kernel
theorem d1_removeRequest_16 : decode b1_removeRequest 16 = .ok (.aload_n 0, 1) := by decide +kernel
theorem d1_removeRequest_17 : decode b1_removeRequest 17 = .ok (.getfield 47, 3) := by decide +kernel
theorem d1_removeRequest_20 : decode b1_removeRequest 20 = .ok (.iload_n 2, 1) := by decide +kernel
theorem d1_removeRequest_21 : decode b1_removeRequest 21 = .ok (.iaload, 1) := by decide +kernel
theorem d1_removeRequest_22 : decode b1_removeRequest 22 = .ok (.aload_n 0, 1) := by decide +kernel
theorem d1_removeRequest_23 : decode b1_removeRequest 23 = .ok (.getfield 50, 3) := by decide +kernel
theorem d1_removeRequest_26 : decode b1_removeRequest 26 = .ok (.iload_n 2, 1) := by decide +kernel
theorem d1_removeRequest_27 : decode b1_removeRequest 27 = .ok (.baload, 1) := by decide +kernel
theorem d1_removeRequest_28 : decode b1_removeRequest 28 = .ok (.aload_n 0, 1) := by decide +kernel
theorem d1_removeRequest_29 : decode b1_removeRequest 29 = .ok (.getfield 53, 3) := by decide +kernel
theorem d1_removeRequest_32 : decode b1_removeRequest 32 = .ok (.iload_n 2, 1) := by decide +kernel
theorem d1_removeRequest_33 : decode b1_removeRequest 33 = .ok (.iaload, 1) := by decide +kernel
theorem d1_removeRequest_34 : decode b1_removeRequest 34 = .ok (.aload_n 0, 1) := by decide +kernel
theorem d1_removeRequest_35 : decode b1_removeRequest 35 = .ok (.getfield 56, 3) := by decide +kernel
theorem d1_removeRequest_38 : decode b1_removeRequest 38 = .ok (.iload_n 2, 1) := by decide +kernel
theorem d1_removeRequest_39 : decode b1_removeRequest 39 = .ok (.iaload, 1) := by decide +kernel
theorem d1_removeRequest_40 : decode b1_removeRequest 40 = .ok (.invokevirtual 63, 3) := by decide +kernel
theorem d1_removeRequest_43 : decode b1_removeRequest 43 = .ok (.iinc 2 1, 3) := by decide +kernel
theorem d1_removeRequest_46 : decode b1_removeRequest 46 = .ok (.goto (-42), 3) := by decide +kernel
theorem d1_removeRequest_49 : decode b1_removeRequest 49 = .ok (.aload_n 0, 1) := by decide +kernel
theorem d1_removeRequest_50 : decode b1_removeRequest 50 = .ok (.dup, 1) := by decide +kernel
theorem d1_removeRequest_51 : decode b1_removeRequest 51 = .ok (.getfield 44, 3) := by decide +kernel
theorem d1_removeRequest_54 : decode b1_removeRequest 54 = .ok (.iconst 1, 1) := by decide +kernel
theorem d1_removeRequest_55 : decode b1_removeRequest 55 = .ok (.isub, 1) := by decide +kernel
theorem d1_removeRequest_56 : decode b1_removeRequest 56 = .ok (.putfield 44, 3) := by decide +kernel
theorem d1_removeRequest_59 : decode b1_removeRequest 59 = .ok (.return_, 1) := by decide +kernel
abbrev b2_init : ByteArray := prog_4_method_1_code
def y2_init : MethodName := ⟨"ChannelSchedule$Script", "<init>", "()V"⟩
theorem w2_init : YI y2_init b2_init 1 0 := ⟨LW_i 102 (by decide +kernel) (by decide +kernel), LW_i 30 (by decide +kernel) (by decide +kernel), LW_i 103 (by decide +kernel) (by decide +kernel), by decide +kernel, by decide +kernel, rfl⟩
theorem d2_init_0 : decode b2_init 0 = .ok (.aload_n 0, 1) := by decide +kernel
theorem d2_init_1 : decode b2_init 1 = .ok (.invokespecial 3, 3) := by decide +kernel
theorem d2_init_4 : decode b2_init 4 = .ok (.aload_n 0, 1) := by decide +kernel
theorem d2_init_5 : decode b2_init 5 = .ok (.iconst 0, 1) := by decide +kernel
theorem d2_init_6 : decode b2_init 6 = .ok (.putfield 9, 3) := by decide +kernel
theorem d2_init_9 : decode b2_init 9 = .ok (.aload_n 0, 1) := by decide +kernel
theorem d2_init_10 : decode b2_init 10 = .ok (.bipush 30, 2) := by decide +kernel
theorem d2_init_12 : decode b2_init 12 = .ok (.newarray .int, 2) := by decide +kernel
theorem d2_init_14 : decode b2_init 14 = .ok (.putfield 15, 3) := by decide +kernel
theorem d2_init_17 : decode b2_init 17 = .ok (.aload_n 0, 1) := by decide +kernel
theorem d2_init_18 : decode b2_init 18 = .ok (.bipush 30, 2) := by decide +kernel
theorem d2_init_20 : decode b2_init 20 = .ok (.newarray .int, 2) := by decide +kernel
theorem d2_init_22 : decode b2_init 22 = .ok (.putfield 19, 3) := by decide +kernel
theorem d2_init_25 : decode b2_init 25 = .ok (.aload_n 0, 1) := by decide +kernel
theorem d2_init_26 : decode b2_init 26 = .ok (.bipush 30, 2) := by decide +kernel
theorem d2_init_28 : decode b2_init 28 = .ok (.newarray .boolean, 2) := by decide +kernel
theorem d2_init_30 : decode b2_init 30 = .ok (.putfield 22, 3) := by decide +kernel
theorem d2_init_33 : decode b2_init 33 = .ok (.aload_n 0, 1) := by decide +kernel
theorem d2_init_34 : decode b2_init 34 = .ok (.bipush 30, 2) := by decide +kernel
theorem d2_init_36 : decode b2_init 36 = .ok (.newarray .int, 2) := by decide +kernel
theorem d2_init_38 : decode b2_init 38 = .ok (.putfield 26, 3) := by decide +kernel
theorem d2_init_41 : decode b2_init 41 = .ok (.aload_n 0, 1) := by decide +kernel
theorem d2_init_42 : decode b2_init 42 = .ok (.bipush 30, 2) := by decide +kernel
theorem d2_init_44 : decode b2_init 44 = .ok (.newarray .int, 2) := by decide +kernel
theorem d2_init_46 : decode b2_init 46 = .ok (.putfield 29, 3) := by decide +kernel
theorem d2_init_49 : decode b2_init 49 = .ok (.return_, 1) := by decide +kernel
abbrev b3_init : ByteArray := prog_5_method_1_code
def y3_init : MethodName := ⟨"ChannelSchedule$Setup", "<init>", "()V"⟩
theorem w3_init : YI y3_init b3_init 2 0 := ⟨LW_i 129 (by decide +kernel) (by decide +kernel), LW_i 31 (by decide +kernel) (by decide +kernel), LW_i 130 (by decide +kernel) (by decide +kernel), by decide +kernel, by decide +kernel, rfl⟩
theorem d3_init_0 : decode b3_init 0 = .ok (.aload_n 0, 1) := by decide +kernel
theorem d3_init_1 : decode b3_init 1 = .ok (.invokespecial 3, 3) := by decide +kernel
theorem d3_init_4 : decode b3_init 4 = .ok (.aload_n 0, 1) := by decide +kernel
theorem d3_init_5 : decode b3_init 5 = .ok (.iconst 0, 1) := by decide +kernel
theorem d3_init_6 : decode b3_init 6 = .ok (.putfield 9, 3) := by decide +kernel
theorem d3_init_9 : decode b3_init 9 = .ok (.aload_n 0, 1) := by decide +kernel
theorem d3_init_10 : decode b3_init 10 = .ok (.iconst 0, 1) := by decide +kernel
theorem d3_init_11 : decode b3_init 11 = .ok (.putfield 15, 3) := by decide +kernel
theorem d3_init_14 : decode b3_init 14 = .ok (.aload_n 0, 1) := by decide +kernel
theorem d3_init_15 : decode b3_init 15 = .ok (.iconst 0, 1) := by decide +kernel
theorem d3_init_16 : decode b3_init 16 = .ok (.putfield 18, 3) := by decide +kernel
theorem d3_init_19 : decode b3_init 19 = .ok (.aload_n 0, 1) := by decide +kernel
theorem d3_init_20 : decode b3_init 20 = .ok (.iconst 0, 1) := by decide +kernel
theorem d3_init_21 : decode b3_init 21 = .ok (.putfield 21, 3) := by decide +kernel
theorem d3_init_24 : decode b3_init 24 = .ok (.aload_n 0, 1) := by decide +kernel
theorem d3_init_25 : decode b3_init 25 = .ok (.bipush 10, 2) := by decide +kernel
theorem d3_init_27 : decode b3_init 27 = .ok (.anewarray 24, 3) := by decide +kernel
theorem d3_init_30 : decode b3_init 30 = .ok (.putfield 26, 3) := by decide +kernel
theorem d3_init_33 : decode b3_init 33 = .ok (.iconst 0, 1) := by decide +kernel
theorem d3_init_34 : decode b3_init 34 = .ok (.istore_n 1, 1) := by decide +kernel
theorem d3_init_35 : decode b3_init 35 = .ok (.iload_n 1, 1) := by decide +kernel
theorem d3_init_36 : decode b3_init 36 = .ok (.bipush 10, 2) := by decide +kernel
theorem d3_init_38 : decode b3_init 38 = .ok (.if_icmp .ge 22, 3) := by decide +kernel
theorem d3_init_41 : decode b3_init 41 = .ok (.aload_n 0, 1) := by decide +kernel
theorem d3_init_42 : decode b3_init 42 = .ok (.getfield 26, 3) := by decide +kernel
theorem d3_init_45 : decode b3_init 45 = .ok (.iload_n 1, 1) := by decide +kernel
theorem d3_init_46 : decode b3_init 46 = .ok (.new 24, 3) := by decide +kernel
theorem d3_init_49 : decode b3_init 49 = .ok (.dup, 1) := by decide +kernel
theorem d3_init_50 : decode b3_init 50 = .ok (.invokespecial 30, 3) := by decide +kernel
theorem d3_init_53 : decode b3_init 53 = .ok (.aastore, 1) := by decide +kernel
theorem d3_init_54 : decode b3_init 54 = .ok (.iinc 1 1, 3) := by decide +kernel
theorem d3_init_57 : decode b3_init 57 = .ok (.goto (-22), 3) := by decide +kernel
theorem d3_init_60 : decode b3_init 60 = .ok (.return_, 1) := by decide +kernel
abbrev b3_shipNamed : ByteArray := prog_5_method_2_code
def y3_shipNamed : MethodName := ⟨"ChannelSchedule$Setup", "shipNamed", "([BII)I"⟩
theorem w3_shipNamed : YV y3_shipNamed b3_shipNamed 5 (some .int) 3 := ⟨LW_i 358 (by decide +kernel) (by decide +kernel), LW_i 359 (by decide +kernel) (by decide +kernel), LW_i 31 (by decide +kernel) (by decide +kernel), LW_i 360 (by decide +kernel) (by decide +kernel), by decide +kernel, by decide +kernel⟩
theorem d3_shipNamed_0 : decode b3_shipNamed 0 = .ok (.iconst 0, 1) := by decide +kernel
theorem d3_shipNamed_1 : decode b3_shipNamed 1 = .ok (.istore 4, 2) := by decide +kernel
theorem d3_shipNamed_3 : decode b3_shipNamed 3 = .ok (.iload 4, 2) := by decide +kernel
theorem d3_shipNamed_5 : decode b3_shipNamed 5 = .ok (.aload_n 0, 1) := by decide +kernel
theorem d3_shipNamed_6 : decode b3_shipNamed 6 = .ok (.getfield 21, 3) := by decide +kernel
theorem d3_shipNamed_9 : decode b3_shipNamed 9 = .ok (.if_icmp .ge 28, 3) := by decide +kernel
theorem d3_shipNamed_12 : decode b3_shipNamed 12 = .ok (.aload_n 0, 1) := by decide +kernel
theorem d3_shipNamed_13 : decode b3_shipNamed 13 = .ok (.getfield 26, 3) := by decide +kernel
theorem d3_shipNamed_16 : decode b3_shipNamed 16 = .ok (.iload 4, 2) := by decide +kernel
theorem d3_shipNamed_18 : decode b3_shipNamed 18 = .ok (.aaload, 1) := by decide +kernel
theorem d3_shipNamed_19 : decode b3_shipNamed 19 = .ok (.aload_n 1, 1) := by decide +kernel
theorem d3_shipNamed_20 : decode b3_shipNamed 20 = .ok (.iload_n 2, 1) := by decide +kernel
theorem d3_shipNamed_21 : decode b3_shipNamed 21 = .ok (.iload_n 3, 1) := by decide +kernel
theorem d3_shipNamed_22 : decode b3_shipNamed 22 = .ok (.invokevirtual 31, 3) := by decide +kernel
theorem d3_shipNamed_25 : decode b3_shipNamed 25 = .ok (.ifCond .eq 6, 3) := by decide +kernel
theorem d3_shipNamed_28 : decode b3_shipNamed 28 = .ok (.iload 4, 2) := by decide +kernel
theorem d3_shipNamed_30 : decode b3_shipNamed 30 = .ok (.ireturn, 1) := by decide +kernel
theorem d3_shipNamed_31 : decode b3_shipNamed 31 = .ok (.iinc 4 1, 3) := by decide +kernel
theorem d3_shipNamed_34 : decode b3_shipNamed 34 = .ok (.goto (-31), 3) := by decide +kernel
theorem d3_shipNamed_37 : decode b3_shipNamed 37 = .ok (.iconst (-1), 1) := by decide +kernel
theorem d3_shipNamed_38 : decode b3_shipNamed 38 = .ok (.ireturn, 1) := by decide +kernel
abbrev b4_init : ByteArray := prog_6_method_1_code
def y4_init : MethodName := ⟨"ChannelSchedule$Ship", "<init>", "()V"⟩
theorem w4_init : YI y4_init b4_init 1 0 := ⟨LW_i 136 (by decide +kernel) (by decide +kernel), LW_i 32 (by decide +kernel) (by decide +kernel), LW_i 137 (by decide +kernel) (by decide +kernel), by decide +kernel, by decide +kernel, rfl⟩
theorem d4_init_0 : decode b4_init 0 = .ok (.aload_n 0, 1) := by decide +kernel
theorem d4_init_1 : decode b4_init 1 = .ok (.invokespecial 3, 3) := by decide +kernel
theorem d4_init_4 : decode b4_init 4 = .ok (.aload_n 0, 1) := by decide +kernel
theorem d4_init_5 : decode b4_init 5 = .ok (.bipush 6, 2) := by decide +kernel
theorem d4_init_7 : decode b4_init 7 = .ok (.newarray .byte, 2) := by decide +kernel
theorem d4_init_9 : decode b4_init 9 = .ok (.putfield 9, 3) := by decide +kernel
theorem d4_init_12 : decode b4_init 12 = .ok (.aload_n 0, 1) := by decide +kernel
theorem d4_init_13 : decode b4_init 13 = .ok (.iconst 0, 1) := by decide +kernel
theorem d4_init_14 : decode b4_init 14 = .ok (.putfield 15, 3) := by decide +kernel
theorem d4_init_17 : decode b4_init 17 = .ok (.aload_n 0, 1) := by decide +kernel
theorem d4_init_18 : decode b4_init 18 = .ok (.iconst 0, 1) := by decide +kernel
theorem d4_init_19 : decode b4_init 19 = .ok (.putfield 19, 3) := by decide +kernel
theorem d4_init_22 : decode b4_init 22 = .ok (.aload_n 0, 1) := by decide +kernel
theorem d4_init_23 : decode b4_init 23 = .ok (.iconst 0, 1) := by decide +kernel
theorem d4_init_24 : decode b4_init 24 = .ok (.putfield 22, 3) := by decide +kernel
theorem d4_init_27 : decode b4_init 27 = .ok (.aload_n 0, 1) := by decide +kernel
theorem d4_init_28 : decode b4_init 28 = .ok (.iconst 0, 1) := by decide +kernel
theorem d4_init_29 : decode b4_init 29 = .ok (.putfield 25, 3) := by decide +kernel
theorem d4_init_32 : decode b4_init 32 = .ok (.return_, 1) := by decide +kernel
abbrev b4_takeName : ByteArray := prog_6_method_2_code
def y4_takeName : MethodName := ⟨"ChannelSchedule$Ship", "takeName", "([BII)V"⟩
theorem w4_takeName : YV y4_takeName b4_takeName 5 none 3 := ⟨LW_i 366 (by decide +kernel) (by decide +kernel), LW_i 367 (by decide +kernel) (by decide +kernel), LW_i 32 (by decide +kernel) (by decide +kernel), LW_i 368 (by decide +kernel) (by decide +kernel), by decide +kernel, by decide +kernel⟩
theorem d4_takeName_0 : decode b4_takeName 0 = .ok (.aload_n 0, 1) := by decide +kernel
theorem d4_takeName_1 : decode b4_takeName 1 = .ok (.iload_n 3, 1) := by decide +kernel
theorem d4_takeName_2 : decode b4_takeName 2 = .ok (.bipush 6, 2) := by decide +kernel
theorem d4_takeName_4 : decode b4_takeName 4 = .ok (.if_icmp .ge 7, 3) := by decide +kernel
theorem d4_takeName_7 : decode b4_takeName 7 = .ok (.iload_n 3, 1) := by decide +kernel
theorem d4_takeName_8 : decode b4_takeName 8 = .ok (.goto 5, 3) := by decide +kernel
theorem d4_takeName_11 : decode b4_takeName 11 = .ok (.bipush 6, 2) := by decide +kernel
theorem d4_takeName_13 : decode b4_takeName 13 = .ok (.putfield 15, 3) := by decide +kernel
theorem d4_takeName_16 : decode b4_takeName 16 = .ok (.iconst 0, 1) := by decide +kernel
theorem d4_takeName_17 : decode b4_takeName 17 = .ok (.istore 4, 2) := by decide +kernel
theorem d4_takeName_19 : decode b4_takeName 19 = .ok (.iload 4, 2) := by decide +kernel
theorem d4_takeName_21 : decode b4_takeName 21 = .ok (.aload_n 0, 1) := by decide +kernel
theorem d4_takeName_22 : decode b4_takeName 22 = .ok (.getfield 15, 3) := by decide +kernel
theorem d4_takeName_25 : decode b4_takeName 25 = .ok (.if_icmp .ge 22, 3) := by decide +kernel
theorem d4_takeName_28 : decode b4_takeName 28 = .ok (.aload_n 0, 1) := by decide +kernel
theorem d4_takeName_29 : decode b4_takeName 29 = .ok (.getfield 9, 3) := by decide +kernel
theorem d4_takeName_32 : decode b4_takeName 32 = .ok (.iload 4, 2) := by decide +kernel
theorem d4_takeName_34 : decode b4_takeName 34 = .ok (.aload_n 1, 1) := by decide +kernel
theorem d4_takeName_35 : decode b4_takeName 35 = .ok (.iload_n 2, 1) := by decide +kernel
theorem d4_takeName_36 : decode b4_takeName 36 = .ok (.iload 4, 2) := by decide +kernel
theorem d4_takeName_38 : decode b4_takeName 38 = .ok (.iadd, 1) := by decide +kernel
theorem d4_takeName_39 : decode b4_takeName 39 = .ok (.baload, 1) := by decide +kernel
theorem d4_takeName_40 : decode b4_takeName 40 = .ok (.bastore, 1) := by decide +kernel
theorem d4_takeName_41 : decode b4_takeName 41 = .ok (.iinc 4 1, 3) := by decide +kernel
theorem d4_takeName_44 : decode b4_takeName 44 = .ok (.goto (-25), 3) := by decide +kernel
theorem d4_takeName_47 : decode b4_takeName 47 = .ok (.return_, 1) := by decide +kernel
abbrev b4_hasName : ByteArray := prog_6_method_3_code
def y4_hasName : MethodName := ⟨"ChannelSchedule$Ship", "hasName", "([BII)Z"⟩
theorem w4_hasName : YV y4_hasName b4_hasName 5 (some .boolean) 3 := ⟨LW_i 362 (by decide +kernel) (by decide +kernel), LW_i 363 (by decide +kernel) (by decide +kernel), LW_i 32 (by decide +kernel) (by decide +kernel), LW_i 364 (by decide +kernel) (by decide +kernel), by decide +kernel, by decide +kernel⟩
theorem d4_hasName_0 : decode b4_hasName 0 = .ok (.iload_n 3, 1) := by decide +kernel
theorem d4_hasName_1 : decode b4_hasName 1 = .ok (.aload_n 0, 1) := by decide +kernel
theorem d4_hasName_2 : decode b4_hasName 2 = .ok (.getfield 15, 3) := by decide +kernel
theorem d4_hasName_5 : decode b4_hasName 5 = .ok (.if_icmp .eq 5, 3) := by decide +kernel
theorem d4_hasName_8 : decode b4_hasName 8 = .ok (.iconst 0, 1) := by decide +kernel
theorem d4_hasName_9 : decode b4_hasName 9 = .ok (.ireturn, 1) := by decide +kernel
theorem d4_hasName_10 : decode b4_hasName 10 = .ok (.iconst 0, 1) := by decide +kernel
theorem d4_hasName_11 : decode b4_hasName 11 = .ok (.istore 4, 2) := by decide +kernel
theorem d4_hasName_13 : decode b4_hasName 13 = .ok (.iload 4, 2) := by decide +kernel
theorem d4_hasName_15 : decode b4_hasName 15 = .ok (.aload_n 0, 1) := by decide +kernel
theorem d4_hasName_16 : decode b4_hasName 16 = .ok (.getfield 15, 3) := by decide +kernel
theorem d4_hasName_19 : decode b4_hasName 19 = .ok (.if_icmp .ge 27, 3) := by decide +kernel
theorem d4_hasName_22 : decode b4_hasName 22 = .ok (.aload_n 0, 1) := by decide +kernel
theorem d4_hasName_23 : decode b4_hasName 23 = .ok (.getfield 9, 3) := by decide +kernel
theorem d4_hasName_26 : decode b4_hasName 26 = .ok (.iload 4, 2) := by decide +kernel
theorem d4_hasName_28 : decode b4_hasName 28 = .ok (.baload, 1) := by decide +kernel
theorem d4_hasName_29 : decode b4_hasName 29 = .ok (.aload_n 1, 1) := by decide +kernel
theorem d4_hasName_30 : decode b4_hasName 30 = .ok (.iload_n 2, 1) := by decide +kernel
theorem d4_hasName_31 : decode b4_hasName 31 = .ok (.iload 4, 2) := by decide +kernel
theorem d4_hasName_33 : decode b4_hasName 33 = .ok (.iadd, 1) := by decide +kernel
theorem d4_hasName_34 : decode b4_hasName 34 = .ok (.baload, 1) := by decide +kernel
theorem d4_hasName_35 : decode b4_hasName 35 = .ok (.if_icmp .eq 5, 3) := by decide +kernel
theorem d4_hasName_38 : decode b4_hasName 38 = .ok (.iconst 0, 1) := by decide +kernel
theorem d4_hasName_39 : decode b4_hasName 39 = .ok (.ireturn, 1) := by decide +kernel
theorem d4_hasName_40 : decode b4_hasName 40 = .ok (.iinc 4 1, 3) := by decide +kernel
theorem d4_hasName_43 : decode b4_hasName 43 = .ok (.goto (-30), 3) := by decide +kernel
theorem d4_hasName_46 : decode b4_hasName 46 = .ok (.iconst 1, 1) := by decide +kernel
theorem d4_hasName_47 : decode b4_hasName 47 = .ok (.ireturn, 1) := by decide +kernel
abbrev b5_init : ByteArray := prog_1_method_1_code
def y5_init : MethodName := ⟨"ChannelSchedule", "<init>", "()V"⟩
theorem w5_init : YI y5_init b5_init 2 0 := ⟨LW_i 56 (by decide +kernel) (by decide +kernel), LW_i 28 (by decide +kernel) (by decide +kernel), LW_i 57 (by decide +kernel) (by decide +kernel), by decide +kernel, by decide +kernel, rfl⟩
theorem d5_init_0 : decode b5_init 0 = .ok (.aload_n 0, 1) := by decide +kernel
theorem d5_init_1 : decode b5_init 1 = .ok (.invokespecial 1, 3) := by decide +kernel
theorem d5_init_4 : decode b5_init 4 = .ok (.aload_n 0, 1) := by decide +kernel
theorem d5_init_5 : decode b5_init 5 = .ok (.new 7, 3) := by decide +kernel
theorem d5_init_8 : decode b5_init 8 = .ok (.dup, 1) := by decide +kernel
theorem d5_init_9 : decode b5_init 9 = .ok (.invokespecial 9, 3) := by decide +kernel
theorem d5_init_12 : decode b5_init 12 = .ok (.putfield 10, 3) := by decide +kernel
theorem d5_init_15 : decode b5_init 15 = .ok (.aload_n 0, 1) := by decide +kernel
theorem d5_init_16 : decode b5_init 16 = .ok (.new 16, 3) := by decide +kernel
theorem d5_init_19 : decode b5_init 19 = .ok (.dup, 1) := by decide +kernel
theorem d5_init_20 : decode b5_init 20 = .ok (.invokespecial 18, 3) := by decide +kernel
theorem d5_init_23 : decode b5_init 23 = .ok (.putfield 19, 3) := by decide +kernel
theorem d5_init_26 : decode b5_init 26 = .ok (.aload_n 0, 1) := by decide +kernel
theorem d5_init_27 : decode b5_init 27 = .ok (.new 23, 3) := by decide +kernel
theorem d5_init_30 : decode b5_init 30 = .ok (.dup, 1) := by decide +kernel
theorem d5_init_31 : decode b5_init 31 = .ok (.invokespecial 25, 3) := by decide +kernel
theorem d5_init_34 : decode b5_init 34 = .ok (.putfield 26, 3) := by decide +kernel
theorem d5_init_37 : decode b5_init 37 = .ok (.aload_n 0, 1) := by decide +kernel
theorem d5_init_38 : decode b5_init 38 = .ok (.new 23, 3) := by decide +kernel
theorem d5_init_41 : decode b5_init 41 = .ok (.dup, 1) := by decide +kernel
theorem d5_init_42 : decode b5_init 42 = .ok (.invokespecial 25, 3) := by decide +kernel
theorem d5_init_45 : decode b5_init 45 = .ok (.putfield 30, 3) := by decide +kernel
theorem d5_init_48 : decode b5_init 48 = .ok (.aload_n 0, 1) := by decide +kernel
theorem d5_init_49 : decode b5_init 49 = .ok (.new 33, 3) := by decide +kernel
theorem d5_init_52 : decode b5_init 52 = .ok (.dup, 1) := by decide +kernel
theorem d5_init_53 : decode b5_init 53 = .ok (.invokespecial 35, 3) := by decide +kernel
theorem d5_init_56 : decode b5_init 56 = .ok (.putfield 36, 3) := by decide +kernel
theorem d5_init_59 : decode b5_init 59 = .ok (.aload_n 0, 1) := by decide +kernel
theorem d5_init_60 : decode b5_init 60 = .ok (.new 33, 3) := by decide +kernel
theorem d5_init_63 : decode b5_init 63 = .ok (.dup, 1) := by decide +kernel
theorem d5_init_64 : decode b5_init 64 = .ok (.invokespecial 35, 3) := by decide +kernel
theorem d5_init_67 : decode b5_init 67 = .ok (.putfield 40, 3) := by decide +kernel
theorem d5_init_70 : decode b5_init 70 = .ok (.aload_n 0, 1) := by decide +kernel
theorem d5_init_71 : decode b5_init 71 = .ok (.bipush 6, 2) := by decide +kernel
theorem d5_init_73 : decode b5_init 73 = .ok (.anewarray 33, 3) := by decide +kernel
theorem d5_init_76 : decode b5_init 76 = .ok (.putfield 43, 3) := by decide +kernel
theorem d5_init_79 : decode b5_init 79 = .ok (.aload_n 0, 1) := by decide +kernel
theorem d5_init_80 : decode b5_init 80 = .ok (.iconst 0, 1) := by decide +kernel
theorem d5_init_81 : decode b5_init 81 = .ok (.putfield 47, 3) := by decide +kernel
theorem d5_init_84 : decode b5_init 84 = .ok (.aload_n 0, 1) := by decide +kernel
theorem d5_init_85 : decode b5_init 85 = .ok (.iconst 0, 1) := by decide +kernel
theorem d5_init_86 : decode b5_init 86 = .ok (.putfield 51, 3) := by decide +kernel
theorem d5_init_89 : decode b5_init 89 = .ok (.aload_n 0, 1) := by decide +kernel
theorem d5_init_90 : decode b5_init 90 = .ok (.iconst 2, 1) := by decide +kernel
theorem d5_init_91 : decode b5_init 91 = .ok (.anewarray 33, 3) := by decide +kernel
theorem d5_init_94 : decode b5_init 94 = .ok (.putfield 54, 3) := by decide +kernel
theorem d5_init_97 : decode b5_init 97 = .ok (.aload_n 0, 1) := by decide +kernel
theorem d5_init_98 : decode b5_init 98 = .ok (.iconst 2, 1) := by decide +kernel
theorem d5_init_99 : decode b5_init 99 = .ok (.newarray .boolean, 2) := by decide +kernel
theorem d5_init_101 : decode b5_init 101 = .ok (.putfield 57, 3) := by decide +kernel
theorem d5_init_104 : decode b5_init 104 = .ok (.aload_n 0, 1) := by decide +kernel
theorem d5_init_105 : decode b5_init 105 = .ok (.bipush 8, 2) := by decide +kernel
theorem d5_init_107 : decode b5_init 107 = .ok (.newarray .int, 2) := by decide +kernel
theorem d5_init_109 : decode b5_init 109 = .ok (.putfield 61, 3) := by decide +kernel
theorem d5_init_112 : decode b5_init 112 = .ok (.aload_n 0, 1) := by decide +kernel
theorem d5_init_113 : decode b5_init 113 = .ok (.sipush 320, 3) := by decide +kernel
theorem d5_init_116 : decode b5_init 116 = .ok (.newarray .byte, 2) := by decide +kernel
theorem d5_init_118 : decode b5_init 118 = .ok (.putfield 65, 3) := by decide +kernel
theorem d5_init_121 : decode b5_init 121 = .ok (.aload_n 0, 1) := by decide +kernel
theorem d5_init_122 : decode b5_init 122 = .ok (.iconst 0, 1) := by decide +kernel
theorem d5_init_123 : decode b5_init 123 = .ok (.putfield 69, 3) := by decide +kernel
theorem d5_init_126 : decode b5_init 126 = .ok (.iconst 0, 1) := by decide +kernel
theorem d5_init_127 : decode b5_init 127 = .ok (.istore_n 1, 1) := by decide +kernel
theorem d5_init_128 : decode b5_init 128 = .ok (.iload_n 1, 1) := by decide +kernel
theorem d5_init_129 : decode b5_init 129 = .ok (.bipush 6, 2) := by decide +kernel
theorem d5_init_131 : decode b5_init 131 = .ok (.if_icmp .ge 22, 3) := by decide +kernel
theorem d5_init_134 : decode b5_init 134 = .ok (.aload_n 0, 1) := by decide +kernel
theorem d5_init_135 : decode b5_init 135 = .ok (.getfield 43, 3) := by decide +kernel
theorem d5_init_138 : decode b5_init 138 = .ok (.iload_n 1, 1) := by decide +kernel
theorem d5_init_139 : decode b5_init 139 = .ok (.new 33, 3) := by decide +kernel
theorem d5_init_142 : decode b5_init 142 = .ok (.dup, 1) := by decide +kernel
theorem d5_init_143 : decode b5_init 143 = .ok (.invokespecial 35, 3) := by decide +kernel
theorem d5_init_146 : decode b5_init 146 = .ok (.aastore, 1) := by decide +kernel
theorem d5_init_147 : decode b5_init 147 = .ok (.iinc 1 1, 3) := by decide +kernel
theorem d5_init_150 : decode b5_init 150 = .ok (.goto (-22), 3) := by decide +kernel
theorem d5_init_153 : decode b5_init 153 = .ok (.iconst 0, 1) := by decide +kernel
theorem d5_init_154 : decode b5_init 154 = .ok (.istore_n 1, 1) := by decide +kernel
theorem d5_init_155 : decode b5_init 155 = .ok (.iload_n 1, 1) := by decide +kernel
theorem d5_init_156 : decode b5_init 156 = .ok (.iconst 2, 1) := by decide +kernel
theorem d5_init_157 : decode b5_init 157 = .ok (.if_icmp .ge 22, 3) := by decide +kernel
theorem d5_init_160 : decode b5_init 160 = .ok (.aload_n 0, 1) := by decide +kernel
theorem d5_init_161 : decode b5_init 161 = .ok (.getfield 54, 3) := by decide +kernel
theorem d5_init_164 : decode b5_init 164 = .ok (.iload_n 1, 1) := by decide +kernel
theorem d5_init_165 : decode b5_init 165 = .ok (.new 33, 3) := by decide +kernel
theorem d5_init_168 : decode b5_init 168 = .ok (.dup, 1) := by decide +kernel
theorem d5_init_169 : decode b5_init 169 = .ok (.invokespecial 35, 3) := by decide +kernel
theorem d5_init_172 : decode b5_init 172 = .ok (.aastore, 1) := by decide +kernel
theorem d5_init_173 : decode b5_init 173 = .ok (.iinc 1 1, 3) := by decide +kernel
theorem d5_init_176 : decode b5_init 176 = .ok (.goto (-21), 3) := by decide +kernel
theorem d5_init_179 : decode b5_init 179 = .ok (.iconst 0, 1) := by decide +kernel
theorem d5_init_180 : decode b5_init 180 = .ok (.istore_n 1, 1) := by decide +kernel
theorem d5_init_181 : decode b5_init 181 = .ok (.iload_n 1, 1) := by decide +kernel
theorem d5_init_182 : decode b5_init 182 = .ok (.ldc 72, 2) := by decide +kernel
theorem d5_init_184 : decode b5_init 184 = .ok (.invokevirtual 74, 3) := by decide +kernel
theorem d5_init_187 : decode b5_init 187 = .ok (.if_icmp .ge 22, 3) := by decide +kernel
theorem d5_init_190 : decode b5_init 190 = .ok (.aload_n 0, 1) := by decide +kernel
theorem d5_init_191 : decode b5_init 191 = .ok (.getfield 10, 3) := by decide +kernel
theorem d5_init_194 : decode b5_init 194 = .ok (.ldc 72, 2) := by decide +kernel
theorem d5_init_196 : decode b5_init 196 = .ok (.iload_n 1, 1) := by decide +kernel
theorem d5_init_197 : decode b5_init 197 = .ok (.invokevirtual 80, 3) := by decide +kernel
theorem d5_init_200 : decode b5_init 200 = .ok (.invokevirtual 84, 3) := by decide +kernel
theorem d5_init_203 : decode b5_init 203 = .ok (.iinc 1 1, 3) := by decide +kernel
theorem d5_init_206 : decode b5_init 206 = .ok (.goto (-25), 3) := by decide +kernel
theorem d5_init_209 : decode b5_init 209 = .ok (.aload_n 0, 1) := by decide +kernel
theorem d5_init_210 : decode b5_init 210 = .ok (.invokevirtual 88, 3) := by decide +kernel
theorem d5_init_213 : decode b5_init 213 = .ok (.ifCond .eq 7, 3) := by decide +kernel
theorem d5_init_216 : decode b5_init 216 = .ok (.aload_n 0, 1) := by decide +kernel
theorem d5_init_217 : decode b5_init 217 = .ok (.invokevirtual 92, 3) := by decide +kernel
theorem d5_init_220 : decode b5_init 220 = .ok (.aload_n 0, 1) := by decide +kernel
theorem d5_init_221 : decode b5_init 221 = .ok (.getfield 10, 3) := by decide +kernel
theorem d5_init_224 : decode b5_init 224 = .ok (.iconst 0, 1) := by decide +kernel
theorem d5_init_225 : decode b5_init 225 = .ok (.putfield 95, 3) := by decide +kernel
theorem d5_init_228 : decode b5_init 228 = .ok (.return_, 1) := by decide +kernel
abbrev b5_append : ByteArray := prog_1_method_2_code
def y5_append : MethodName := ⟨"ChannelSchedule", "append", "(IIIII)I"⟩
theorem w5_append : YV y5_append b5_append 6 (some .int) 5 := ⟨LW_i 821 (by decide +kernel) (by decide +kernel), LW_i 822 (by decide +kernel) (by decide +kernel), LW_i 28 (by decide +kernel) (by decide +kernel), LW_i 823 (by decide +kernel) (by decide +kernel), by decide +kernel, by decide +kernel⟩
theorem d5_append_0 : decode b5_append 0 = .ok (.aload_n 0, 1) := by decide +kernel
theorem d5_append_1 : decode b5_append 1 = .ok (.getfield 10, 3) := by decide +kernel
theorem d5_append_4 : decode b5_append 4 = .ok (.getfield 95, 3) := by decide +kernel
theorem d5_append_7 : decode b5_append 7 = .ok (.bipush 20, 2) := by decide +kernel
theorem d5_append_9 : decode b5_append 9 = .ok (.iadd, 1) := by decide +kernel
theorem d5_append_10 : decode b5_append 10 = .ok (.sipush 600, 3) := by decide +kernel
theorem d5_append_13 : decode b5_append 13 = .ok (.if_icmp .gt 7, 3) := by decide +kernel
theorem d5_append_16 : decode b5_append 16 = .ok (.iconst 1, 1) := by decide +kernel
theorem d5_append_17 : decode b5_append 17 = .ok (.goto 4, 3) := by decide +kernel
theorem d5_append_20 : decode b5_append 20 = .ok (.iconst 0, 1) := by decide +kernel
theorem d5_append_21 : decode b5_append 21 = .ok (.invokestatic 97, 3) := by decide +kernel
theorem d5_append_24 : decode b5_append 24 = .ok (.aload_n 0, 1) := by decide +kernel
theorem d5_append_25 : decode b5_append 25 = .ok (.getfield 10, 3) := by decide +kernel
theorem d5_append_28 : decode b5_append 28 = .ok (.iload_n 1, 1) := by decide +kernel
theorem d5_append_29 : decode b5_append 29 = .ok (.invokevirtual 101, 3) := by decide +kernel
theorem d5_append_32 : decode b5_append 32 = .ok (.aload_n 0, 1) := by decide +kernel
theorem d5_append_33 : decode b5_append 33 = .ok (.getfield 10, 3) := by decide +kernel
theorem d5_append_36 : decode b5_append 36 = .ok (.iload_n 2, 1) := by decide +kernel
theorem d5_append_37 : decode b5_append 37 = .ok (.invokevirtual 101, 3) := by decide +kernel
theorem d5_append_40 : decode b5_append 40 = .ok (.aload_n 0, 1) := by decide +kernel
theorem d5_append_41 : decode b5_append 41 = .ok (.getfield 10, 3) := by decide +kernel
theorem d5_append_44 : decode b5_append 44 = .ok (.iload_n 3, 1) := by decide +kernel
theorem d5_append_45 : decode b5_append 45 = .ok (.invokevirtual 101, 3) := by decide +kernel
theorem d5_append_48 : decode b5_append 48 = .ok (.aload_n 0, 1) := by decide +kernel
theorem d5_append_49 : decode b5_append 49 = .ok (.getfield 10, 3) := by decide +kernel
theorem d5_append_52 : decode b5_append 52 = .ok (.iload 4, 2) := by decide +kernel
theorem d5_append_54 : decode b5_append 54 = .ok (.invokevirtual 101, 3) := by decide +kernel
theorem d5_append_57 : decode b5_append 57 = .ok (.aload_n 0, 1) := by decide +kernel
theorem d5_append_58 : decode b5_append 58 = .ok (.getfield 10, 3) := by decide +kernel
theorem d5_append_61 : decode b5_append 61 = .ok (.iload 5, 2) := by decide +kernel
theorem d5_append_63 : decode b5_append 63 = .ok (.invokevirtual 101, 3) := by decide +kernel
theorem d5_append_66 : decode b5_append 66 = .ok (.aload_n 0, 1) := by decide +kernel
theorem d5_append_67 : decode b5_append 67 = .ok (.getfield 10, 3) := by decide +kernel
theorem d5_append_70 : decode b5_append 70 = .ok (.getfield 95, 3) := by decide +kernel
theorem d5_append_73 : decode b5_append 73 = .ok (.ireturn, 1) := by decide +kernel
abbrev b5_truncate : ByteArray := prog_1_method_3_code
def y5_truncate : MethodName := ⟨"ChannelSchedule", "truncate", "(I)I"⟩
theorem w5_truncate : YV y5_truncate b5_truncate 2 (some .int) 1 := ⟨LW_i 812 (by decide +kernel) (by decide +kernel), LW_i 813 (by decide +kernel) (by decide +kernel), LW_i 28 (by decide +kernel) (by decide +kernel), LW_i 814 (by decide +kernel) (by decide +kernel), by decide +kernel, by decide +kernel⟩
theorem d5_truncate_0 : decode b5_truncate 0 = .ok (.iload_n 1, 1) := by decide +kernel
theorem d5_truncate_1 : decode b5_truncate 1 = .ok (.iconst 0, 1) := by decide +kernel
theorem d5_truncate_2 : decode b5_truncate 2 = .ok (.aload_n 0, 1) := by decide +kernel
theorem d5_truncate_3 : decode b5_truncate 3 = .ok (.getfield 10, 3) := by decide +kernel
theorem d5_truncate_6 : decode b5_truncate 6 = .ok (.getfield 95, 3) := by decide +kernel
theorem d5_truncate_9 : decode b5_truncate 9 = .ok (.invokestatic 104, 3) := by decide +kernel
theorem d5_truncate_12 : decode b5_truncate 12 = .ok (.invokestatic 108, 3) := by decide +kernel
theorem d5_truncate_15 : decode b5_truncate 15 = .ok (.aload_n 0, 1) := by decide +kernel
theorem d5_truncate_16 : decode b5_truncate 16 = .ok (.getfield 10, 3) := by decide +kernel
theorem d5_truncate_19 : decode b5_truncate 19 = .ok (.iload_n 1, 1) := by decide +kernel
theorem d5_truncate_20 : decode b5_truncate 20 = .ok (.putfield 95, 3) := by decide +kernel
theorem d5_truncate_23 : decode b5_truncate 23 = .ok (.iload_n 1, 1) := by decide +kernel
theorem d5_truncate_24 : decode b5_truncate 24 = .ok (.ireturn, 1) := by decide +kernel
abbrev b5_load : ByteArray := prog_1_method_4_code
def y5_load : MethodName := ⟨"ChannelSchedule", "load", "()I"⟩
theorem w5_load : YV y5_load b5_load 2 (some .int) 0 := ⟨LW_i 422 (by decide +kernel) (by decide +kernel), LW_i 423 (by decide +kernel) (by decide +kernel), LW_i 28 (by decide +kernel) (by decide +kernel), LW_i 424 (by decide +kernel) (by decide +kernel), by decide +kernel, by decide +kernel⟩
theorem d5_load_0 : decode b5_load 0 = .ok (.aload_n 0, 1) := by decide +kernel
theorem d5_load_1 : decode b5_load 1 = .ok (.invokevirtual 88, 3) := by decide +kernel
theorem d5_load_4 : decode b5_load 4 = .ok (.istore_n 1, 1) := by decide +kernel
theorem d5_load_5 : decode b5_load 5 = .ok (.aload_n 0, 1) := by decide +kernel
theorem d5_load_6 : decode b5_load 6 = .ok (.getfield 10, 3) := by decide +kernel
theorem d5_load_9 : decode b5_load 9 = .ok (.iconst 0, 1) := by decide +kernel
theorem d5_load_10 : decode b5_load 10 = .ok (.putfield 95, 3) := by decide +kernel
theorem d5_load_13 : decode b5_load 13 = .ok (.iload_n 1, 1) := by decide +kernel
theorem d5_load_14 : decode b5_load 14 = .ok (.invokestatic 108, 3) := by decide +kernel
theorem d5_load_17 : decode b5_load 17 = .ok (.aload_n 0, 1) := by decide +kernel
theorem d5_load_18 : decode b5_load 18 = .ok (.invokevirtual 92, 3) := by decide +kernel
theorem d5_load_21 : decode b5_load 21 = .ok (.aload_n 0, 1) := by decide +kernel
theorem d5_load_22 : decode b5_load 22 = .ok (.getfield 26, 3) := by decide +kernel
theorem d5_load_25 : decode b5_load 25 = .ok (.getfield 111, 3) := by decide +kernel
theorem d5_load_28 : decode b5_load 28 = .ok (.ireturn, 1) := by decide +kernel
abbrev b5_shipCount : ByteArray := prog_1_method_7_code
def y5_shipCount : MethodName := ⟨"ChannelSchedule", "shipCount", "()I"⟩
theorem w5_shipCount : YV y5_shipCount b5_shipCount 1 (some .int) 0 := ⟨LW_i 1072 (by decide +kernel) (by decide +kernel), LW_i 1073 (by decide +kernel) (by decide +kernel), LW_i 28 (by decide +kernel) (by decide +kernel), LW_i 1074 (by decide +kernel) (by decide +kernel), by decide +kernel, by decide +kernel⟩
theorem d5_shipCount_0 : decode b5_shipCount 0 = .ok (.aload_n 0, 1) := by decide +kernel
theorem d5_shipCount_1 : decode b5_shipCount 1 = .ok (.getfield 26, 3) := by decide +kernel
theorem d5_shipCount_4 : decode b5_shipCount 4 = .ok (.getfield 111, 3) := by decide +kernel
theorem d5_shipCount_7 : decode b5_shipCount 7 = .ok (.ireturn, 1) := by decide +kernel
abbrev b5_headway : ByteArray := prog_1_method_8_code
def y5_headway : MethodName := ⟨"ChannelSchedule", "headway", "()I"⟩
theorem w5_headway : YV y5_headway b5_headway 1 (some .int) 0 := ⟨LW_i 771 (by decide +kernel) (by decide +kernel), LW_i 772 (by decide +kernel) (by decide +kernel), LW_i 28 (by decide +kernel) (by decide +kernel), LW_i 773 (by decide +kernel) (by decide +kernel), by decide +kernel, by decide +kernel⟩
theorem d5_headway_0 : decode b5_headway 0 = .ok (.aload_n 0, 1) := by decide +kernel
theorem d5_headway_1 : decode b5_headway 1 = .ok (.getfield 26, 3) := by decide +kernel
theorem d5_headway_4 : decode b5_headway 4 = .ok (.getfield 120, 3) := by decide +kernel
theorem d5_headway_7 : decode b5_headway 7 = .ok (.ireturn, 1) := by decide +kernel
abbrev b5_clearance : ByteArray := prog_1_method_9_code
def y5_clearance : MethodName := ⟨"ChannelSchedule", "clearance", "()I"⟩
theorem w5_clearance : YV y5_clearance b5_clearance 1 (some .int) 0 := ⟨LW_i 775 (by decide +kernel) (by decide +kernel), LW_i 776 (by decide +kernel) (by decide +kernel), LW_i 28 (by decide +kernel) (by decide +kernel), LW_i 777 (by decide +kernel) (by decide +kernel), by decide +kernel, by decide +kernel⟩
theorem d5_clearance_0 : decode b5_clearance 0 = .ok (.aload_n 0, 1) := by decide +kernel
theorem d5_clearance_1 : decode b5_clearance 1 = .ok (.getfield 26, 3) := by decide +kernel
theorem d5_clearance_4 : decode b5_clearance 4 = .ok (.getfield 123, 3) := by decide +kernel
theorem d5_clearance_7 : decode b5_clearance 7 = .ok (.ireturn, 1) := by decide +kernel
abbrev b5_minute : ByteArray := prog_1_method_11_code
def y5_minute : MethodName := ⟨"ChannelSchedule", "minute", "()I"⟩
theorem w5_minute : YV y5_minute b5_minute 1 (some .int) 0 := ⟨LW_i 492 (by decide +kernel) (by decide +kernel), LW_i 493 (by decide +kernel) (by decide +kernel), LW_i 28 (by decide +kernel) (by decide +kernel), LW_i 494 (by decide +kernel) (by decide +kernel), by decide +kernel, by decide +kernel⟩
theorem d5_minute_0 : decode b5_minute 0 = .ok (.aload_n 0, 1) := by decide +kernel
theorem d5_minute_1 : decode b5_minute 1 = .ok (.getfield 36, 3) := by decide +kernel
theorem d5_minute_4 : decode b5_minute 4 = .ok (.getfield 129, 3) := by decide +kernel
theorem d5_minute_7 : decode b5_minute 7 = .ok (.ireturn, 1) := by decide +kernel
abbrev b5_transitTime : ByteArray := prog_1_method_12_code
def y5_transitTime : MethodName := ⟨"ChannelSchedule", "transitTime", "(I)I"⟩
theorem w5_transitTime : YV y5_transitTime b5_transitTime 2 (some .int) 1 := ⟨LW_i 496 (by decide +kernel) (by decide +kernel), LW_i 497 (by decide +kernel) (by decide +kernel), LW_i 28 (by decide +kernel) (by decide +kernel), LW_i 498 (by decide +kernel) (by decide +kernel), by decide +kernel, by decide +kernel⟩
theorem d5_transitTime_0 : decode b5_transitTime 0 = .ok (.aload_n 0, 1) := by decide +kernel
theorem d5_transitTime_1 : decode b5_transitTime 1 = .ok (.iload_n 1, 1) := by decide +kernel
theorem d5_transitTime_2 : decode b5_transitTime 2 = .ok (.invokevirtual 132, 3) := by decide +kernel
theorem d5_transitTime_5 : decode b5_transitTime 5 = .ok (.invokestatic 136, 3) := by decide +kernel
theorem d5_transitTime_8 : decode b5_transitTime 8 = .ok (.aload_n 0, 1) := by decide +kernel
theorem d5_transitTime_9 : decode b5_transitTime 9 = .ok (.iload_n 1, 1) := by decide +kernel
theorem d5_transitTime_10 : decode b5_transitTime 10 = .ok (.invokevirtual 139, 3) := by decide +kernel
theorem d5_transitTime_13 : decode b5_transitTime 13 = .ok (.ireturn, 1) := by decide +kernel
abbrev b5_bookingCount : ByteArray := prog_1_method_17_code
def y5_bookingCount : MethodName := ⟨"ChannelSchedule", "bookingCount", "()I"⟩
theorem w5_bookingCount : YV y5_bookingCount b5_bookingCount 1 (some .int) 0 := ⟨LW_i 529 (by decide +kernel) (by decide +kernel), LW_i 530 (by decide +kernel) (by decide +kernel), LW_i 28 (by decide +kernel) (by decide +kernel), LW_i 531 (by decide +kernel) (by decide +kernel), by decide +kernel, by decide +kernel⟩
theorem d5_bookingCount_0 : decode b5_bookingCount 0 = .ok (.aload_n 0, 1) := by decide +kernel
theorem d5_bookingCount_1 : decode b5_bookingCount 1 = .ok (.getfield 36, 3) := by decide +kernel
theorem d5_bookingCount_4 : decode b5_bookingCount 4 = .ok (.getfield 175, 3) := by decide +kernel
theorem d5_bookingCount_7 : decode b5_bookingCount 7 = .ok (.ireturn, 1) := by decide +kernel
abbrev b5_bookedShip : ByteArray := prog_1_method_18_code
def y5_bookedShip : MethodName := ⟨"ChannelSchedule", "bookedShip", "(I)I"⟩
theorem w5_bookedShip : YV y5_bookedShip b5_bookedShip 2 (some .int) 1 := ⟨LW_i 727 (by decide +kernel) (by decide +kernel), LW_i 728 (by decide +kernel) (by decide +kernel), LW_i 28 (by decide +kernel) (by decide +kernel), LW_i 729 (by decide +kernel) (by decide +kernel), by decide +kernel, by decide +kernel⟩
theorem d5_bookedShip_0 : decode b5_bookedShip 0 = .ok (.aload_n 0, 1) := by decide +kernel
theorem d5_bookedShip_1 : decode b5_bookedShip 1 = .ok (.iload_n 1, 1) := by decide +kernel
theorem d5_bookedShip_2 : decode b5_bookedShip 2 = .ok (.invokevirtual 178, 3) := by decide +kernel
theorem d5_bookedShip_5 : decode b5_bookedShip 5 = .ok (.invokestatic 136, 3) := by decide +kernel
theorem d5_bookedShip_8 : decode b5_bookedShip 8 = .ok (.aload_n 0, 1) := by decide +kernel
theorem d5_bookedShip_9 : decode b5_bookedShip 9 = .ok (.getfield 36, 3) := by decide +kernel
theorem d5_bookedShip_12 : decode b5_bookedShip 12 = .ok (.getfield 181, 3) := by decide +kernel
theorem d5_bookedShip_15 : decode b5_bookedShip 15 = .ok (.iload_n 1, 1) := by decide +kernel
theorem d5_bookedShip_16 : decode b5_bookedShip 16 = .ok (.iaload, 1) := by decide +kernel
theorem d5_bookedShip_17 : decode b5_bookedShip 17 = .ok (.ireturn, 1) := by decide +kernel
abbrev b5_startMinute : ByteArray := prog_1_method_19_code
def y5_startMinute : MethodName := ⟨"ChannelSchedule", "startMinute", "(I)I"⟩
theorem w5_startMinute : YV y5_startMinute b5_startMinute 2 (some .int) 1 := ⟨LW_i 533 (by decide +kernel) (by decide +kernel), LW_i 534 (by decide +kernel) (by decide +kernel), LW_i 28 (by decide +kernel) (by decide +kernel), LW_i 535 (by decide +kernel) (by decide +kernel), by decide +kernel, by decide +kernel⟩
theorem d5_startMinute_0 : decode b5_startMinute 0 = .ok (.aload_n 0, 1) := by decide +kernel
theorem d5_startMinute_1 : decode b5_startMinute 1 = .ok (.iload_n 1, 1) := by decide +kernel
theorem d5_startMinute_2 : decode b5_startMinute 2 = .ok (.invokevirtual 178, 3) := by decide +kernel
theorem d5_startMinute_5 : decode b5_startMinute 5 = .ok (.invokestatic 136, 3) := by decide +kernel
theorem d5_startMinute_8 : decode b5_startMinute 8 = .ok (.aload_n 0, 1) := by decide +kernel
theorem d5_startMinute_9 : decode b5_startMinute 9 = .ok (.getfield 36, 3) := by decide +kernel
theorem d5_startMinute_12 : decode b5_startMinute 12 = .ok (.getfield 183, 3) := by decide +kernel
theorem d5_startMinute_15 : decode b5_startMinute 15 = .ok (.iload_n 1, 1) := by decide +kernel
theorem d5_startMinute_16 : decode b5_startMinute 16 = .ok (.iaload, 1) := by decide +kernel
theorem d5_startMinute_17 : decode b5_startMinute 17 = .ok (.ireturn, 1) := by decide +kernel
abbrev b5_endMinute : ByteArray := prog_1_method_20_code
def y5_endMinute : MethodName := ⟨"ChannelSchedule", "endMinute", "(I)I"⟩
theorem w5_endMinute : YV y5_endMinute b5_endMinute 2 (some .int) 1 := ⟨LW_i 736 (by decide +kernel) (by decide +kernel), LW_i 737 (by decide +kernel) (by decide +kernel), LW_i 28 (by decide +kernel) (by decide +kernel), LW_i 738 (by decide +kernel) (by decide +kernel), by decide +kernel, by decide +kernel⟩
theorem d5_endMinute_0 : decode b5_endMinute 0 = .ok (.aload_n 0, 1) := by decide +kernel
theorem d5_endMinute_1 : decode b5_endMinute 1 = .ok (.iload_n 1, 1) := by decide +kernel
theorem d5_endMinute_2 : decode b5_endMinute 2 = .ok (.invokevirtual 178, 3) := by decide +kernel
theorem d5_endMinute_5 : decode b5_endMinute 5 = .ok (.invokestatic 136, 3) := by decide +kernel
theorem d5_endMinute_8 : decode b5_endMinute 8 = .ok (.aload_n 0, 1) := by decide +kernel
theorem d5_endMinute_9 : decode b5_endMinute 9 = .ok (.getfield 36, 3) := by decide +kernel
theorem d5_endMinute_12 : decode b5_endMinute 12 = .ok (.getfield 186, 3) := by decide +kernel
theorem d5_endMinute_15 : decode b5_endMinute 15 = .ok (.iload_n 1, 1) := by decide +kernel
theorem d5_endMinute_16 : decode b5_endMinute 16 = .ok (.iaload, 1) := by decide +kernel
theorem d5_endMinute_17 : decode b5_endMinute 17 = .ok (.ireturn, 1) := by decide +kernel
abbrev b5_isInbound : ByteArray := prog_1_method_21_code
def y5_isInbound : MethodName := ⟨"ChannelSchedule", "isInbound", "(I)Z"⟩
theorem w5_isInbound : YV y5_isInbound b5_isInbound 2 (some .boolean) 1 := ⟨LW_i 731 (by decide +kernel) (by decide +kernel), LW_i 732 (by decide +kernel) (by decide +kernel), LW_i 28 (by decide +kernel) (by decide +kernel), LW_i 733 (by decide +kernel) (by decide +kernel), by decide +kernel, by decide +kernel⟩
theorem d5_isInbound_0 : decode b5_isInbound 0 = .ok (.aload_n 0, 1) := by decide +kernel
theorem d5_isInbound_1 : decode b5_isInbound 1 = .ok (.iload_n 1, 1) := by decide +kernel
theorem d5_isInbound_2 : decode b5_isInbound 2 = .ok (.invokevirtual 178, 3) := by decide +kernel
theorem d5_isInbound_5 : decode b5_isInbound 5 = .ok (.invokestatic 136, 3) := by decide +kernel
theorem d5_isInbound_8 : decode b5_isInbound 8 = .ok (.aload_n 0, 1) := by decide +kernel
theorem d5_isInbound_9 : decode b5_isInbound 9 = .ok (.getfield 36, 3) := by decide +kernel
theorem d5_isInbound_12 : decode b5_isInbound 12 = .ok (.getfield 189, 3) := by decide +kernel
theorem d5_isInbound_15 : decode b5_isInbound 15 = .ok (.iload_n 1, 1) := by decide +kernel
theorem d5_isInbound_16 : decode b5_isInbound 16 = .ok (.baload, 1) := by decide +kernel
theorem d5_isInbound_17 : decode b5_isInbound 17 = .ok (.ireturn, 1) := by decide +kernel
abbrev b5_conflictCount : ByteArray := prog_1_method_27_code
def y5_conflictCount : MethodName := ⟨"ChannelSchedule", "conflictCount", "(IZI)I"⟩
theorem w5_conflictCount : YV y5_conflictCount b5_conflictCount 7 (some .int) 3 := ⟨LW_i 541 (by decide +kernel) (by decide +kernel), LW_i 542 (by decide +kernel) (by decide +kernel), LW_i 28 (by decide +kernel) (by decide +kernel), LW_i 543 (by decide +kernel) (by decide +kernel), by decide +kernel, by decide +kernel⟩
theorem d5_conflictCount_0 : decode b5_conflictCount 0 = .ok (.aload_n 0, 1) := by decide +kernel
theorem d5_conflictCount_1 : decode b5_conflictCount 1 = .ok (.iload_n 1, 1) := by decide +kernel
theorem d5_conflictCount_2 : decode b5_conflictCount 2 = .ok (.invokevirtual 132, 3) := by decide +kernel
theorem d5_conflictCount_5 : decode b5_conflictCount 5 = .ok (.invokestatic 136, 3) := by decide +kernel
theorem d5_conflictCount_8 : decode b5_conflictCount 8 = .ok (.iload_n 3, 1) := by decide +kernel
theorem d5_conflictCount_9 : decode b5_conflictCount 9 = .ok (.iconst 0, 1) := by decide +kernel
theorem d5_conflictCount_10 : decode b5_conflictCount 10 = .ok (.sipush 999, 3) := by decide +kernel
theorem d5_conflictCount_13 : decode b5_conflictCount 13 = .ok (.invokestatic 104, 3) := by decide +kernel
theorem d5_conflictCount_16 : decode b5_conflictCount 16 = .ok (.invokestatic 108, 3) := by decide +kernel
theorem d5_conflictCount_19 : decode b5_conflictCount 19 = .ok (.aload_n 0, 1) := by decide +kernel
theorem d5_conflictCount_20 : decode b5_conflictCount 20 = .ok (.iload_n 1, 1) := by decide +kernel
theorem d5_conflictCount_21 : decode b5_conflictCount 21 = .ok (.invokevirtual 139, 3) := by decide +kernel
theorem d5_conflictCount_24 : decode b5_conflictCount 24 = .ok (.istore 4, 2) := by decide +kernel
theorem d5_conflictCount_26 : decode b5_conflictCount 26 = .ok (.iconst 0, 1) := by decide +kernel
theorem d5_conflictCount_27 : decode b5_conflictCount 27 = .ok (.istore 5, 2) := by decide +kernel
theorem d5_conflictCount_29 : decode b5_conflictCount 29 = .ok (.iconst 0, 1) := by decide +kernel
theorem d5_conflictCount_30 : decode b5_conflictCount 30 = .ok (.istore 6, 2) := by decide +kernel
theorem d5_conflictCount_32 : decode b5_conflictCount 32 = .ok (.iload 6, 2) := by decide +kernel
theorem d5_conflictCount_34 : decode b5_conflictCount 34 = .ok (.aload_n 0, 1) := by decide +kernel
theorem d5_conflictCount_35 : decode b5_conflictCount 35 = .ok (.getfield 36, 3) := by decide +kernel
theorem d5_conflictCount_38 : decode b5_conflictCount 38 = .ok (.getfield 175, 3) := by decide +kernel
theorem d5_conflictCount_41 : decode b5_conflictCount 41 = .ok (.if_icmp .ge 25, 3) := by decide +kernel
theorem d5_conflictCount_44 : decode b5_conflictCount 44 = .ok (.aload_n 0, 1) := by decide +kernel
theorem d5_conflictCount_45 : decode b5_conflictCount 45 = .ok (.iload 6, 2) := by decide +kernel
theorem d5_conflictCount_47 : decode b5_conflictCount 47 = .ok (.iload_n 2, 1) := by decide +kernel
theorem d5_conflictCount_48 : decode b5_conflictCount 48 = .ok (.iload_n 3, 1) := by decide +kernel
theorem d5_conflictCount_49 : decode b5_conflictCount 49 = .ok (.iload 4, 2) := by decide +kernel
theorem d5_conflictCount_51 : decode b5_conflictCount 51 = .ok (.invokevirtual 205, 3) := by decide +kernel
theorem d5_conflictCount_54 : decode b5_conflictCount 54 = .ok (.ifCond .eq 6, 3) := by decide +kernel
theorem d5_conflictCount_57 : decode b5_conflictCount 57 = .ok (.iinc 5 1, 3) := by decide +kernel
theorem d5_conflictCount_60 : decode b5_conflictCount 60 = .ok (.iinc 6 1, 3) := by decide +kernel
theorem d5_conflictCount_63 : decode b5_conflictCount 63 = .ok (.goto (-31), 3) := by decide +kernel
theorem d5_conflictCount_66 : decode b5_conflictCount 66 = .ok (.iload 5, 2) := by decide +kernel
theorem d5_conflictCount_68 : decode b5_conflictCount 68 = .ok (.ireturn, 1) := by decide +kernel
abbrev b5_requestCount : ByteArray := prog_1_method_36_code
def y5_requestCount : MethodName := ⟨"ChannelSchedule", "requestCount", "()I"⟩
theorem w5_requestCount : YV y5_requestCount b5_requestCount 1 (some .int) 0 := ⟨LW_i 740 (by decide +kernel) (by decide +kernel), LW_i 741 (by decide +kernel) (by decide +kernel), LW_i 28 (by decide +kernel) (by decide +kernel), LW_i 742 (by decide +kernel) (by decide +kernel), by decide +kernel, by decide +kernel⟩
theorem d5_requestCount_0 : decode b5_requestCount 0 = .ok (.aload_n 0, 1) := by decide +kernel
theorem d5_requestCount_1 : decode b5_requestCount 1 = .ok (.getfield 36, 3) := by decide +kernel
theorem d5_requestCount_4 : decode b5_requestCount 4 = .ok (.getfield 231, 3) := by decide +kernel
theorem d5_requestCount_7 : decode b5_requestCount 7 = .ok (.ireturn, 1) := by decide +kernel
abbrev b5_requestedShip : ByteArray := prog_1_method_37_code
def y5_requestedShip : MethodName := ⟨"ChannelSchedule", "requestedShip", "(I)I"⟩
theorem w5_requestedShip : YV y5_requestedShip b5_requestedShip 2 (some .int) 1 := ⟨LW_i 744 (by decide +kernel) (by decide +kernel), LW_i 745 (by decide +kernel) (by decide +kernel), LW_i 28 (by decide +kernel) (by decide +kernel), LW_i 746 (by decide +kernel) (by decide +kernel), by decide +kernel, by decide +kernel⟩
theorem d5_requestedShip_0 : decode b5_requestedShip 0 = .ok (.aload_n 0, 1) := by decide +kernel
theorem d5_requestedShip_1 : decode b5_requestedShip 1 = .ok (.iload_n 1, 1) := by decide +kernel
theorem d5_requestedShip_2 : decode b5_requestedShip 2 = .ok (.invokevirtual 234, 3) := by decide +kernel
theorem d5_requestedShip_5 : decode b5_requestedShip 5 = .ok (.invokestatic 136, 3) := by decide +kernel
theorem d5_requestedShip_8 : decode b5_requestedShip 8 = .ok (.aload_n 0, 1) := by decide +kernel
theorem d5_requestedShip_9 : decode b5_requestedShip 9 = .ok (.getfield 36, 3) := by decide +kernel
theorem d5_requestedShip_12 : decode b5_requestedShip 12 = .ok (.getfield 237, 3) := by decide +kernel
theorem d5_requestedShip_15 : decode b5_requestedShip 15 = .ok (.iload_n 1, 1) := by decide +kernel
theorem d5_requestedShip_16 : decode b5_requestedShip 16 = .ok (.iaload, 1) := by decide +kernel
theorem d5_requestedShip_17 : decode b5_requestedShip 17 = .ok (.ireturn, 1) := by decide +kernel
abbrev b5_isRequestInbound : ByteArray := prog_1_method_38_code
def y5_isRequestInbound : MethodName := ⟨"ChannelSchedule", "isRequestInbound", "(I)Z"⟩
theorem w5_isRequestInbound : YV y5_isRequestInbound b5_isRequestInbound 2 (some .boolean) 1 := ⟨LW_i 752 (by decide +kernel) (by decide +kernel), LW_i 753 (by decide +kernel) (by decide +kernel), LW_i 28 (by decide +kernel) (by decide +kernel), LW_i 754 (by decide +kernel) (by decide +kernel), by decide +kernel, by decide +kernel⟩
theorem d5_isRequestInbound_0 : decode b5_isRequestInbound 0 = .ok (.aload_n 0, 1) := by decide +kernel
theorem d5_isRequestInbound_1 : decode b5_isRequestInbound 1 = .ok (.iload_n 1, 1) := by decide +kernel
theorem d5_isRequestInbound_2 : decode b5_isRequestInbound 2 = .ok (.invokevirtual 234, 3) := by decide +kernel
theorem d5_isRequestInbound_5 : decode b5_isRequestInbound 5 = .ok (.invokestatic 136, 3) := by decide +kernel
theorem d5_isRequestInbound_8 : decode b5_isRequestInbound 8 = .ok (.aload_n 0, 1) := by decide +kernel
theorem d5_isRequestInbound_9 : decode b5_isRequestInbound 9 = .ok (.getfield 36, 3) := by decide +kernel
theorem d5_isRequestInbound_12 : decode b5_isRequestInbound 12 = .ok (.getfield 240, 3) := by decide +kernel
theorem d5_isRequestInbound_15 : decode b5_isRequestInbound 15 = .ok (.iload_n 1, 1) := by decide +kernel
theorem d5_isRequestInbound_16 : decode b5_isRequestInbound 16 = .ok (.baload, 1) := by decide +kernel
theorem d5_isRequestInbound_17 : decode b5_isRequestInbound 17 = .ok (.ireturn, 1) := by decide +kernel
abbrev b5_earliestRequested : ByteArray := prog_1_method_39_code
def y5_earliestRequested : MethodName := ⟨"ChannelSchedule", "earliestRequested", "(I)I"⟩
theorem w5_earliestRequested : YV y5_earliestRequested b5_earliestRequested 2 (some .int) 1 := ⟨LW_i 756 (by decide +kernel) (by decide +kernel), LW_i 757 (by decide +kernel) (by decide +kernel), LW_i 28 (by decide +kernel) (by decide +kernel), LW_i 758 (by decide +kernel) (by decide +kernel), by decide +kernel, by decide +kernel⟩
theorem d5_earliestRequested_0 : decode b5_earliestRequested 0 = .ok (.aload_n 0, 1) := by decide +kernel
theorem d5_earliestRequested_1 : decode b5_earliestRequested 1 = .ok (.iload_n 1, 1) := by decide +kernel
theorem d5_earliestRequested_2 : decode b5_earliestRequested 2 = .ok (.invokevirtual 234, 3) := by decide +kernel
theorem d5_earliestRequested_5 : decode b5_earliestRequested 5 = .ok (.invokestatic 136, 3) := by decide +kernel
theorem d5_earliestRequested_8 : decode b5_earliestRequested 8 = .ok (.aload_n 0, 1) := by decide +kernel
theorem d5_earliestRequested_9 : decode b5_earliestRequested 9 = .ok (.getfield 36, 3) := by decide +kernel
theorem d5_earliestRequested_12 : decode b5_earliestRequested 12 = .ok (.getfield 243, 3) := by decide +kernel
theorem d5_earliestRequested_15 : decode b5_earliestRequested 15 = .ok (.iload_n 1, 1) := by decide +kernel
theorem d5_earliestRequested_16 : decode b5_earliestRequested 16 = .ok (.iaload, 1) := by decide +kernel
theorem d5_earliestRequested_17 : decode b5_earliestRequested 17 = .ok (.ireturn, 1) := by decide +kernel
abbrev b5_latestRequested : ByteArray := prog_1_method_40_code
def y5_latestRequested : MethodName := ⟨"ChannelSchedule", "latestRequested", "(I)I"⟩
theorem w5_latestRequested : YV y5_latestRequested b5_latestRequested 2 (some .int) 1 := ⟨LW_i 760 (by decide +kernel) (by decide +kernel), LW_i 761 (by decide +kernel) (by decide +kernel), LW_i 28 (by decide +kernel) (by decide +kernel), LW_i 762 (by decide +kernel) (by decide +kernel), by decide +kernel, by decide +kernel⟩
theorem d5_latestRequested_0 : decode b5_latestRequested 0 = .ok (.aload_n 0, 1) := by decide +kernel
theorem d5_latestRequested_1 : decode b5_latestRequested 1 = .ok (.iload_n 1, 1) := by decide +kernel
theorem d5_latestRequested_2 : decode b5_latestRequested 2 = .ok (.invokevirtual 234, 3) := by decide +kernel
theorem d5_latestRequested_5 : decode b5_latestRequested 5 = .ok (.invokestatic 136, 3) := by decide +kernel
theorem d5_latestRequested_8 : decode b5_latestRequested 8 = .ok (.aload_n 0, 1) := by decide +kernel
theorem d5_latestRequested_9 : decode b5_latestRequested 9 = .ok (.getfield 36, 3) := by decide +kernel
theorem d5_latestRequested_12 : decode b5_latestRequested 12 = .ok (.getfield 246, 3) := by decide +kernel
theorem d5_latestRequested_15 : decode b5_latestRequested 15 = .ok (.iload_n 1, 1) := by decide +kernel
theorem d5_latestRequested_16 : decode b5_latestRequested 16 = .ok (.iaload, 1) := by decide +kernel
theorem d5_latestRequested_17 : decode b5_latestRequested 17 = .ok (.ireturn, 1) := by decide +kernel
abbrev b5_requestsServed : ByteArray := prog_1_method_49_code
def y5_requestsServed : MethodName := ⟨"ChannelSchedule", "requestsServed", "()I"⟩
theorem w5_requestsServed : YV y5_requestsServed b5_requestsServed 1 (some .int) 0 := ⟨LW_i 723 (by decide +kernel) (by decide +kernel), LW_i 724 (by decide +kernel) (by decide +kernel), LW_i 28 (by decide +kernel) (by decide +kernel), LW_i 725 (by decide +kernel) (by decide +kernel), by decide +kernel, by decide +kernel⟩
theorem d5_requestsServed_0 : decode b5_requestsServed 0 = .ok (.aload_n 0, 1) := by decide +kernel
theorem d5_requestsServed_1 : decode b5_requestsServed 1 = .ok (.getfield 36, 3) := by decide +kernel
theorem d5_requestsServed_4 : decode b5_requestsServed 4 = .ok (.getfield 274, 3) := by decide +kernel
theorem d5_requestsServed_7 : decode b5_requestsServed 7 = .ok (.ireturn, 1) := by decide +kernel
abbrev b5_inconsistencies : ByteArray := prog_1_method_52_code
def y5_inconsistencies : MethodName := ⟨"ChannelSchedule", "inconsistencies", "()I"⟩
theorem w5_inconsistencies : YV y5_inconsistencies b5_inconsistencies 5 (some .int) 0 := ⟨LW_i 560 (by decide +kernel) (by decide +kernel), LW_i 561 (by decide +kernel) (by decide +kernel), LW_i 28 (by decide +kernel) (by decide +kernel), LW_i 562 (by decide +kernel) (by decide +kernel), by decide +kernel, by decide +kernel⟩
theorem d5_inconsistencies_0 : decode b5_inconsistencies 0 = .ok (.aload_n 0, 1) := by decide +kernel
theorem d5_inconsistencies_1 : decode b5_inconsistencies 1 = .ok (.getfield 36, 3) := by decide +kernel
theorem d5_inconsistencies_4 : decode b5_inconsistencies 4 = .ok (.getfield 268, 3) := by decide +kernel
theorem d5_inconsistencies_7 : decode b5_inconsistencies 7 = .ok (.aload_n 0, 1) := by decide +kernel
theorem d5_inconsistencies_8 : decode b5_inconsistencies 8 = .ok (.getfield 36, 3) := by decide +kernel
theorem d5_inconsistencies_11 : decode b5_inconsistencies 11 = .ok (.getfield 271, 3) := by decide +kernel
theorem d5_inconsistencies_14 : decode b5_inconsistencies 14 = .ok (.isub, 1) := by decide +kernel
theorem d5_inconsistencies_15 : decode b5_inconsistencies 15 = .ok (.aload_n 0, 1) := by decide +kernel
theorem d5_inconsistencies_16 : decode b5_inconsistencies 16 = .ok (.getfield 36, 3) := by decide +kernel
theorem d5_inconsistencies_19 : decode b5_inconsistencies 19 = .ok (.getfield 175, 3) := by decide +kernel
theorem d5_inconsistencies_22 : decode b5_inconsistencies 22 = .ok (.isub, 1) := by decide +kernel
theorem d5_inconsistencies_23 : decode b5_inconsistencies 23 = .ok (.istore_n 1, 1) := by decide +kernel
theorem d5_inconsistencies_24 : decode b5_inconsistencies 24 = .ok (.iconst 0, 1) := by decide +kernel
theorem d5_inconsistencies_25 : decode b5_inconsistencies 25 = .ok (.istore_n 2, 1) := by decide +kernel
theorem d5_inconsistencies_26 : decode b5_inconsistencies 26 = .ok (.iload_n 2, 1) := by decide +kernel
theorem d5_inconsistencies_27 : decode b5_inconsistencies 27 = .ok (.aload_n 0, 1) := by decide +kernel
theorem d5_inconsistencies_28 : decode b5_inconsistencies 28 = .ok (.getfield 36, 3) := by decide +kernel
theorem d5_inconsistencies_31 : decode b5_inconsistencies 31 = .ok (.getfield 175, 3) := by decide +kernel
theorem d5_inconsistencies_34 : decode b5_inconsistencies 34 = .ok (.if_icmp .ge 75, 3) := by decide +kernel
theorem d5_inconsistencies_37 : decode b5_inconsistencies 37 = .ok (.aload_n 0, 1) := by decide +kernel
theorem d5_inconsistencies_38 : decode b5_inconsistencies 38 = .ok (.getfield 36, 3) := by decide +kernel
theorem d5_inconsistencies_41 : decode b5_inconsistencies 41 = .ok (.getfield 186, 3) := by decide +kernel
theorem d5_inconsistencies_44 : decode b5_inconsistencies 44 = .ok (.iload_n 2, 1) := by decide +kernel
theorem d5_inconsistencies_45 : decode b5_inconsistencies 45 = .ok (.iaload, 1) := by decide +kernel
theorem d5_inconsistencies_46 : decode b5_inconsistencies 46 = .ok (.aload_n 0, 1) := by decide +kernel
theorem d5_inconsistencies_47 : decode b5_inconsistencies 47 = .ok (.getfield 36, 3) := by decide +kernel
theorem d5_inconsistencies_50 : decode b5_inconsistencies 50 = .ok (.getfield 183, 3) := by decide +kernel
theorem d5_inconsistencies_53 : decode b5_inconsistencies 53 = .ok (.iload_n 2, 1) := by decide +kernel
theorem d5_inconsistencies_54 : decode b5_inconsistencies 54 = .ok (.iaload, 1) := by decide +kernel
theorem d5_inconsistencies_55 : decode b5_inconsistencies 55 = .ok (.isub, 1) := by decide +kernel
theorem d5_inconsistencies_56 : decode b5_inconsistencies 56 = .ok (.istore_n 3, 1) := by decide +kernel
theorem d5_inconsistencies_57 : decode b5_inconsistencies 57 = .ok (.iconst 0, 1) := by decide +kernel
theorem d5_inconsistencies_58 : decode b5_inconsistencies 58 = .ok (.istore 4, 2) := by decide +kernel
theorem d5_inconsistencies_60 : decode b5_inconsistencies 60 = .ok (.iload 4, 2) := by decide +kernel
theorem d5_inconsistencies_62 : decode b5_inconsistencies 62 = .ok (.iload_n 2, 1) := by decide +kernel
theorem d5_inconsistencies_63 : decode b5_inconsistencies 63 = .ok (.if_icmp .ge 40, 3) := by decide +kernel
theorem d5_inconsistencies_66 : decode b5_inconsistencies 66 = .ok (.aload_n 0, 1) := by decide +kernel
theorem d5_inconsistencies_67 : decode b5_inconsistencies 67 = .ok (.iload 4, 2) := by decide +kernel
theorem d5_inconsistencies_69 : decode b5_inconsistencies 69 = .ok (.aload_n 0, 1) := by decide +kernel
theorem d5_inconsistencies_70 : decode b5_inconsistencies 70 = .ok (.getfield 36, 3) := by decide +kernel
theorem d5_inconsistencies_73 : decode b5_inconsistencies 73 = .ok (.getfield 189, 3) := by decide +kernel
theorem d5_inconsistencies_76 : decode b5_inconsistencies 76 = .ok (.iload_n 2, 1) := by decide +kernel
theorem d5_inconsistencies_77 : decode b5_inconsistencies 77 = .ok (.baload, 1) := by decide +kernel
theorem d5_inconsistencies_78 : decode b5_inconsistencies 78 = .ok (.aload_n 0, 1) := by decide +kernel
theorem d5_inconsistencies_79 : decode b5_inconsistencies 79 = .ok (.getfield 36, 3) := by decide +kernel
theorem d5_inconsistencies_82 : decode b5_inconsistencies 82 = .ok (.getfield 183, 3) := by decide +kernel
theorem d5_inconsistencies_85 : decode b5_inconsistencies 85 = .ok (.iload_n 2, 1) := by decide +kernel
theorem d5_inconsistencies_86 : decode b5_inconsistencies 86 = .ok (.iaload, 1) := by decide +kernel
theorem d5_inconsistencies_87 : decode b5_inconsistencies 87 = .ok (.iload_n 3, 1) := by decide +kernel
theorem d5_inconsistencies_88 : decode b5_inconsistencies 88 = .ok (.invokevirtual 205, 3) := by decide +kernel
theorem d5_inconsistencies_91 : decode b5_inconsistencies 91 = .ok (.ifCond .eq 6, 3) := by decide +kernel
theorem d5_inconsistencies_94 : decode b5_inconsistencies 94 = .ok (.iinc 1 1, 3) := by decide +kernel
theorem d5_inconsistencies_97 : decode b5_inconsistencies 97 = .ok (.iinc 4 1, 3) := by decide +kernel
theorem d5_inconsistencies_100 : decode b5_inconsistencies 100 = .ok (.goto (-40), 3) := by decide +kernel
theorem d5_inconsistencies_103 : decode b5_inconsistencies 103 = .ok (.iinc 2 1, 3) := by decide +kernel
theorem d5_inconsistencies_106 : decode b5_inconsistencies 106 = .ok (.goto (-80), 3) := by decide +kernel
theorem d5_inconsistencies_109 : decode b5_inconsistencies 109 = .ok (.iload_n 1, 1) := by decide +kernel
theorem d5_inconsistencies_110 : decode b5_inconsistencies 110 = .ok (.ireturn, 1) := by decide +kernel
abbrev b5_book : ByteArray := prog_1_method_53_code
def y5_book : MethodName := ⟨"ChannelSchedule", "book", "(IZI)I"⟩
theorem w5_book : YV y5_book b5_book 4 (some .int) 3 := ⟨LW_i 564 (by decide +kernel) (by decide +kernel), LW_i 565 (by decide +kernel) (by decide +kernel), LW_i 28 (by decide +kernel) (by decide +kernel), LW_i 566 (by decide +kernel) (by decide +kernel), by decide +kernel, by decide +kernel⟩
theorem d5_book_0 : decode b5_book 0 = .ok (.aload_n 0, 1) := by decide +kernel
theorem d5_book_1 : decode b5_book 1 = .ok (.iload_n 1, 1) := by decide +kernel
theorem d5_book_2 : decode b5_book 2 = .ok (.iload_n 2, 1) := by decide +kernel
theorem d5_book_3 : decode b5_book 3 = .ok (.iload_n 3, 1) := by decide +kernel
theorem d5_book_4 : decode b5_book 4 = .ok (.invokevirtual 277, 3) := by decide +kernel
theorem d5_book_7 : decode b5_book 7 = .ok (.invokestatic 281, 3) := by decide +kernel
theorem d5_book_10 : decode b5_book 10 = .ok (.aload_n 0, 1) := by decide +kernel
theorem d5_book_11 : decode b5_book 11 = .ok (.invokevirtual 284, 3) := by decide +kernel
theorem d5_book_14 : decode b5_book 14 = .ok (.aload_n 0, 1) := by decide +kernel
theorem d5_book_15 : decode b5_book 15 = .ok (.iload_n 1, 1) := by decide +kernel
theorem d5_book_16 : decode b5_book 16 = .ok (.iload_n 2, 1) := by decide +kernel
theorem d5_book_17 : decode b5_book 17 = .ok (.iload_n 3, 1) := by decide +kernel
theorem d5_book_18 : decode b5_book 18 = .ok (.invokevirtual 287, 3) := by decide +kernel
theorem d5_book_21 : decode b5_book 21 = .ok (.ireturn, 1) := by decide +kernel
abbrev b5_request : ByteArray := prog_1_method_54_code
def y5_request : MethodName := ⟨"ChannelSchedule", "request", "(IZII)I"⟩
theorem w5_request : YV y5_request b5_request 5 (some .int) 4 := ⟨LW_i 621 (by decide +kernel) (by decide +kernel), LW_i 622 (by decide +kernel) (by decide +kernel), LW_i 28 (by decide +kernel) (by decide +kernel), LW_i 623 (by decide +kernel) (by decide +kernel), by decide +kernel, by decide +kernel⟩
theorem d5_request_0 : decode b5_request 0 = .ok (.aload_n 0, 1) := by decide +kernel
theorem d5_request_1 : decode b5_request 1 = .ok (.iload_n 1, 1) := by decide +kernel
theorem d5_request_2 : decode b5_request 2 = .ok (.iload_n 2, 1) := by decide +kernel
theorem d5_request_3 : decode b5_request 3 = .ok (.iload_n 3, 1) := by decide +kernel
theorem d5_request_4 : decode b5_request 4 = .ok (.iload 4, 2) := by decide +kernel
theorem d5_request_6 : decode b5_request 6 = .ok (.invokevirtual 290, 3) := by decide +kernel
theorem d5_request_9 : decode b5_request 9 = .ok (.invokestatic 281, 3) := by decide +kernel
theorem d5_request_12 : decode b5_request 12 = .ok (.aload_n 0, 1) := by decide +kernel
theorem d5_request_13 : decode b5_request 13 = .ok (.invokevirtual 284, 3) := by decide +kernel
theorem d5_request_16 : decode b5_request 16 = .ok (.aload_n 0, 1) := by decide +kernel
theorem d5_request_17 : decode b5_request 17 = .ok (.iload_n 1, 1) := by decide +kernel
theorem d5_request_18 : decode b5_request 18 = .ok (.iload_n 2, 1) := by decide +kernel
theorem d5_request_19 : decode b5_request 19 = .ok (.iload_n 3, 1) := by decide +kernel
theorem d5_request_20 : decode b5_request 20 = .ok (.iload 4, 2) := by decide +kernel
theorem d5_request_22 : decode b5_request 22 = .ok (.invokevirtual 294, 3) := by decide +kernel
theorem d5_request_25 : decode b5_request 25 = .ok (.ireturn, 1) := by decide +kernel
abbrev b5_cancel : ByteArray := prog_1_method_55_code
def y5_cancel : MethodName := ⟨"ChannelSchedule", "cancel", "(I)I"⟩
theorem w5_cancel : YV y5_cancel b5_cancel 2 (some .int) 1 := ⟨LW_i 645 (by decide +kernel) (by decide +kernel), LW_i 646 (by decide +kernel) (by decide +kernel), LW_i 28 (by decide +kernel) (by decide +kernel), LW_i 647 (by decide +kernel) (by decide +kernel), by decide +kernel, by decide +kernel⟩
theorem d5_cancel_0 : decode b5_cancel 0 = .ok (.aload_n 0, 1) := by decide +kernel
theorem d5_cancel_1 : decode b5_cancel 1 = .ok (.iload_n 1, 1) := by decide +kernel
theorem d5_cancel_2 : decode b5_cancel 2 = .ok (.invokevirtual 297, 3) := by decide +kernel
theorem d5_cancel_5 : decode b5_cancel 5 = .ok (.invokestatic 281, 3) := by decide +kernel
theorem d5_cancel_8 : decode b5_cancel 8 = .ok (.aload_n 0, 1) := by decide +kernel
theorem d5_cancel_9 : decode b5_cancel 9 = .ok (.invokevirtual 284, 3) := by decide +kernel
theorem d5_cancel_12 : decode b5_cancel 12 = .ok (.aload_n 0, 1) := by decide +kernel
theorem d5_cancel_13 : decode b5_cancel 13 = .ok (.iload_n 1, 1) := by decide +kernel
theorem d5_cancel_14 : decode b5_cancel 14 = .ok (.invokevirtual 265, 3) := by decide +kernel
theorem d5_cancel_17 : decode b5_cancel 17 = .ok (.ireturn, 1) := by decide +kernel
abbrev b5_withdraw : ByteArray := prog_1_method_57_code
def y5_withdraw : MethodName := ⟨"ChannelSchedule", "withdraw", "(I)I"⟩
theorem w5_withdraw : YV y5_withdraw b5_withdraw 3 (some .int) 1 := ⟨LW_i 1078 (by decide +kernel) (by decide +kernel), LW_i 1079 (by decide +kernel) (by decide +kernel), LW_i 28 (by decide +kernel) (by decide +kernel), LW_i 1080 (by decide +kernel) (by decide +kernel), by decide +kernel, by decide +kernel⟩
theorem d5_withdraw_0 : decode b5_withdraw 0 = .ok (.aload_n 0, 1) := by decide +kernel
theorem d5_withdraw_1 : decode b5_withdraw 1 = .ok (.iload_n 1, 1) := by decide +kernel
theorem d5_withdraw_2 : decode b5_withdraw 2 = .ok (.invokevirtual 234, 3) := by decide +kernel
theorem d5_withdraw_5 : decode b5_withdraw 5 = .ok (.invokestatic 136, 3) := by decide +kernel
theorem d5_withdraw_8 : decode b5_withdraw 8 = .ok (.aload_n 0, 1) := by decide +kernel
theorem d5_withdraw_9 : decode b5_withdraw 9 = .ok (.invokevirtual 284, 3) := by decide +kernel
theorem d5_withdraw_12 : decode b5_withdraw 12 = .ok (.aload_n 0, 1) := by decide +kernel
theorem d5_withdraw_13 : decode b5_withdraw 13 = .ok (.getfield 36, 3) := by decide +kernel
theorem d5_withdraw_16 : decode b5_withdraw 16 = .ok (.getfield 237, 3) := by decide +kernel
theorem d5_withdraw_19 : decode b5_withdraw 19 = .ok (.iload_n 1, 1) := by decide +kernel
theorem d5_withdraw_20 : decode b5_withdraw 20 = .ok (.iaload, 1) := by decide +kernel
theorem d5_withdraw_21 : decode b5_withdraw 21 = .ok (.istore_n 2, 1) := by decide +kernel
theorem d5_withdraw_22 : decode b5_withdraw 22 = .ok (.aload_n 0, 1) := by decide +kernel
theorem d5_withdraw_23 : decode b5_withdraw 23 = .ok (.getfield 36, 3) := by decide +kernel
theorem d5_withdraw_26 : decode b5_withdraw 26 = .ok (.iload_n 1, 1) := by decide +kernel
theorem d5_withdraw_27 : decode b5_withdraw 27 = .ok (.invokevirtual 306, 3) := by decide +kernel
theorem d5_withdraw_30 : decode b5_withdraw 30 = .ok (.iload_n 2, 1) := by decide +kernel
theorem d5_withdraw_31 : decode b5_withdraw 31 = .ok (.ireturn, 1) := by decide +kernel
abbrev b5_setThickness : ByteArray := prog_1_method_58_code
def y5_setThickness : MethodName := ⟨"ChannelSchedule", "setThickness", "(I)I"⟩
theorem w5_setThickness : YV y5_setThickness b5_setThickness 2 (some .int) 1 := ⟨LW_i 1082 (by decide +kernel) (by decide +kernel), LW_i 1083 (by decide +kernel) (by decide +kernel), LW_i 28 (by decide +kernel) (by decide +kernel), LW_i 1084 (by decide +kernel) (by decide +kernel), by decide +kernel, by decide +kernel⟩
theorem d5_setThickness_0 : decode b5_setThickness 0 = .ok (.iload_n 1, 1) := by decide +kernel
theorem d5_setThickness_1 : decode b5_setThickness 1 = .ok (.iconst 0, 1) := by decide +kernel
theorem d5_setThickness_2 : decode b5_setThickness 2 = .ok (.bipush 9, 2) := by decide +kernel
theorem d5_setThickness_4 : decode b5_setThickness 4 = .ok (.invokestatic 104, 3) := by decide +kernel
theorem d5_setThickness_7 : decode b5_setThickness 7 = .ok (.invokestatic 108, 3) := by decide +kernel
theorem d5_setThickness_10 : decode b5_setThickness 10 = .ok (.aload_n 0, 1) := by decide +kernel
theorem d5_setThickness_11 : decode b5_setThickness 11 = .ok (.invokevirtual 284, 3) := by decide +kernel
theorem d5_setThickness_14 : decode b5_setThickness 14 = .ok (.aload_n 0, 1) := by decide +kernel
theorem d5_setThickness_15 : decode b5_setThickness 15 = .ok (.iload_n 1, 1) := by decide +kernel
theorem d5_setThickness_16 : decode b5_setThickness 16 = .ok (.invokevirtual 309, 3) := by decide +kernel
theorem d5_setThickness_19 : decode b5_setThickness 19 = .ok (.ireturn, 1) := by decide +kernel
abbrev b5_advance : ByteArray := prog_1_method_59_code
def y5_advance : MethodName := ⟨"ChannelSchedule", "advance", "(I)I"⟩
theorem w5_advance : YV y5_advance b5_advance 2 (some .int) 1 := ⟨LW_i 1090 (by decide +kernel) (by decide +kernel), LW_i 1091 (by decide +kernel) (by decide +kernel), LW_i 28 (by decide +kernel) (by decide +kernel), LW_i 1092 (by decide +kernel) (by decide +kernel), by decide +kernel, by decide +kernel⟩
theorem d5_advance_0 : decode b5_advance 0 = .ok (.aload_n 0, 1) := by decide +kernel
theorem d5_advance_1 : decode b5_advance 1 = .ok (.iload_n 1, 1) := by decide +kernel
theorem d5_advance_2 : decode b5_advance 2 = .ok (.invokevirtual 312, 3) := by decide +kernel
theorem d5_advance_5 : decode b5_advance 5 = .ok (.invokestatic 281, 3) := by decide +kernel
theorem d5_advance_8 : decode b5_advance 8 = .ok (.aload_n 0, 1) := by decide +kernel
theorem d5_advance_9 : decode b5_advance 9 = .ok (.invokevirtual 284, 3) := by decide +kernel
theorem d5_advance_12 : decode b5_advance 12 = .ok (.aload_n 0, 1) := by decide +kernel
theorem d5_advance_13 : decode b5_advance 13 = .ok (.iload_n 1, 1) := by decide +kernel
theorem d5_advance_14 : decode b5_advance 14 = .ok (.invokevirtual 315, 3) := by decide +kernel
theorem d5_advance_17 : decode b5_advance 17 = .ok (.ireturn, 1) := by decide +kernel
abbrev b5_requireIndex : ByteArray := prog_1_method_66_code
def y5_requireIndex : MethodName := ⟨"ChannelSchedule", "requireIndex", "(Z)V"⟩
theorem w5_requireIndex : YS y5_requireIndex b5_requireIndex 1 none 1 := ⟨LW_i 507 (by decide +kernel) (by decide +kernel), LW_i 28 (by decide +kernel) (by decide +kernel), LW_i 508 (by decide +kernel) (by decide +kernel), by decide +kernel, by decide +kernel⟩
theorem d5_requireIndex_0 : decode b5_requireIndex 0 = .ok (.iload_n 0, 1) := by decide +kernel
theorem d5_requireIndex_1 : decode b5_requireIndex 1 = .ok (.ifCond .ne 11, 3) := by decide +kernel
theorem d5_requireIndex_4 : decode b5_requireIndex 4 = .ok (.new 336, 3) := by decide +kernel
theorem d5_requireIndex_7 : decode b5_requireIndex 7 = .ok (.dup, 1) := by decide +kernel
theorem d5_requireIndex_8 : decode b5_requireIndex 8 = .ok (.invokespecial 338, 3) := by decide +kernel
theorem d5_requireIndex_11 : decode b5_requireIndex 11 = .ok (.athrow, 1) := by decide +kernel
theorem d5_requireIndex_12 : decode b5_requireIndex 12 = .ok (.return_, 1) := by decide +kernel
abbrev b5_requireArgument : ByteArray := prog_1_method_67_code
def y5_requireArgument : MethodName := ⟨"ChannelSchedule", "requireArgument", "(Z)V"⟩
theorem w5_requireArgument : YS y5_requireArgument b5_requireArgument 1 none 1 := ⟨LW_i 426 (by decide +kernel) (by decide +kernel), LW_i 28 (by decide +kernel) (by decide +kernel), LW_i 427 (by decide +kernel) (by decide +kernel), by decide +kernel, by decide +kernel⟩
theorem d5_requireArgument_0 : decode b5_requireArgument 0 = .ok (.iload_n 0, 1) := by decide +kernel
theorem d5_requireArgument_1 : decode b5_requireArgument 1 = .ok (.ifCond .ne 11, 3) := by decide +kernel
theorem d5_requireArgument_4 : decode b5_requireArgument 4 = .ok (.new 339, 3) := by decide +kernel
theorem d5_requireArgument_7 : decode b5_requireArgument 7 = .ok (.dup, 1) := by decide +kernel
theorem d5_requireArgument_8 : decode b5_requireArgument 8 = .ok (.invokespecial 341, 3) := by decide +kernel
theorem d5_requireArgument_11 : decode b5_requireArgument 11 = .ok (.athrow, 1) := by decide +kernel
theorem d5_requireArgument_12 : decode b5_requireArgument 12 = .ok (.return_, 1) := by decide +kernel
abbrev b5_requireState : ByteArray := prog_1_method_68_code
def y5_requireState : MethodName := ⟨"ChannelSchedule", "requireState", "(Z)V"⟩
theorem w5_requireState : YS y5_requireState b5_requireState 1 none 1 := ⟨LW_i 579 (by decide +kernel) (by decide +kernel), LW_i 28 (by decide +kernel) (by decide +kernel), LW_i 580 (by decide +kernel) (by decide +kernel), by decide +kernel, by decide +kernel⟩
theorem d5_requireState_0 : decode b5_requireState 0 = .ok (.iload_n 0, 1) := by decide +kernel
theorem d5_requireState_1 : decode b5_requireState 1 = .ok (.ifCond .ne 11, 3) := by decide +kernel
theorem d5_requireState_4 : decode b5_requireState 4 = .ok (.new 342, 3) := by decide +kernel
theorem d5_requireState_7 : decode b5_requireState 7 = .ok (.dup, 1) := by decide +kernel
theorem d5_requireState_8 : decode b5_requireState 8 = .ok (.invokespecial 344, 3) := by decide +kernel
theorem d5_requireState_11 : decode b5_requireState 11 = .ok (.athrow, 1) := by decide +kernel
theorem d5_requireState_12 : decode b5_requireState 12 = .ok (.return_, 1) := by decide +kernel
abbrev b5_refuse : ByteArray := prog_1_method_70_code
def y5_refuse : MethodName := ⟨"ChannelSchedule", "refuse", "(I)V"⟩
theorem w5_refuse : YS y5_refuse b5_refuse 1 none 1 := ⟨LW_i 576 (by decide +kernel) (by decide +kernel), LW_i 28 (by decide +kernel) (by decide +kernel), LW_i 577 (by decide +kernel) (by decide +kernel), by decide +kernel, by decide +kernel⟩
theorem d5_refuse_0 : decode b5_refuse 0 = .ok (.iload_n 0, 1) := by decide +kernel
theorem d5_refuse_1 : decode b5_refuse 1 = .ok (.iconst 1, 1) := by decide +kernel
theorem d5_refuse_2 : decode b5_refuse 2 = .ok (.if_icmp .eq 7, 3) := by decide +kernel
theorem d5_refuse_5 : decode b5_refuse 5 = .ok (.iconst 1, 1) := by decide +kernel
theorem d5_refuse_6 : decode b5_refuse 6 = .ok (.goto 4, 3) := by decide +kernel
theorem d5_refuse_9 : decode b5_refuse 9 = .ok (.iconst 0, 1) := by decide +kernel
theorem d5_refuse_10 : decode b5_refuse 10 = .ok (.invokestatic 136, 3) := by decide +kernel
theorem d5_refuse_13 : decode b5_refuse 13 = .ok (.iload_n 0, 1) := by decide +kernel
theorem d5_refuse_14 : decode b5_refuse 14 = .ok (.iconst 2, 1) := by decide +kernel
theorem d5_refuse_15 : decode b5_refuse 15 = .ok (.if_icmp .eq 7, 3) := by decide +kernel
theorem d5_refuse_18 : decode b5_refuse 18 = .ok (.iconst 1, 1) := by decide +kernel
theorem d5_refuse_19 : decode b5_refuse 19 = .ok (.goto 4, 3) := by decide +kernel
theorem d5_refuse_22 : decode b5_refuse 22 = .ok (.iconst 0, 1) := by decide +kernel
theorem d5_refuse_23 : decode b5_refuse 23 = .ok (.invokestatic 108, 3) := by decide +kernel
theorem d5_refuse_26 : decode b5_refuse 26 = .ok (.iload_n 0, 1) := by decide +kernel
theorem d5_refuse_27 : decode b5_refuse 27 = .ok (.iconst 3, 1) := by decide +kernel
theorem d5_refuse_28 : decode b5_refuse 28 = .ok (.if_icmp .eq 7, 3) := by decide +kernel
theorem d5_refuse_31 : decode b5_refuse 31 = .ok (.iconst 1, 1) := by decide +kernel
theorem d5_refuse_32 : decode b5_refuse 32 = .ok (.goto 4, 3) := by decide +kernel
theorem d5_refuse_35 : decode b5_refuse 35 = .ok (.iconst 0, 1) := by decide +kernel
theorem d5_refuse_36 : decode b5_refuse 36 = .ok (.invokestatic 97, 3) := by decide +kernel
theorem d5_refuse_39 : decode b5_refuse 39 = .ok (.return_, 1) := by decide +kernel
abbrev b5_isWithin : ByteArray := prog_1_method_71_code
def y5_isWithin : MethodName := ⟨"ChannelSchedule", "isWithin", "(III)Z"⟩
theorem w5_isWithin : YS y5_isWithin b5_isWithin 3 (some .boolean) 3 := ⟨LW_i 545 (by decide +kernel) (by decide +kernel), LW_i 28 (by decide +kernel) (by decide +kernel), LW_i 546 (by decide +kernel) (by decide +kernel), by decide +kernel, by decide +kernel⟩
theorem d5_isWithin_0 : decode b5_isWithin 0 = .ok (.iload_n 0, 1) := by decide +kernel
theorem d5_isWithin_1 : decode b5_isWithin 1 = .ok (.iload_n 1, 1) := by decide +kernel
theorem d5_isWithin_2 : decode b5_isWithin 2 = .ok (.if_icmp .lt 12, 3) := by decide +kernel
theorem d5_isWithin_5 : decode b5_isWithin 5 = .ok (.iload_n 0, 1) := by decide +kernel
theorem d5_isWithin_6 : decode b5_isWithin 6 = .ok (.iload_n 2, 1) := by decide +kernel
theorem d5_isWithin_7 : decode b5_isWithin 7 = .ok (.if_icmp .gt 7, 3) := by decide +kernel
theorem d5_isWithin_10 : decode b5_isWithin 10 = .ok (.iconst 1, 1) := by decide +kernel
theorem d5_isWithin_11 : decode b5_isWithin 11 = .ok (.goto 4, 3) := by decide +kernel
theorem d5_isWithin_14 : decode b5_isWithin 14 = .ok (.iconst 0, 1) := by decide +kernel
theorem d5_isWithin_15 : decode b5_isWithin 15 = .ok (.ireturn, 1) := by decide +kernel
abbrev b5_isNumberBelow : ByteArray := prog_1_method_72_code
def y5_isNumberBelow : MethodName := ⟨"ChannelSchedule", "isNumberBelow", "(II)Z"⟩
theorem w5_isNumberBelow : YS y5_isNumberBelow b5_isNumberBelow 2 (some .boolean) 2 := ⟨LW_i 504 (by decide +kernel) (by decide +kernel), LW_i 28 (by decide +kernel) (by decide +kernel), LW_i 505 (by decide +kernel) (by decide +kernel), by decide +kernel, by decide +kernel⟩
theorem d5_isNumberBelow_0 : decode b5_isNumberBelow 0 = .ok (.iload_n 0, 1) := by decide +kernel
theorem d5_isNumberBelow_1 : decode b5_isNumberBelow 1 = .ok (.ifCond .lt 12, 3) := by decide +kernel
theorem d5_isNumberBelow_4 : decode b5_isNumberBelow 4 = .ok (.iload_n 0, 1) := by decide +kernel
theorem d5_isNumberBelow_5 : decode b5_isNumberBelow 5 = .ok (.iload_n 1, 1) := by decide +kernel
theorem d5_isNumberBelow_6 : decode b5_isNumberBelow 6 = .ok (.if_icmp .ge 7, 3) := by decide +kernel
theorem d5_isNumberBelow_9 : decode b5_isNumberBelow 9 = .ok (.iconst 1, 1) := by decide +kernel
theorem d5_isNumberBelow_10 : decode b5_isNumberBelow 10 = .ok (.goto 4, 3) := by decide +kernel
theorem d5_isNumberBelow_13 : decode b5_isNumberBelow 13 = .ok (.iconst 0, 1) := by decide +kernel
theorem d5_isNumberBelow_14 : decode b5_isNumberBelow 14 = .ok (.ireturn, 1) := by decide +kernel
abbrev b5_isShip : ByteArray := prog_1_method_73_code
def y5_isShip : MethodName := ⟨"ChannelSchedule", "isShip", "(I)Z"⟩
theorem w5_isShip : YV y5_isShip b5_isShip 2 (some .boolean) 1 := ⟨LW_i 501 (by decide +kernel) (by decide +kernel), LW_i 6 (by decide +kernel) (by decide +kernel), LW_i 28 (by decide +kernel) (by decide +kernel), LW_i 502 (by decide +kernel) (by decide +kernel), by decide +kernel, by decide +kernel⟩
theorem d5_isShip_0 : decode b5_isShip 0 = .ok (.iload_n 1, 1) := by decide +kernel
theorem d5_isShip_1 : decode b5_isShip 1 = .ok (.aload_n 0, 1) := by decide +kernel
theorem d5_isShip_2 : decode b5_isShip 2 = .ok (.getfield 26, 3) := by decide +kernel
theorem d5_isShip_5 : decode b5_isShip 5 = .ok (.getfield 111, 3) := by decide +kernel
theorem d5_isShip_8 : decode b5_isShip 8 = .ok (.invokestatic 158, 3) := by decide +kernel
theorem d5_isShip_11 : decode b5_isShip 11 = .ok (.ireturn, 1) := by decide +kernel
abbrev b5_isBooking : ByteArray := prog_1_method_74_code
def y5_isBooking : MethodName := ⟨"ChannelSchedule", "isBooking", "(I)Z"⟩
theorem w5_isBooking : YV y5_isBooking b5_isBooking 2 (some .boolean) 1 := ⟨LW_i 538 (by decide +kernel) (by decide +kernel), LW_i 8 (by decide +kernel) (by decide +kernel), LW_i 28 (by decide +kernel) (by decide +kernel), LW_i 539 (by decide +kernel) (by decide +kernel), by decide +kernel, by decide +kernel⟩
theorem d5_isBooking_0 : decode b5_isBooking 0 = .ok (.iload_n 1, 1) := by decide +kernel
theorem d5_isBooking_1 : decode b5_isBooking 1 = .ok (.aload_n 0, 1) := by decide +kernel
theorem d5_isBooking_2 : decode b5_isBooking 2 = .ok (.getfield 36, 3) := by decide +kernel
theorem d5_isBooking_5 : decode b5_isBooking 5 = .ok (.getfield 175, 3) := by decide +kernel
theorem d5_isBooking_8 : decode b5_isBooking 8 = .ok (.invokestatic 158, 3) := by decide +kernel
theorem d5_isBooking_11 : decode b5_isBooking 11 = .ok (.ireturn, 1) := by decide +kernel
abbrev b5_isRequest : ByteArray := prog_1_method_75_code
def y5_isRequest : MethodName := ⟨"ChannelSchedule", "isRequest", "(I)Z"⟩
theorem w5_isRequest : YV y5_isRequest b5_isRequest 2 (some .boolean) 1 := ⟨LW_i 749 (by decide +kernel) (by decide +kernel), LW_i 23 (by decide +kernel) (by decide +kernel), LW_i 28 (by decide +kernel) (by decide +kernel), LW_i 750 (by decide +kernel) (by decide +kernel), by decide +kernel, by decide +kernel⟩
theorem d5_isRequest_0 : decode b5_isRequest 0 = .ok (.iload_n 1, 1) := by decide +kernel
theorem d5_isRequest_1 : decode b5_isRequest 1 = .ok (.aload_n 0, 1) := by decide +kernel
theorem d5_isRequest_2 : decode b5_isRequest 2 = .ok (.getfield 36, 3) := by decide +kernel
theorem d5_isRequest_5 : decode b5_isRequest 5 = .ok (.getfield 231, 3) := by decide +kernel
theorem d5_isRequest_8 : decode b5_isRequest 8 = .ok (.invokestatic 158, 3) := by decide +kernel
theorem d5_isRequest_11 : decode b5_isRequest 11 = .ok (.ireturn, 1) := by decide +kernel
abbrev b5_transitOf : ByteArray := prog_1_method_76_code
def y5_transitOf : MethodName := ⟨"ChannelSchedule", "transitOf", "(I)I"⟩
theorem w5_transitOf : YV y5_transitOf b5_transitOf 4 (some .int) 1 := ⟨LW_i 526 (by decide +kernel) (by decide +kernel), LW_i 7 (by decide +kernel) (by decide +kernel), LW_i 28 (by decide +kernel) (by decide +kernel), LW_i 527 (by decide +kernel) (by decide +kernel), by decide +kernel, by decide +kernel⟩
theorem d5_transitOf_0 : decode b5_transitOf 0 = .ok (.aload_n 0, 1) := by decide +kernel
theorem d5_transitOf_1 : decode b5_transitOf 1 = .ok (.getfield 26, 3) := by decide +kernel
theorem d5_transitOf_4 : decode b5_transitOf 4 = .ok (.getfield 143, 3) := by decide +kernel
theorem d5_transitOf_7 : decode b5_transitOf 7 = .ok (.iload_n 1, 1) := by decide +kernel
theorem d5_transitOf_8 : decode b5_transitOf 8 = .ok (.aaload, 1) := by decide +kernel
theorem d5_transitOf_9 : decode b5_transitOf 9 = .ok (.astore_n 2, 1) := by decide +kernel
theorem d5_transitOf_10 : decode b5_transitOf 10 = .ok (.aload_n 0, 1) := by decide +kernel
theorem d5_transitOf_11 : decode b5_transitOf 11 = .ok (.getfield 36, 3) := by decide +kernel
theorem d5_transitOf_14 : decode b5_transitOf 14 = .ok (.getfield 126, 3) := by decide +kernel
theorem d5_transitOf_17 : decode b5_transitOf 17 = .ok (.aload_n 2, 1) := by decide +kernel
theorem d5_transitOf_18 : decode b5_transitOf 18 = .ok (.getfield 147, 3) := by decide +kernel
theorem d5_transitOf_21 : decode b5_transitOf 21 = .ok (.isub, 1) := by decide +kernel
theorem d5_transitOf_22 : decode b5_transitOf 22 = .ok (.istore_n 3, 1) := by decide +kernel
theorem d5_transitOf_23 : decode b5_transitOf 23 = .ok (.iload_n 3, 1) := by decide +kernel
theorem d5_transitOf_24 : decode b5_transitOf 24 = .ok (.ifCond .le 14, 3) := by decide +kernel
theorem d5_transitOf_27 : decode b5_transitOf 27 = .ok (.aload_n 2, 1) := by decide +kernel
theorem d5_transitOf_28 : decode b5_transitOf 28 = .ok (.getfield 348, 3) := by decide +kernel
theorem d5_transitOf_31 : decode b5_transitOf 31 = .ok (.iconst 2, 1) := by decide +kernel
theorem d5_transitOf_32 : decode b5_transitOf 32 = .ok (.iload_n 3, 1) := by decide +kernel
theorem d5_transitOf_33 : decode b5_transitOf 33 = .ok (.imul, 1) := by decide +kernel
theorem d5_transitOf_34 : decode b5_transitOf 34 = .ok (.iadd, 1) := by decide +kernel
theorem d5_transitOf_35 : decode b5_transitOf 35 = .ok (.goto 7, 3) := by decide +kernel
theorem d5_transitOf_38 : decode b5_transitOf 38 = .ok (.aload_n 2, 1) := by decide +kernel
theorem d5_transitOf_39 : decode b5_transitOf 39 = .ok (.getfield 348, 3) := by decide +kernel
theorem d5_transitOf_42 : decode b5_transitOf 42 = .ok (.ireturn, 1) := by decide +kernel
abbrev b5_freeAfter : ByteArray := prog_1_method_77_code
def y5_freeAfter : MethodName := ⟨"ChannelSchedule", "freeAfter", "(IIZI)I"⟩
theorem w5_freeAfter : YV y5_freeAfter b5_freeAfter 7 (some .int) 4 := ⟨LW_i 557 (by decide +kernel) (by decide +kernel), LW_i 11 (by decide +kernel) (by decide +kernel), LW_i 28 (by decide +kernel) (by decide +kernel), LW_i 558 (by decide +kernel) (by decide +kernel), by decide +kernel, by decide +kernel⟩
theorem d5_freeAfter_0 : decode b5_freeAfter 0 = .ok (.iload_n 3, 1) := by decide +kernel
theorem d5_freeAfter_1 : decode b5_freeAfter 1 = .ok (.ifCond .ne 13, 3) := by decide +kernel
theorem d5_freeAfter_4 : decode b5_freeAfter 4 = .ok (.iload_n 2, 1) := by decide +kernel
theorem d5_freeAfter_5 : decode b5_freeAfter 5 = .ok (.aload_n 0, 1) := by decide +kernel
theorem d5_freeAfter_6 : decode b5_freeAfter 6 = .ok (.getfield 26, 3) := by decide +kernel
theorem d5_freeAfter_9 : decode b5_freeAfter 9 = .ok (.getfield 123, 3) := by decide +kernel
theorem d5_freeAfter_12 : decode b5_freeAfter 12 = .ok (.iadd, 1) := by decide +kernel
theorem d5_freeAfter_13 : decode b5_freeAfter 13 = .ok (.ireturn, 1) := by decide +kernel
theorem d5_freeAfter_14 : decode b5_freeAfter 14 = .ok (.aload_n 0, 1) := by decide +kernel
theorem d5_freeAfter_15 : decode b5_freeAfter 15 = .ok (.getfield 26, 3) := by decide +kernel
theorem d5_freeAfter_18 : decode b5_freeAfter 18 = .ok (.getfield 120, 3) := by decide +kernel
theorem d5_freeAfter_21 : decode b5_freeAfter 21 = .ok (.ifCond .le 15, 3) := by decide +kernel
theorem d5_freeAfter_24 : decode b5_freeAfter 24 = .ok (.iload_n 1, 1) := by decide +kernel
theorem d5_freeAfter_25 : decode b5_freeAfter 25 = .ok (.aload_n 0, 1) := by decide +kernel
theorem d5_freeAfter_26 : decode b5_freeAfter 26 = .ok (.getfield 26, 3) := by decide +kernel
theorem d5_freeAfter_29 : decode b5_freeAfter 29 = .ok (.getfield 120, 3) := by decide +kernel
theorem d5_freeAfter_32 : decode b5_freeAfter 32 = .ok (.iadd, 1) := by decide +kernel
theorem d5_freeAfter_33 : decode b5_freeAfter 33 = .ok (.goto 6, 3) := by decide +kernel
theorem d5_freeAfter_36 : decode b5_freeAfter 36 = .ok (.iload_n 1, 1) := by decide +kernel
theorem d5_freeAfter_37 : decode b5_freeAfter 37 = .ok (.iconst 1, 1) := by decide +kernel
theorem d5_freeAfter_38 : decode b5_freeAfter 38 = .ok (.iadd, 1) := by decide +kernel
theorem d5_freeAfter_39 : decode b5_freeAfter 39 = .ok (.istore 5, 2) := by decide +kernel
theorem d5_freeAfter_41 : decode b5_freeAfter 41 = .ok (.iload_n 2, 1) := by decide +kernel
theorem d5_freeAfter_42 : decode b5_freeAfter 42 = .ok (.aload_n 0, 1) := by decide +kernel
theorem d5_freeAfter_43 : decode b5_freeAfter 43 = .ok (.getfield 26, 3) := by decide +kernel
theorem d5_freeAfter_46 : decode b5_freeAfter 46 = .ok (.getfield 120, 3) := by decide +kernel
theorem d5_freeAfter_49 : decode b5_freeAfter 49 = .ok (.iadd, 1) := by decide +kernel
theorem d5_freeAfter_50 : decode b5_freeAfter 50 = .ok (.iload 4, 2) := by decide +kernel
theorem d5_freeAfter_52 : decode b5_freeAfter 52 = .ok (.isub, 1) := by decide +kernel
theorem d5_freeAfter_53 : decode b5_freeAfter 53 = .ok (.istore 6, 2) := by decide +kernel
theorem d5_freeAfter_55 : decode b5_freeAfter 55 = .ok (.iload 5, 2) := by decide +kernel
theorem d5_freeAfter_57 : decode b5_freeAfter 57 = .ok (.iload 6, 2) := by decide +kernel
theorem d5_freeAfter_59 : decode b5_freeAfter 59 = .ok (.if_icmp .le 8, 3) := by decide +kernel
theorem d5_freeAfter_62 : decode b5_freeAfter 62 = .ok (.iload 5, 2) := by decide +kernel
theorem d5_freeAfter_64 : decode b5_freeAfter 64 = .ok (.goto 5, 3) := by decide +kernel
theorem d5_freeAfter_67 : decode b5_freeAfter 67 = .ok (.iload 6, 2) := by decide +kernel
theorem d5_freeAfter_69 : decode b5_freeAfter 69 = .ok (.ireturn, 1) := by decide +kernel
abbrev b5_freeBefore : ByteArray := prog_1_method_78_code
def y5_freeBefore : MethodName := ⟨"ChannelSchedule", "freeBefore", "(IIZI)I"⟩
theorem w5_freeBefore : YV y5_freeBefore b5_freeBefore 7 (some .int) 4 := ⟨LW_i 553 (by decide +kernel) (by decide +kernel), LW_i 10 (by decide +kernel) (by decide +kernel), LW_i 28 (by decide +kernel) (by decide +kernel), LW_i 554 (by decide +kernel) (by decide +kernel), by decide +kernel, by decide +kernel⟩
theorem d5_freeBefore_0 : decode b5_freeBefore 0 = .ok (.iload_n 3, 1) := by decide +kernel
theorem d5_freeBefore_1 : decode b5_freeBefore 1 = .ok (.ifCond .ne 16, 3) := by decide +kernel
theorem d5_freeBefore_4 : decode b5_freeBefore 4 = .ok (.iload_n 1, 1) := by decide +kernel
theorem d5_freeBefore_5 : decode b5_freeBefore 5 = .ok (.aload_n 0, 1) := by decide +kernel
theorem d5_freeBefore_6 : decode b5_freeBefore 6 = .ok (.getfield 26, 3) := by decide +kernel
theorem d5_freeBefore_9 : decode b5_freeBefore 9 = .ok (.getfield 123, 3) := by decide +kernel
theorem d5_freeBefore_12 : decode b5_freeBefore 12 = .ok (.isub, 1) := by decide +kernel
theorem d5_freeBefore_13 : decode b5_freeBefore 13 = .ok (.iload 4, 2) := by decide +kernel
theorem d5_freeBefore_15 : decode b5_freeBefore 15 = .ok (.isub, 1) := by decide +kernel
theorem d5_freeBefore_16 : decode b5_freeBefore 16 = .ok (.ireturn, 1) := by decide +kernel
theorem d5_freeBefore_17 : decode b5_freeBefore 17 = .ok (.aload_n 0, 1) := by decide +kernel
theorem d5_freeBefore_18 : decode b5_freeBefore 18 = .ok (.getfield 26, 3) := by decide +kernel
theorem d5_freeBefore_21 : decode b5_freeBefore 21 = .ok (.getfield 120, 3) := by decide +kernel
theorem d5_freeBefore_24 : decode b5_freeBefore 24 = .ok (.ifCond .le 15, 3) := by decide +kernel
theorem d5_freeBefore_27 : decode b5_freeBefore 27 = .ok (.iload_n 1, 1) := by decide +kernel
theorem d5_freeBefore_28 : decode b5_freeBefore 28 = .ok (.aload_n 0, 1) := by decide +kernel
theorem d5_freeBefore_29 : decode b5_freeBefore 29 = .ok (.getfield 26, 3) := by decide +kernel
theorem d5_freeBefore_32 : decode b5_freeBefore 32 = .ok (.getfield 120, 3) := by decide +kernel
theorem d5_freeBefore_35 : decode b5_freeBefore 35 = .ok (.isub, 1) := by decide +kernel
theorem d5_freeBefore_36 : decode b5_freeBefore 36 = .ok (.goto 6, 3) := by decide +kernel
theorem d5_freeBefore_39 : decode b5_freeBefore 39 = .ok (.iload_n 1, 1) := by decide +kernel
theorem d5_freeBefore_40 : decode b5_freeBefore 40 = .ok (.iconst 1, 1) := by decide +kernel
theorem d5_freeBefore_41 : decode b5_freeBefore 41 = .ok (.isub, 1) := by decide +kernel
theorem d5_freeBefore_42 : decode b5_freeBefore 42 = .ok (.istore 5, 2) := by decide +kernel
theorem d5_freeBefore_44 : decode b5_freeBefore 44 = .ok (.iload_n 2, 1) := by decide +kernel
theorem d5_freeBefore_45 : decode b5_freeBefore 45 = .ok (.aload_n 0, 1) := by decide +kernel
theorem d5_freeBefore_46 : decode b5_freeBefore 46 = .ok (.getfield 26, 3) := by decide +kernel
theorem d5_freeBefore_49 : decode b5_freeBefore 49 = .ok (.getfield 120, 3) := by decide +kernel
theorem d5_freeBefore_52 : decode b5_freeBefore 52 = .ok (.isub, 1) := by decide +kernel
theorem d5_freeBefore_53 : decode b5_freeBefore 53 = .ok (.iload 4, 2) := by decide +kernel
theorem d5_freeBefore_55 : decode b5_freeBefore 55 = .ok (.isub, 1) := by decide +kernel
theorem d5_freeBefore_56 : decode b5_freeBefore 56 = .ok (.istore 6, 2) := by decide +kernel
theorem d5_freeBefore_58 : decode b5_freeBefore 58 = .ok (.iload 5, 2) := by decide +kernel
theorem d5_freeBefore_60 : decode b5_freeBefore 60 = .ok (.iload 6, 2) := by decide +kernel
theorem d5_freeBefore_62 : decode b5_freeBefore 62 = .ok (.if_icmp .ge 8, 3) := by decide +kernel
theorem d5_freeBefore_65 : decode b5_freeBefore 65 = .ok (.iload 5, 2) := by decide +kernel
theorem d5_freeBefore_67 : decode b5_freeBefore 67 = .ok (.goto 5, 3) := by decide +kernel
theorem d5_freeBefore_70 : decode b5_freeBefore 70 = .ok (.iload 6, 2) := by decide +kernel
theorem d5_freeBefore_72 : decode b5_freeBefore 72 = .ok (.ireturn, 1) := by decide +kernel
abbrev b5_clashes : ByteArray := prog_1_method_79_code
def y5_clashes : MethodName := ⟨"ChannelSchedule", "clashes", "(IZII)Z"⟩
theorem w5_clashes : YV y5_clashes b5_clashes 6 (some .boolean) 4 := ⟨LW_i 549 (by decide +kernel) (by decide +kernel), LW_i 9 (by decide +kernel) (by decide +kernel), LW_i 28 (by decide +kernel) (by decide +kernel), LW_i 550 (by decide +kernel) (by decide +kernel), by decide +kernel, by decide +kernel⟩
theorem d5_clashes_0 : decode b5_clashes 0 = .ok (.aload_n 0, 1) := by decide +kernel
theorem d5_clashes_1 : decode b5_clashes 1 = .ok (.getfield 36, 3) := by decide +kernel
theorem d5_clashes_4 : decode b5_clashes 4 = .ok (.getfield 189, 3) := by decide +kernel
theorem d5_clashes_7 : decode b5_clashes 7 = .ok (.iload_n 1, 1) := by decide +kernel
theorem d5_clashes_8 : decode b5_clashes 8 = .ok (.baload, 1) := by decide +kernel
theorem d5_clashes_9 : decode b5_clashes 9 = .ok (.iload_n 2, 1) := by decide +kernel
theorem d5_clashes_10 : decode b5_clashes 10 = .ok (.if_icmp .ne 7, 3) := by decide +kernel
theorem d5_clashes_13 : decode b5_clashes 13 = .ok (.iconst 1, 1) := by decide +kernel
theorem d5_clashes_14 : decode b5_clashes 14 = .ok (.goto 4, 3) := by decide +kernel
theorem d5_clashes_17 : decode b5_clashes 17 = .ok (.iconst 0, 1) := by decide +kernel
theorem d5_clashes_18 : decode b5_clashes 18 = .ok (.istore 5, 2) := by decide +kernel
theorem d5_clashes_20 : decode b5_clashes 20 = .ok (.iload_n 3, 1) := by decide +kernel
theorem d5_clashes_21 : decode b5_clashes 21 = .ok (.aload_n 0, 1) := by decide +kernel
theorem d5_clashes_22 : decode b5_clashes 22 = .ok (.aload_n 0, 1) := by decide +kernel
theorem d5_clashes_23 : decode b5_clashes 23 = .ok (.getfield 36, 3) := by decide +kernel
theorem d5_clashes_26 : decode b5_clashes 26 = .ok (.getfield 183, 3) := by decide +kernel
theorem d5_clashes_29 : decode b5_clashes 29 = .ok (.iload_n 1, 1) := by decide +kernel
theorem d5_clashes_30 : decode b5_clashes 30 = .ok (.iaload, 1) := by decide +kernel
theorem d5_clashes_31 : decode b5_clashes 31 = .ok (.aload_n 0, 1) := by decide +kernel
theorem d5_clashes_32 : decode b5_clashes 32 = .ok (.getfield 36, 3) := by decide +kernel
theorem d5_clashes_35 : decode b5_clashes 35 = .ok (.getfield 186, 3) := by decide +kernel
theorem d5_clashes_38 : decode b5_clashes 38 = .ok (.iload_n 1, 1) := by decide +kernel
theorem d5_clashes_39 : decode b5_clashes 39 = .ok (.iaload, 1) := by decide +kernel
theorem d5_clashes_40 : decode b5_clashes 40 = .ok (.iload 5, 2) := by decide +kernel
theorem d5_clashes_42 : decode b5_clashes 42 = .ok (.iload 4, 2) := by decide +kernel
theorem d5_clashes_44 : decode b5_clashes 44 = .ok (.invokevirtual 224, 3) := by decide +kernel
theorem d5_clashes_47 : decode b5_clashes 47 = .ok (.if_icmp .le 37, 3) := by decide +kernel
theorem d5_clashes_50 : decode b5_clashes 50 = .ok (.iload_n 3, 1) := by decide +kernel
theorem d5_clashes_51 : decode b5_clashes 51 = .ok (.aload_n 0, 1) := by decide +kernel
theorem d5_clashes_52 : decode b5_clashes 52 = .ok (.aload_n 0, 1) := by decide +kernel
theorem d5_clashes_53 : decode b5_clashes 53 = .ok (.getfield 36, 3) := by decide +kernel
theorem d5_clashes_56 : decode b5_clashes 56 = .ok (.getfield 183, 3) := by decide +kernel
theorem d5_clashes_59 : decode b5_clashes 59 = .ok (.iload_n 1, 1) := by decide +kernel
theorem d5_clashes_60 : decode b5_clashes 60 = .ok (.iaload, 1) := by decide +kernel
theorem d5_clashes_61 : decode b5_clashes 61 = .ok (.aload_n 0, 1) := by decide +kernel
theorem d5_clashes_62 : decode b5_clashes 62 = .ok (.getfield 36, 3) := by decide +kernel
theorem d5_clashes_65 : decode b5_clashes 65 = .ok (.getfield 186, 3) := by decide +kernel
theorem d5_clashes_68 : decode b5_clashes 68 = .ok (.iload_n 1, 1) := by decide +kernel
theorem d5_clashes_69 : decode b5_clashes 69 = .ok (.iaload, 1) := by decide +kernel
theorem d5_clashes_70 : decode b5_clashes 70 = .ok (.iload 5, 2) := by decide +kernel
theorem d5_clashes_72 : decode b5_clashes 72 = .ok (.iload 4, 2) := by decide +kernel
theorem d5_clashes_74 : decode b5_clashes 74 = .ok (.invokevirtual 351, 3) := by decide +kernel
theorem d5_clashes_77 : decode b5_clashes 77 = .ok (.if_icmp .ge 7, 3) := by decide +kernel
theorem d5_clashes_80 : decode b5_clashes 80 = .ok (.iconst 1, 1) := by decide +kernel
theorem d5_clashes_81 : decode b5_clashes 81 = .ok (.goto 4, 3) := by decide +kernel
theorem d5_clashes_84 : decode b5_clashes 84 = .ok (.iconst 0, 1) := by decide +kernel
theorem d5_clashes_85 : decode b5_clashes 85 = .ok (.ireturn, 1) := by decide +kernel
abbrev b5_firstClash : ByteArray := prog_1_method_80_code
def y5_firstClash : MethodName := ⟨"ChannelSchedule", "firstClash", "(ZIII)I"⟩
theorem w5_firstClash : YV y5_firstClash b5_firstClash 6 (some .int) 4 := ⟨LW_i 573 (by decide +kernel) (by decide +kernel), LW_i 13 (by decide +kernel) (by decide +kernel), LW_i 28 (by decide +kernel) (by decide +kernel), LW_i 574 (by decide +kernel) (by decide +kernel), by decide +kernel, by decide +kernel⟩
theorem d5_firstClash_0 : decode b5_firstClash 0 = .ok (.iconst 0, 1) := by decide +kernel
theorem d5_firstClash_1 : decode b5_firstClash 1 = .ok (.istore 5, 2) := by decide +kernel
theorem d5_firstClash_3 : decode b5_firstClash 3 = .ok (.iload 5, 2) := by decide +kernel
theorem d5_firstClash_5 : decode b5_firstClash 5 = .ok (.aload_n 0, 1) := by decide +kernel
theorem d5_firstClash_6 : decode b5_firstClash 6 = .ok (.getfield 36, 3) := by decide +kernel
theorem d5_firstClash_9 : decode b5_firstClash 9 = .ok (.getfield 175, 3) := by decide +kernel
theorem d5_firstClash_12 : decode b5_firstClash 12 = .ok (.if_icmp .ge 31, 3) := by decide +kernel
theorem d5_firstClash_15 : decode b5_firstClash 15 = .ok (.iload 5, 2) := by decide +kernel
theorem d5_firstClash_17 : decode b5_firstClash 17 = .ok (.iload 4, 2) := by decide +kernel
theorem d5_firstClash_19 : decode b5_firstClash 19 = .ok (.if_icmp .eq 18, 3) := by decide +kernel
theorem d5_firstClash_22 : decode b5_firstClash 22 = .ok (.aload_n 0, 1) := by decide +kernel
theorem d5_firstClash_23 : decode b5_firstClash 23 = .ok (.iload 5, 2) := by decide +kernel
theorem d5_firstClash_25 : decode b5_firstClash 25 = .ok (.iload_n 1, 1) := by decide +kernel
theorem d5_firstClash_26 : decode b5_firstClash 26 = .ok (.iload_n 2, 1) := by decide +kernel
theorem d5_firstClash_27 : decode b5_firstClash 27 = .ok (.iload_n 3, 1) := by decide +kernel
theorem d5_firstClash_28 : decode b5_firstClash 28 = .ok (.invokevirtual 205, 3) := by decide +kernel
theorem d5_firstClash_31 : decode b5_firstClash 31 = .ok (.ifCond .eq 6, 3) := by decide +kernel
theorem d5_firstClash_34 : decode b5_firstClash 34 = .ok (.iload 5, 2) := by decide +kernel
theorem d5_firstClash_36 : decode b5_firstClash 36 = .ok (.ireturn, 1) := by decide +kernel
theorem d5_firstClash_37 : decode b5_firstClash 37 = .ok (.iinc 5 1, 3) := by decide +kernel
theorem d5_firstClash_40 : decode b5_firstClash 40 = .ok (.goto (-37), 3) := by decide +kernel
theorem d5_firstClash_43 : decode b5_firstClash 43 = .ok (.iconst (-1), 1) := by decide +kernel
theorem d5_firstClash_44 : decode b5_firstClash 44 = .ok (.ireturn, 1) := by decide +kernel
abbrev b5_leastFreeStart : ByteArray := prog_1_method_81_code
def y5_leastFreeStart : MethodName := ⟨"ChannelSchedule", "leastFreeStart", "(ZIIII)I"⟩
theorem w5_leastFreeStart : YV y5_leastFreeStart b5_leastFreeStart 12 (some .int) 5 := ⟨LW_i 634 (by decide +kernel) (by decide +kernel), LW_i 18 (by decide +kernel) (by decide +kernel), LW_i 28 (by decide +kernel) (by decide +kernel), LW_i 635 (by decide +kernel) (by decide +kernel), by decide +kernel, by decide +kernel⟩
theorem d5_leastFreeStart_0 : decode b5_leastFreeStart 0 = .ok (.iload_n 2, 1) := by decide +kernel
theorem d5_leastFreeStart_1 : decode b5_leastFreeStart 1 = .ok (.istore 6, 2) := by decide +kernel
theorem d5_leastFreeStart_3 : decode b5_leastFreeStart 3 = .ok (.iconst 0, 1) := by decide +kernel
theorem d5_leastFreeStart_4 : decode b5_leastFreeStart 4 = .ok (.istore 7, 2) := by decide +kernel
theorem d5_leastFreeStart_6 : decode b5_leastFreeStart 6 = .ok (.iload 7, 2) := by decide +kernel
theorem d5_leastFreeStart_8 : decode b5_leastFreeStart 8 = .ok (.aload_n 0, 1) := by decide +kernel
theorem d5_leastFreeStart_9 : decode b5_leastFreeStart 9 = .ok (.getfield 36, 3) := by decide +kernel
theorem d5_leastFreeStart_12 : decode b5_leastFreeStart 12 = .ok (.getfield 175, 3) := by decide +kernel
theorem d5_leastFreeStart_15 : decode b5_leastFreeStart 15 = .ok (.if_icmp .gt 152, 3) := by decide +kernel
theorem d5_leastFreeStart_18 : decode b5_leastFreeStart 18 = .ok (.iload 6, 2) := by decide +kernel
theorem d5_leastFreeStart_20 : decode b5_leastFreeStart 20 = .ok (.iload_n 3, 1) := by decide +kernel
theorem d5_leastFreeStart_21 : decode b5_leastFreeStart 21 = .ok (.if_icmp .gt 146, 3) := by decide +kernel
theorem d5_leastFreeStart_24 : decode b5_leastFreeStart 24 = .ok (.iload 6, 2) := by decide +kernel
theorem d5_leastFreeStart_26 : decode b5_leastFreeStart 26 = .ok (.istore 8, 2) := by decide +kernel
theorem d5_leastFreeStart_28 : decode b5_leastFreeStart 28 = .ok (.iconst 0, 1) := by decide +kernel
theorem d5_leastFreeStart_29 : decode b5_leastFreeStart 29 = .ok (.istore 9, 2) := by decide +kernel
theorem d5_leastFreeStart_31 : decode b5_leastFreeStart 31 = .ok (.iload 9, 2) := by decide +kernel
theorem d5_leastFreeStart_33 : decode b5_leastFreeStart 33 = .ok (.aload_n 0, 1) := by decide +kernel
theorem d5_leastFreeStart_34 : decode b5_leastFreeStart 34 = .ok (.getfield 36, 3) := by decide +kernel
theorem d5_leastFreeStart_37 : decode b5_leastFreeStart 37 = .ok (.getfield 175, 3) := by decide +kernel
theorem d5_leastFreeStart_40 : decode b5_leastFreeStart 40 = .ok (.if_icmp .ge 111, 3) := by decide +kernel
theorem d5_leastFreeStart_43 : decode b5_leastFreeStart 43 = .ok (.aload_n 0, 1) := by decide +kernel
theorem d5_leastFreeStart_44 : decode b5_leastFreeStart 44 = .ok (.getfield 36, 3) := by decide +kernel
theorem d5_leastFreeStart_47 : decode b5_leastFreeStart 47 = .ok (.getfield 189, 3) := by decide +kernel
theorem d5_leastFreeStart_50 : decode b5_leastFreeStart 50 = .ok (.iload 9, 2) := by decide +kernel
theorem d5_leastFreeStart_52 : decode b5_leastFreeStart 52 = .ok (.baload, 1) := by decide +kernel
theorem d5_leastFreeStart_53 : decode b5_leastFreeStart 53 = .ok (.iload_n 1, 1) := by decide +kernel
theorem d5_leastFreeStart_54 : decode b5_leastFreeStart 54 = .ok (.if_icmp .ne 7, 3) := by decide +kernel
theorem d5_leastFreeStart_57 : decode b5_leastFreeStart 57 = .ok (.iconst 1, 1) := by decide +kernel
theorem d5_leastFreeStart_58 : decode b5_leastFreeStart 58 = .ok (.goto 4, 3) := by decide +kernel
theorem d5_leastFreeStart_61 : decode b5_leastFreeStart 61 = .ok (.iconst 0, 1) := by decide +kernel
theorem d5_leastFreeStart_62 : decode b5_leastFreeStart 62 = .ok (.istore 10, 2) := by decide +kernel
theorem d5_leastFreeStart_64 : decode b5_leastFreeStart 64 = .ok (.aload_n 0, 1) := by decide +kernel
theorem d5_leastFreeStart_65 : decode b5_leastFreeStart 65 = .ok (.aload_n 0, 1) := by decide +kernel
theorem d5_leastFreeStart_66 : decode b5_leastFreeStart 66 = .ok (.getfield 36, 3) := by decide +kernel
theorem d5_leastFreeStart_69 : decode b5_leastFreeStart 69 = .ok (.getfield 183, 3) := by decide +kernel
theorem d5_leastFreeStart_72 : decode b5_leastFreeStart 72 = .ok (.iload 9, 2) := by decide +kernel
theorem d5_leastFreeStart_74 : decode b5_leastFreeStart 74 = .ok (.iaload, 1) := by decide +kernel
theorem d5_leastFreeStart_75 : decode b5_leastFreeStart 75 = .ok (.aload_n 0, 1) := by decide +kernel
theorem d5_leastFreeStart_76 : decode b5_leastFreeStart 76 = .ok (.getfield 36, 3) := by decide +kernel
theorem d5_leastFreeStart_79 : decode b5_leastFreeStart 79 = .ok (.getfield 186, 3) := by decide +kernel
theorem d5_leastFreeStart_82 : decode b5_leastFreeStart 82 = .ok (.iload 9, 2) := by decide +kernel
theorem d5_leastFreeStart_84 : decode b5_leastFreeStart 84 = .ok (.iaload, 1) := by decide +kernel
theorem d5_leastFreeStart_85 : decode b5_leastFreeStart 85 = .ok (.iload 10, 2) := by decide +kernel
theorem d5_leastFreeStart_87 : decode b5_leastFreeStart 87 = .ok (.iload 4, 2) := by decide +kernel
theorem d5_leastFreeStart_89 : decode b5_leastFreeStart 89 = .ok (.invokevirtual 351, 3) := by decide +kernel
theorem d5_leastFreeStart_92 : decode b5_leastFreeStart 92 = .ok (.istore 11, 2) := by decide +kernel
theorem d5_leastFreeStart_94 : decode b5_leastFreeStart 94 = .ok (.iload 9, 2) := by decide +kernel
theorem d5_leastFreeStart_96 : decode b5_leastFreeStart 96 = .ok (.iload 5, 2) := by decide +kernel
theorem d5_leastFreeStart_98 : decode b5_leastFreeStart 98 = .ok (.if_icmp .eq 47, 3) := by decide +kernel
theorem d5_leastFreeStart_101 : decode b5_leastFreeStart 101 = .ok (.iload 6, 2) := by decide +kernel
theorem d5_leastFreeStart_103 : decode b5_leastFreeStart 103 = .ok (.iload 11, 2) := by decide +kernel
theorem d5_leastFreeStart_105 : decode b5_leastFreeStart 105 = .ok (.if_icmp .ge 40, 3) := by decide +kernel
theorem d5_leastFreeStart_108 : decode b5_leastFreeStart 108 = .ok (.iload 6, 2) := by decide +kernel
theorem d5_leastFreeStart_110 : decode b5_leastFreeStart 110 = .ok (.aload_n 0, 1) := by decide +kernel
theorem d5_leastFreeStart_111 : decode b5_leastFreeStart 111 = .ok (.aload_n 0, 1) := by decide +kernel
theorem d5_leastFreeStart_112 : decode b5_leastFreeStart 112 = .ok (.getfield 36, 3) := by decide +kernel
theorem d5_leastFreeStart_115 : decode b5_leastFreeStart 115 = .ok (.getfield 183, 3) := by decide +kernel
theorem d5_leastFreeStart_118 : decode b5_leastFreeStart 118 = .ok (.iload 9, 2) := by decide +kernel
theorem d5_leastFreeStart_120 : decode b5_leastFreeStart 120 = .ok (.iaload, 1) := by decide +kernel
theorem d5_leastFreeStart_121 : decode b5_leastFreeStart 121 = .ok (.aload_n 0, 1) := by decide +kernel
theorem d5_leastFreeStart_122 : decode b5_leastFreeStart 122 = .ok (.getfield 36, 3) := by decide +kernel
theorem d5_leastFreeStart_125 : decode b5_leastFreeStart 125 = .ok (.getfield 186, 3) := by decide +kernel
theorem d5_leastFreeStart_128 : decode b5_leastFreeStart 128 = .ok (.iload 9, 2) := by decide +kernel
theorem d5_leastFreeStart_130 : decode b5_leastFreeStart 130 = .ok (.iaload, 1) := by decide +kernel
theorem d5_leastFreeStart_131 : decode b5_leastFreeStart 131 = .ok (.iload 10, 2) := by decide +kernel
theorem d5_leastFreeStart_133 : decode b5_leastFreeStart 133 = .ok (.iload 4, 2) := by decide +kernel
theorem d5_leastFreeStart_135 : decode b5_leastFreeStart 135 = .ok (.invokevirtual 224, 3) := by decide +kernel
theorem d5_leastFreeStart_138 : decode b5_leastFreeStart 138 = .ok (.if_icmp .le 7, 3) := by decide +kernel
theorem d5_leastFreeStart_141 : decode b5_leastFreeStart 141 = .ok (.iload 11, 2) := by decide +kernel
theorem d5_leastFreeStart_143 : decode b5_leastFreeStart 143 = .ok (.istore 6, 2) := by decide +kernel
theorem d5_leastFreeStart_145 : decode b5_leastFreeStart 145 = .ok (.iinc 9 1, 3) := by decide +kernel
theorem d5_leastFreeStart_148 : decode b5_leastFreeStart 148 = .ok (.goto (-117), 3) := by decide +kernel
theorem d5_leastFreeStart_151 : decode b5_leastFreeStart 151 = .ok (.iload 6, 2) := by decide +kernel
theorem d5_leastFreeStart_153 : decode b5_leastFreeStart 153 = .ok (.iload 8, 2) := by decide +kernel
theorem d5_leastFreeStart_155 : decode b5_leastFreeStart 155 = .ok (.if_icmp .ne 6, 3) := by decide +kernel
theorem d5_leastFreeStart_158 : decode b5_leastFreeStart 158 = .ok (.iload 6, 2) := by decide +kernel
theorem d5_leastFreeStart_160 : decode b5_leastFreeStart 160 = .ok (.ireturn, 1) := by decide +kernel
theorem d5_leastFreeStart_161 : decode b5_leastFreeStart 161 = .ok (.iinc 7 1, 3) := by decide +kernel
theorem d5_leastFreeStart_164 : decode b5_leastFreeStart 164 = .ok (.goto (-158), 3) := by decide +kernel
theorem d5_leastFreeStart_167 : decode b5_leastFreeStart 167 = .ok (.iconst (-1), 1) := by decide +kernel
theorem d5_leastFreeStart_168 : decode b5_leastFreeStart 168 = .ok (.ireturn, 1) := by decide +kernel
abbrev b5_startToServe : ByteArray := prog_1_method_87_code
def y5_startToServe : MethodName := ⟨"ChannelSchedule", "startToServe", "(IZII)I"⟩
theorem w5_startToServe : YV y5_startToServe b5_startToServe 6 (some .int) 4 := ⟨LW_i 630 (by decide +kernel) (by decide +kernel), LW_i 17 (by decide +kernel) (by decide +kernel), LW_i 28 (by decide +kernel) (by decide +kernel), LW_i 631 (by decide +kernel) (by decide +kernel), by decide +kernel, by decide +kernel⟩
theorem d5_startToServe_0 : decode b5_startToServe 0 = .ok (.aload_n 0, 1) := by decide +kernel
theorem d5_startToServe_1 : decode b5_startToServe 1 = .ok (.getfield 36, 3) := by decide +kernel
theorem d5_startToServe_4 : decode b5_startToServe 4 = .ok (.getfield 175, 3) := by decide +kernel
theorem d5_startToServe_7 : decode b5_startToServe 7 = .ok (.bipush 20, 2) := by decide +kernel
theorem d5_startToServe_9 : decode b5_startToServe 9 = .ok (.if_icmp .ne 5, 3) := by decide +kernel
theorem d5_startToServe_12 : decode b5_startToServe 12 = .ok (.iconst (-1), 1) := by decide +kernel
theorem d5_startToServe_13 : decode b5_startToServe 13 = .ok (.ireturn, 1) := by decide +kernel
theorem d5_startToServe_14 : decode b5_startToServe 14 = .ok (.iload_n 3, 1) := by decide +kernel
theorem d5_startToServe_15 : decode b5_startToServe 15 = .ok (.aload_n 0, 1) := by decide +kernel
theorem d5_startToServe_16 : decode b5_startToServe 16 = .ok (.getfield 36, 3) := by decide +kernel
theorem d5_startToServe_19 : decode b5_startToServe 19 = .ok (.getfield 129, 3) := by decide +kernel
theorem d5_startToServe_22 : decode b5_startToServe 22 = .ok (.if_icmp .le 7, 3) := by decide +kernel
theorem d5_startToServe_25 : decode b5_startToServe 25 = .ok (.iload_n 3, 1) := by decide +kernel
theorem d5_startToServe_26 : decode b5_startToServe 26 = .ok (.goto 10, 3) := by decide +kernel
theorem d5_startToServe_29 : decode b5_startToServe 29 = .ok (.aload_n 0, 1) := by decide +kernel
theorem d5_startToServe_30 : decode b5_startToServe 30 = .ok (.getfield 36, 3) := by decide +kernel
theorem d5_startToServe_33 : decode b5_startToServe 33 = .ok (.getfield 129, 3) := by decide +kernel
theorem d5_startToServe_36 : decode b5_startToServe 36 = .ok (.istore 5, 2) := by decide +kernel
theorem d5_startToServe_38 : decode b5_startToServe 38 = .ok (.aload_n 0, 1) := by decide +kernel
theorem d5_startToServe_39 : decode b5_startToServe 39 = .ok (.iload_n 2, 1) := by decide +kernel
theorem d5_startToServe_40 : decode b5_startToServe 40 = .ok (.iload 5, 2) := by decide +kernel
theorem d5_startToServe_42 : decode b5_startToServe 42 = .ok (.iload 4, 2) := by decide +kernel
theorem d5_startToServe_44 : decode b5_startToServe 44 = .ok (.aload_n 0, 1) := by decide +kernel
theorem d5_startToServe_45 : decode b5_startToServe 45 = .ok (.iload_n 1, 1) := by decide +kernel
theorem d5_startToServe_46 : decode b5_startToServe 46 = .ok (.invokevirtual 139, 3) := by decide +kernel
theorem d5_startToServe_49 : decode b5_startToServe 49 = .ok (.iconst (-1), 1) := by decide +kernel
theorem d5_startToServe_50 : decode b5_startToServe 50 = .ok (.invokevirtual 213, 3) := by decide +kernel
theorem d5_startToServe_53 : decode b5_startToServe 53 = .ok (.ireturn, 1) := by decide +kernel
abbrev b5_serveWaiting : ByteArray := prog_1_method_88_code
def y5_serveWaiting : MethodName := ⟨"ChannelSchedule", "serveWaiting", "()I"⟩
theorem w5_serveWaiting : YV y5_serveWaiting b5_serveWaiting 7 (some .int) 0 := ⟨LW_i 662 (by decide +kernel) (by decide +kernel), LW_i 22 (by decide +kernel) (by decide +kernel), LW_i 28 (by decide +kernel) (by decide +kernel), LW_i 663 (by decide +kernel) (by decide +kernel), by decide +kernel, by decide +kernel⟩
theorem d5_serveWaiting_0 : decode b5_serveWaiting 0 = .ok (.iconst 0, 1) := by decide +kernel
theorem d5_serveWaiting_1 : decode b5_serveWaiting 1 = .ok (.istore_n 1, 1) := by decide +kernel
theorem d5_serveWaiting_2 : decode b5_serveWaiting 2 = .ok (.iconst 0, 1) := by decide +kernel
theorem d5_serveWaiting_3 : decode b5_serveWaiting 3 = .ok (.istore_n 2, 1) := by decide +kernel
theorem d5_serveWaiting_4 : decode b5_serveWaiting 4 = .ok (.aload_n 0, 1) := by decide +kernel
theorem d5_serveWaiting_5 : decode b5_serveWaiting 5 = .ok (.getfield 36, 3) := by decide +kernel
theorem d5_serveWaiting_8 : decode b5_serveWaiting 8 = .ok (.getfield 231, 3) := by decide +kernel
theorem d5_serveWaiting_11 : decode b5_serveWaiting 11 = .ok (.istore_n 3, 1) := by decide +kernel
theorem d5_serveWaiting_12 : decode b5_serveWaiting 12 = .ok (.iload_n 3, 1) := by decide +kernel
theorem d5_serveWaiting_13 : decode b5_serveWaiting 13 = .ok (.ifCond .le 93, 3) := by decide +kernel
theorem d5_serveWaiting_16 : decode b5_serveWaiting 16 = .ok (.aload_n 0, 1) := by decide +kernel
theorem d5_serveWaiting_17 : decode b5_serveWaiting 17 = .ok (.getfield 36, 3) := by decide +kernel
theorem d5_serveWaiting_20 : decode b5_serveWaiting 20 = .ok (.getfield 237, 3) := by decide +kernel
theorem d5_serveWaiting_23 : decode b5_serveWaiting 23 = .ok (.iload_n 2, 1) := by decide +kernel
theorem d5_serveWaiting_24 : decode b5_serveWaiting 24 = .ok (.iaload, 1) := by decide +kernel
theorem d5_serveWaiting_25 : decode b5_serveWaiting 25 = .ok (.istore 4, 2) := by decide +kernel
theorem d5_serveWaiting_27 : decode b5_serveWaiting 27 = .ok (.aload_n 0, 1) := by decide +kernel
theorem d5_serveWaiting_28 : decode b5_serveWaiting 28 = .ok (.getfield 36, 3) := by decide +kernel
theorem d5_serveWaiting_31 : decode b5_serveWaiting 31 = .ok (.getfield 240, 3) := by decide +kernel
theorem d5_serveWaiting_34 : decode b5_serveWaiting 34 = .ok (.iload_n 2, 1) := by decide +kernel
theorem d5_serveWaiting_35 : decode b5_serveWaiting 35 = .ok (.baload, 1) := by decide +kernel
theorem d5_serveWaiting_36 : decode b5_serveWaiting 36 = .ok (.istore 5, 2) := by decide +kernel
theorem d5_serveWaiting_38 : decode b5_serveWaiting 38 = .ok (.aload_n 0, 1) := by decide +kernel
theorem d5_serveWaiting_39 : decode b5_serveWaiting 39 = .ok (.iload 4, 2) := by decide +kernel
theorem d5_serveWaiting_41 : decode b5_serveWaiting 41 = .ok (.iload 5, 2) := by decide +kernel
theorem d5_serveWaiting_43 : decode b5_serveWaiting 43 = .ok (.aload_n 0, 1) := by decide +kernel
theorem d5_serveWaiting_44 : decode b5_serveWaiting 44 = .ok (.getfield 36, 3) := by decide +kernel
theorem d5_serveWaiting_47 : decode b5_serveWaiting 47 = .ok (.getfield 243, 3) := by decide +kernel
theorem d5_serveWaiting_50 : decode b5_serveWaiting 50 = .ok (.iload_n 2, 1) := by decide +kernel
theorem d5_serveWaiting_51 : decode b5_serveWaiting 51 = .ok (.iaload, 1) := by decide +kernel
theorem d5_serveWaiting_52 : decode b5_serveWaiting 52 = .ok (.aload_n 0, 1) := by decide +kernel
theorem d5_serveWaiting_53 : decode b5_serveWaiting 53 = .ok (.getfield 36, 3) := by decide +kernel
theorem d5_serveWaiting_56 : decode b5_serveWaiting 56 = .ok (.getfield 246, 3) := by decide +kernel
theorem d5_serveWaiting_59 : decode b5_serveWaiting 59 = .ok (.iload_n 2, 1) := by decide +kernel
theorem d5_serveWaiting_60 : decode b5_serveWaiting 60 = .ok (.iaload, 1) := by decide +kernel
theorem d5_serveWaiting_61 : decode b5_serveWaiting 61 = .ok (.invokevirtual 354, 3) := by decide +kernel
theorem d5_serveWaiting_64 : decode b5_serveWaiting 64 = .ok (.istore 6, 2) := by decide +kernel
theorem d5_serveWaiting_66 : decode b5_serveWaiting 66 = .ok (.iload 6, 2) := by decide +kernel
theorem d5_serveWaiting_68 : decode b5_serveWaiting 68 = .ok (.iconst (-1), 1) := by decide +kernel
theorem d5_serveWaiting_69 : decode b5_serveWaiting 69 = .ok (.if_icmp .ne 9, 3) := by decide +kernel
theorem d5_serveWaiting_72 : decode b5_serveWaiting 72 = .ok (.iinc 2 1, 3) := by decide +kernel
theorem d5_serveWaiting_75 : decode b5_serveWaiting 75 = .ok (.goto 25, 3) := by decide +kernel
theorem d5_serveWaiting_78 : decode b5_serveWaiting 78 = .ok (.aload_n 0, 1) := by decide +kernel
theorem d5_serveWaiting_79 : decode b5_serveWaiting 79 = .ok (.getfield 36, 3) := by decide +kernel
theorem d5_serveWaiting_82 : decode b5_serveWaiting 82 = .ok (.iload_n 2, 1) := by decide +kernel
theorem d5_serveWaiting_83 : decode b5_serveWaiting 83 = .ok (.invokevirtual 306, 3) := by decide +kernel
theorem d5_serveWaiting_86 : decode b5_serveWaiting 86 = .ok (.aload_n 0, 1) := by decide +kernel
theorem d5_serveWaiting_87 : decode b5_serveWaiting 87 = .ok (.iload 4, 2) := by decide +kernel
theorem d5_serveWaiting_89 : decode b5_serveWaiting 89 = .ok (.iload 5, 2) := by decide +kernel
theorem d5_serveWaiting_91 : decode b5_serveWaiting 91 = .ok (.iload 6, 2) := by decide +kernel
theorem d5_serveWaiting_93 : decode b5_serveWaiting 93 = .ok (.invokevirtual 287, 3) := by decide +kernel
theorem d5_serveWaiting_96 : decode b5_serveWaiting 96 = .ok (.pop, 1) := by decide +kernel
theorem d5_serveWaiting_97 : decode b5_serveWaiting 97 = .ok (.iinc 1 1, 3) := by decide +kernel
theorem d5_serveWaiting_100 : decode b5_serveWaiting 100 = .ok (.iinc 3 (-1), 3) := by decide +kernel
theorem d5_serveWaiting_103 : decode b5_serveWaiting 103 = .ok (.goto (-91), 3) := by decide +kernel
theorem d5_serveWaiting_106 : decode b5_serveWaiting 106 = .ok (.aload_n 0, 1) := by decide +kernel
theorem d5_serveWaiting_107 : decode b5_serveWaiting 107 = .ok (.getfield 36, 3) := by decide +kernel
theorem d5_serveWaiting_110 : decode b5_serveWaiting 110 = .ok (.dup, 1) := by decide +kernel
theorem d5_serveWaiting_111 : decode b5_serveWaiting 111 = .ok (.getfield 274, 3) := by decide +kernel
theorem d5_serveWaiting_114 : decode b5_serveWaiting 114 = .ok (.iload_n 1, 1) := by decide +kernel
theorem d5_serveWaiting_115 : decode b5_serveWaiting 115 = .ok (.iadd, 1) := by decide +kernel
theorem d5_serveWaiting_116 : decode b5_serveWaiting 116 = .ok (.putfield 274, 3) := by decide +kernel
theorem d5_serveWaiting_119 : decode b5_serveWaiting 119 = .ok (.iload_n 1, 1) := by decide +kernel
theorem d5_serveWaiting_120 : decode b5_serveWaiting 120 = .ok (.ireturn, 1) := by decide +kernel
abbrev b5_bookFault : ByteArray := prog_1_method_95_code
def y5_bookFault : MethodName := ⟨"ChannelSchedule", "bookFault", "(IZI)I"⟩
theorem w5_bookFault : YV y5_bookFault b5_bookFault 5 (some .int) 3 := ⟨LW_i 569 (by decide +kernel) (by decide +kernel), LW_i 12 (by decide +kernel) (by decide +kernel), LW_i 28 (by decide +kernel) (by decide +kernel), LW_i 570 (by decide +kernel) (by decide +kernel), by decide +kernel, by decide +kernel⟩
theorem d5_bookFault_0 : decode b5_bookFault 0 = .ok (.aload_n 0, 1) := by decide +kernel
theorem d5_bookFault_1 : decode b5_bookFault 1 = .ok (.iload_n 1, 1) := by decide +kernel
theorem d5_bookFault_2 : decode b5_bookFault 2 = .ok (.invokevirtual 132, 3) := by decide +kernel
theorem d5_bookFault_5 : decode b5_bookFault 5 = .ok (.ifCond .ne 5, 3) := by decide +kernel
theorem d5_bookFault_8 : decode b5_bookFault 8 = .ok (.iconst 1, 1) := by decide +kernel
theorem d5_bookFault_9 : decode b5_bookFault 9 = .ok (.ireturn, 1) := by decide +kernel
theorem d5_bookFault_10 : decode b5_bookFault 10 = .ok (.iload_n 3, 1) := by decide +kernel
theorem d5_bookFault_11 : decode b5_bookFault 11 = .ok (.iconst 0, 1) := by decide +kernel
theorem d5_bookFault_12 : decode b5_bookFault 12 = .ok (.sipush 999, 3) := by decide +kernel
theorem d5_bookFault_15 : decode b5_bookFault 15 = .ok (.invokestatic 104, 3) := by decide +kernel
theorem d5_bookFault_18 : decode b5_bookFault 18 = .ok (.ifCond .ne 5, 3) := by decide +kernel
theorem d5_bookFault_21 : decode b5_bookFault 21 = .ok (.iconst 2, 1) := by decide +kernel
theorem d5_bookFault_22 : decode b5_bookFault 22 = .ok (.ireturn, 1) := by decide +kernel
theorem d5_bookFault_23 : decode b5_bookFault 23 = .ok (.iload_n 3, 1) := by decide +kernel
theorem d5_bookFault_24 : decode b5_bookFault 24 = .ok (.aload_n 0, 1) := by decide +kernel
theorem d5_bookFault_25 : decode b5_bookFault 25 = .ok (.getfield 36, 3) := by decide +kernel
theorem d5_bookFault_28 : decode b5_bookFault 28 = .ok (.getfield 129, 3) := by decide +kernel
theorem d5_bookFault_31 : decode b5_bookFault 31 = .ok (.if_icmp .lt 35, 3) := by decide +kernel
theorem d5_bookFault_34 : decode b5_bookFault 34 = .ok (.aload_n 0, 1) := by decide +kernel
theorem d5_bookFault_35 : decode b5_bookFault 35 = .ok (.getfield 36, 3) := by decide +kernel
theorem d5_bookFault_38 : decode b5_bookFault 38 = .ok (.getfield 175, 3) := by decide +kernel
theorem d5_bookFault_41 : decode b5_bookFault 41 = .ok (.bipush 20, 2) := by decide +kernel
theorem d5_bookFault_43 : decode b5_bookFault 43 = .ok (.if_icmp .ge 23, 3) := by decide +kernel
theorem d5_bookFault_46 : decode b5_bookFault 46 = .ok (.aload_n 0, 1) := by decide +kernel
theorem d5_bookFault_47 : decode b5_bookFault 47 = .ok (.iload_n 2, 1) := by decide +kernel
theorem d5_bookFault_48 : decode b5_bookFault 48 = .ok (.iload_n 3, 1) := by decide +kernel
theorem d5_bookFault_49 : decode b5_bookFault 49 = .ok (.aload_n 0, 1) := by decide +kernel
theorem d5_bookFault_50 : decode b5_bookFault 50 = .ok (.iload_n 1, 1) := by decide +kernel
theorem d5_bookFault_51 : decode b5_bookFault 51 = .ok (.invokevirtual 139, 3) := by decide +kernel
theorem d5_bookFault_54 : decode b5_bookFault 54 = .ok (.iconst (-1), 1) := by decide +kernel
theorem d5_bookFault_55 : decode b5_bookFault 55 = .ok (.invokevirtual 209, 3) := by decide +kernel
theorem d5_bookFault_58 : decode b5_bookFault 58 = .ok (.iconst (-1), 1) := by decide +kernel
theorem d5_bookFault_59 : decode b5_bookFault 59 = .ok (.if_icmp .ne 7, 3) := by decide +kernel
theorem d5_bookFault_62 : decode b5_bookFault 62 = .ok (.iconst 1, 1) := by decide +kernel
theorem d5_bookFault_63 : decode b5_bookFault 63 = .ok (.goto 4, 3) := by decide +kernel
theorem d5_bookFault_66 : decode b5_bookFault 66 = .ok (.iconst 0, 1) := by decide +kernel
theorem d5_bookFault_67 : decode b5_bookFault 67 = .ok (.istore 4, 2) := by decide +kernel
theorem d5_bookFault_69 : decode b5_bookFault 69 = .ok (.iload 4, 2) := by decide +kernel
theorem d5_bookFault_71 : decode b5_bookFault 71 = .ok (.ifCond .eq 7, 3) := by decide +kernel
theorem d5_bookFault_74 : decode b5_bookFault 74 = .ok (.iconst 0, 1) := by decide +kernel
theorem d5_bookFault_75 : decode b5_bookFault 75 = .ok (.goto 4, 3) := by decide +kernel
theorem d5_bookFault_78 : decode b5_bookFault 78 = .ok (.iconst 3, 1) := by decide +kernel
theorem d5_bookFault_79 : decode b5_bookFault 79 = .ok (.ireturn, 1) := by decide +kernel
abbrev b5_bookNow : ByteArray := prog_1_method_96_code
def y5_bookNow : MethodName := ⟨"ChannelSchedule", "bookNow", "(IZI)I"⟩
theorem w5_bookNow : YV y5_bookNow b5_bookNow 5 (some .int) 3 := ⟨LW_i 614 (by decide +kernel) (by decide +kernel), LW_i 15 (by decide +kernel) (by decide +kernel), LW_i 28 (by decide +kernel) (by decide +kernel), LW_i 615 (by decide +kernel) (by decide +kernel), by decide +kernel, by decide +kernel⟩
theorem d5_bookNow_0 : decode b5_bookNow 0 = .ok (.iload_n 3, 1) := by decide +kernel
theorem d5_bookNow_1 : decode b5_bookNow 1 = .ok (.aload_n 0, 1) := by decide +kernel
theorem d5_bookNow_2 : decode b5_bookNow 2 = .ok (.iload_n 1, 1) := by decide +kernel
theorem d5_bookNow_3 : decode b5_bookNow 3 = .ok (.invokevirtual 139, 3) := by decide +kernel
theorem d5_bookNow_6 : decode b5_bookNow 6 = .ok (.iadd, 1) := by decide +kernel
theorem d5_bookNow_7 : decode b5_bookNow 7 = .ok (.istore 4, 2) := by decide +kernel
theorem d5_bookNow_9 : decode b5_bookNow 9 = .ok (.aload_n 0, 1) := by decide +kernel
theorem d5_bookNow_10 : decode b5_bookNow 10 = .ok (.getfield 36, 3) := by decide +kernel
theorem d5_bookNow_13 : decode b5_bookNow 13 = .ok (.iload_n 1, 1) := by decide +kernel
theorem d5_bookNow_14 : decode b5_bookNow 14 = .ok (.iload_n 2, 1) := by decide +kernel
theorem d5_bookNow_15 : decode b5_bookNow 15 = .ok (.iload_n 3, 1) := by decide +kernel
theorem d5_bookNow_16 : decode b5_bookNow 16 = .ok (.iload 4, 2) := by decide +kernel
theorem d5_bookNow_18 : decode b5_bookNow 18 = .ok (.invokevirtual 366, 3) := by decide +kernel
theorem d5_bookNow_21 : decode b5_bookNow 21 = .ok (.aload_n 0, 1) := by decide +kernel
theorem d5_bookNow_22 : decode b5_bookNow 22 = .ok (.getfield 36, 3) := by decide +kernel
theorem d5_bookNow_25 : decode b5_bookNow 25 = .ok (.dup, 1) := by decide +kernel
theorem d5_bookNow_26 : decode b5_bookNow 26 = .ok (.getfield 268, 3) := by decide +kernel
theorem d5_bookNow_29 : decode b5_bookNow 29 = .ok (.iconst 1, 1) := by decide +kernel
theorem d5_bookNow_30 : decode b5_bookNow 30 = .ok (.iadd, 1) := by decide +kernel
theorem d5_bookNow_31 : decode b5_bookNow 31 = .ok (.putfield 268, 3) := by decide +kernel
theorem d5_bookNow_34 : decode b5_bookNow 34 = .ok (.iload 4, 2) := by decide +kernel
theorem d5_bookNow_36 : decode b5_bookNow 36 = .ok (.ireturn, 1) := by decide +kernel
abbrev b5_requestFault : ByteArray := prog_1_method_97_code
def y5_requestFault : MethodName := ⟨"ChannelSchedule", "requestFault", "(IZII)I"⟩
theorem w5_requestFault : YV y5_requestFault b5_requestFault 6 (some .int) 4 := ⟨LW_i 626 (by decide +kernel) (by decide +kernel), LW_i 16 (by decide +kernel) (by decide +kernel), LW_i 28 (by decide +kernel) (by decide +kernel), LW_i 627 (by decide +kernel) (by decide +kernel), by decide +kernel, by decide +kernel⟩
theorem d5_requestFault_0 : decode b5_requestFault 0 = .ok (.aload_n 0, 1) := by decide +kernel
theorem d5_requestFault_1 : decode b5_requestFault 1 = .ok (.iload_n 1, 1) := by decide +kernel
theorem d5_requestFault_2 : decode b5_requestFault 2 = .ok (.invokevirtual 132, 3) := by decide +kernel
theorem d5_requestFault_5 : decode b5_requestFault 5 = .ok (.ifCond .ne 5, 3) := by decide +kernel
theorem d5_requestFault_8 : decode b5_requestFault 8 = .ok (.iconst 1, 1) := by decide +kernel
theorem d5_requestFault_9 : decode b5_requestFault 9 = .ok (.ireturn, 1) := by decide +kernel
theorem d5_requestFault_10 : decode b5_requestFault 10 = .ok (.iload_n 3, 1) := by decide +kernel
theorem d5_requestFault_11 : decode b5_requestFault 11 = .ok (.iconst 0, 1) := by decide +kernel
theorem d5_requestFault_12 : decode b5_requestFault 12 = .ok (.sipush 999, 3) := by decide +kernel
theorem d5_requestFault_15 : decode b5_requestFault 15 = .ok (.invokestatic 104, 3) := by decide +kernel
theorem d5_requestFault_18 : decode b5_requestFault 18 = .ok (.ifCond .eq 15, 3) := by decide +kernel
theorem d5_requestFault_21 : decode b5_requestFault 21 = .ok (.iload 4, 2) := by decide +kernel
theorem d5_requestFault_23 : decode b5_requestFault 23 = .ok (.iload_n 3, 1) := by decide +kernel
theorem d5_requestFault_24 : decode b5_requestFault 24 = .ok (.sipush 999, 3) := by decide +kernel
theorem d5_requestFault_27 : decode b5_requestFault 27 = .ok (.invokestatic 104, 3) := by decide +kernel
theorem d5_requestFault_30 : decode b5_requestFault 30 = .ok (.ifCond .ne 5, 3) := by decide +kernel
theorem d5_requestFault_33 : decode b5_requestFault 33 = .ok (.iconst 2, 1) := by decide +kernel
theorem d5_requestFault_34 : decode b5_requestFault 34 = .ok (.ireturn, 1) := by decide +kernel
theorem d5_requestFault_35 : decode b5_requestFault 35 = .ok (.aload_n 0, 1) := by decide +kernel
theorem d5_requestFault_36 : decode b5_requestFault 36 = .ok (.getfield 36, 3) := by decide +kernel
theorem d5_requestFault_39 : decode b5_requestFault 39 = .ok (.getfield 231, 3) := by decide +kernel
theorem d5_requestFault_42 : decode b5_requestFault 42 = .ok (.bipush 8, 2) := by decide +kernel
theorem d5_requestFault_44 : decode b5_requestFault 44 = .ok (.if_icmp .lt 16, 3) := by decide +kernel
theorem d5_requestFault_47 : decode b5_requestFault 47 = .ok (.aload_n 0, 1) := by decide +kernel
theorem d5_requestFault_48 : decode b5_requestFault 48 = .ok (.iload_n 1, 1) := by decide +kernel
theorem d5_requestFault_49 : decode b5_requestFault 49 = .ok (.iload_n 2, 1) := by decide +kernel
theorem d5_requestFault_50 : decode b5_requestFault 50 = .ok (.iload_n 3, 1) := by decide +kernel
theorem d5_requestFault_51 : decode b5_requestFault 51 = .ok (.iload 4, 2) := by decide +kernel
theorem d5_requestFault_53 : decode b5_requestFault 53 = .ok (.invokevirtual 354, 3) := by decide +kernel
theorem d5_requestFault_56 : decode b5_requestFault 56 = .ok (.iconst (-1), 1) := by decide +kernel
theorem d5_requestFault_57 : decode b5_requestFault 57 = .ok (.if_icmp .eq 7, 3) := by decide +kernel
theorem d5_requestFault_60 : decode b5_requestFault 60 = .ok (.iconst 1, 1) := by decide +kernel
theorem d5_requestFault_61 : decode b5_requestFault 61 = .ok (.goto 4, 3) := by decide +kernel
theorem d5_requestFault_64 : decode b5_requestFault 64 = .ok (.iconst 0, 1) := by decide +kernel
theorem d5_requestFault_65 : decode b5_requestFault 65 = .ok (.istore 5, 2) := by decide +kernel
theorem d5_requestFault_67 : decode b5_requestFault 67 = .ok (.iload 5, 2) := by decide +kernel
theorem d5_requestFault_69 : decode b5_requestFault 69 = .ok (.ifCond .eq 7, 3) := by decide +kernel
theorem d5_requestFault_72 : decode b5_requestFault 72 = .ok (.iconst 0, 1) := by decide +kernel
theorem d5_requestFault_73 : decode b5_requestFault 73 = .ok (.goto 4, 3) := by decide +kernel
theorem d5_requestFault_76 : decode b5_requestFault 76 = .ok (.iconst 3, 1) := by decide +kernel
theorem d5_requestFault_77 : decode b5_requestFault 77 = .ok (.ireturn, 1) := by decide +kernel
abbrev b5_requestNow : ByteArray := prog_1_method_98_code
def y5_requestNow : MethodName := ⟨"ChannelSchedule", "requestNow", "(IZII)I"⟩
theorem w5_requestNow : YV y5_requestNow b5_requestNow 6 (some .int) 4 := ⟨LW_i 638 (by decide +kernel) (by decide +kernel), LW_i 19 (by decide +kernel) (by decide +kernel), LW_i 28 (by decide +kernel) (by decide +kernel), LW_i 639 (by decide +kernel) (by decide +kernel), by decide +kernel, by decide +kernel⟩
theorem d5_requestNow_0 : decode b5_requestNow 0 = .ok (.aload_n 0, 1) := by decide +kernel
theorem d5_requestNow_1 : decode b5_requestNow 1 = .ok (.iload_n 1, 1) := by decide +kernel
theorem d5_requestNow_2 : decode b5_requestNow 2 = .ok (.iload_n 2, 1) := by decide +kernel
theorem d5_requestNow_3 : decode b5_requestNow 3 = .ok (.iload_n 3, 1) := by decide +kernel
theorem d5_requestNow_4 : decode b5_requestNow 4 = .ok (.iload 4, 2) := by decide +kernel
theorem d5_requestNow_6 : decode b5_requestNow 6 = .ok (.invokevirtual 354, 3) := by decide +kernel
theorem d5_requestNow_9 : decode b5_requestNow 9 = .ok (.istore 5, 2) := by decide +kernel
theorem d5_requestNow_11 : decode b5_requestNow 11 = .ok (.iload 5, 2) := by decide +kernel
theorem d5_requestNow_13 : decode b5_requestNow 13 = .ok (.iconst (-1), 1) := by decide +kernel
theorem d5_requestNow_14 : decode b5_requestNow 14 = .ok (.if_icmp .ne 18, 3) := by decide +kernel
theorem d5_requestNow_17 : decode b5_requestNow 17 = .ok (.aload_n 0, 1) := by decide +kernel
theorem d5_requestNow_18 : decode b5_requestNow 18 = .ok (.getfield 36, 3) := by decide +kernel
theorem d5_requestNow_21 : decode b5_requestNow 21 = .ok (.iload_n 1, 1) := by decide +kernel
theorem d5_requestNow_22 : decode b5_requestNow 22 = .ok (.iload_n 2, 1) := by decide +kernel
theorem d5_requestNow_23 : decode b5_requestNow 23 = .ok (.iload_n 3, 1) := by decide +kernel
theorem d5_requestNow_24 : decode b5_requestNow 24 = .ok (.iload 4, 2) := by decide +kernel
theorem d5_requestNow_26 : decode b5_requestNow 26 = .ok (.invokevirtual 370, 3) := by decide +kernel
theorem d5_requestNow_29 : decode b5_requestNow 29 = .ok (.goto 12, 3) := by decide +kernel
theorem d5_requestNow_32 : decode b5_requestNow 32 = .ok (.aload_n 0, 1) := by decide +kernel
theorem d5_requestNow_33 : decode b5_requestNow 33 = .ok (.iload_n 1, 1) := by decide +kernel
theorem d5_requestNow_34 : decode b5_requestNow 34 = .ok (.iload_n 2, 1) := by decide +kernel
theorem d5_requestNow_35 : decode b5_requestNow 35 = .ok (.iload 5, 2) := by decide +kernel
theorem d5_requestNow_37 : decode b5_requestNow 37 = .ok (.invokevirtual 287, 3) := by decide +kernel
theorem d5_requestNow_40 : decode b5_requestNow 40 = .ok (.pop, 1) := by decide +kernel
theorem d5_requestNow_41 : decode b5_requestNow 41 = .ok (.iload 5, 2) := by decide +kernel
theorem d5_requestNow_43 : decode b5_requestNow 43 = .ok (.ireturn, 1) := by decide +kernel
abbrev b5_cancelFault : ByteArray := prog_1_method_99_code
def y5_cancelFault : MethodName := ⟨"ChannelSchedule", "cancelFault", "(I)I"⟩
theorem w5_cancelFault : YV y5_cancelFault b5_cancelFault 2 (some .int) 1 := ⟨LW_i 650 (by decide +kernel) (by decide +kernel), LW_i 20 (by decide +kernel) (by decide +kernel), LW_i 28 (by decide +kernel) (by decide +kernel), LW_i 651 (by decide +kernel) (by decide +kernel), by decide +kernel, by decide +kernel⟩
theorem d5_cancelFault_0 : decode b5_cancelFault 0 = .ok (.aload_n 0, 1) := by decide +kernel
theorem d5_cancelFault_1 : decode b5_cancelFault 1 = .ok (.iload_n 1, 1) := by decide +kernel
theorem d5_cancelFault_2 : decode b5_cancelFault 2 = .ok (.invokevirtual 178, 3) := by decide +kernel
theorem d5_cancelFault_5 : decode b5_cancelFault 5 = .ok (.ifCond .ne 5, 3) := by decide +kernel
theorem d5_cancelFault_8 : decode b5_cancelFault 8 = .ok (.iconst 1, 1) := by decide +kernel
theorem d5_cancelFault_9 : decode b5_cancelFault 9 = .ok (.ireturn, 1) := by decide +kernel
theorem d5_cancelFault_10 : decode b5_cancelFault 10 = .ok (.aload_n 0, 1) := by decide +kernel
theorem d5_cancelFault_11 : decode b5_cancelFault 11 = .ok (.getfield 36, 3) := by decide +kernel
theorem d5_cancelFault_14 : decode b5_cancelFault 14 = .ok (.getfield 183, 3) := by decide +kernel
theorem d5_cancelFault_17 : decode b5_cancelFault 17 = .ok (.iload_n 1, 1) := by decide +kernel
theorem d5_cancelFault_18 : decode b5_cancelFault 18 = .ok (.iaload, 1) := by decide +kernel
theorem d5_cancelFault_19 : decode b5_cancelFault 19 = .ok (.aload_n 0, 1) := by decide +kernel
theorem d5_cancelFault_20 : decode b5_cancelFault 20 = .ok (.getfield 36, 3) := by decide +kernel
theorem d5_cancelFault_23 : decode b5_cancelFault 23 = .ok (.getfield 129, 3) := by decide +kernel
theorem d5_cancelFault_26 : decode b5_cancelFault 26 = .ok (.if_icmp .gt 7, 3) := by decide +kernel
theorem d5_cancelFault_29 : decode b5_cancelFault 29 = .ok (.iconst 3, 1) := by decide +kernel
theorem d5_cancelFault_30 : decode b5_cancelFault 30 = .ok (.goto 4, 3) := by decide +kernel
theorem d5_cancelFault_33 : decode b5_cancelFault 33 = .ok (.iconst 0, 1) := by decide +kernel
theorem d5_cancelFault_34 : decode b5_cancelFault 34 = .ok (.ireturn, 1) := by decide +kernel
abbrev b5_cancelNow : ByteArray := prog_1_method_100_code
def y5_cancelNow : MethodName := ⟨"ChannelSchedule", "cancelNow", "(I)I"⟩
theorem w5_cancelNow : YV y5_cancelNow b5_cancelNow 2 (some .int) 1 := ⟨LW_i 654 (by decide +kernel) (by decide +kernel), LW_i 21 (by decide +kernel) (by decide +kernel), LW_i 28 (by decide +kernel) (by decide +kernel), LW_i 655 (by decide +kernel) (by decide +kernel), by decide +kernel, by decide +kernel⟩
theorem d5_cancelNow_0 : decode b5_cancelNow 0 = .ok (.aload_n 0, 1) := by decide +kernel
theorem d5_cancelNow_1 : decode b5_cancelNow 1 = .ok (.getfield 36, 3) := by decide +kernel
theorem d5_cancelNow_4 : decode b5_cancelNow 4 = .ok (.iload_n 1, 1) := by decide +kernel
theorem d5_cancelNow_5 : decode b5_cancelNow 5 = .ok (.invokevirtual 373, 3) := by decide +kernel
theorem d5_cancelNow_8 : decode b5_cancelNow 8 = .ok (.aload_n 0, 1) := by decide +kernel
theorem d5_cancelNow_9 : decode b5_cancelNow 9 = .ok (.getfield 36, 3) := by decide +kernel
theorem d5_cancelNow_12 : decode b5_cancelNow 12 = .ok (.dup, 1) := by decide +kernel
theorem d5_cancelNow_13 : decode b5_cancelNow 13 = .ok (.getfield 271, 3) := by decide +kernel
theorem d5_cancelNow_16 : decode b5_cancelNow 16 = .ok (.iconst 1, 1) := by decide +kernel
theorem d5_cancelNow_17 : decode b5_cancelNow 17 = .ok (.iadd, 1) := by decide +kernel
theorem d5_cancelNow_18 : decode b5_cancelNow 18 = .ok (.putfield 271, 3) := by decide +kernel
theorem d5_cancelNow_21 : decode b5_cancelNow 21 = .ok (.aload_n 0, 1) := by decide +kernel
theorem d5_cancelNow_22 : decode b5_cancelNow 22 = .ok (.invokevirtual 376, 3) := by decide +kernel
theorem d5_cancelNow_25 : decode b5_cancelNow 25 = .ok (.ireturn, 1) := by decide +kernel
abbrev b5_freezeNow : ByteArray := prog_1_method_103_code
def y5_freezeNow : MethodName := ⟨"ChannelSchedule", "freezeNow", "(I)I"⟩
theorem w5_freezeNow : YV y5_freezeNow b5_freezeNow 2 (some .int) 1 := ⟨LW_i 1087 (by decide +kernel) (by decide +kernel), LW_i 24 (by decide +kernel) (by decide +kernel), LW_i 28 (by decide +kernel) (by decide +kernel), LW_i 1088 (by decide +kernel) (by decide +kernel), by decide +kernel, by decide +kernel⟩
theorem d5_freezeNow_0 : decode b5_freezeNow 0 = .ok (.aload_n 0, 1) := by decide +kernel
theorem d5_freezeNow_1 : decode b5_freezeNow 1 = .ok (.getfield 36, 3) := by decide +kernel
theorem d5_freezeNow_4 : decode b5_freezeNow 4 = .ok (.iload_n 1, 1) := by decide +kernel
theorem d5_freezeNow_5 : decode b5_freezeNow 5 = .ok (.putfield 126, 3) := by decide +kernel
theorem d5_freezeNow_8 : decode b5_freezeNow 8 = .ok (.aload_n 0, 1) := by decide +kernel
theorem d5_freezeNow_9 : decode b5_freezeNow 9 = .ok (.invokevirtual 376, 3) := by decide +kernel
theorem d5_freezeNow_12 : decode b5_freezeNow 12 = .ok (.ireturn, 1) := by decide +kernel
abbrev b5_advanceFault : ByteArray := prog_1_method_104_code
def y5_advanceFault : MethodName := ⟨"ChannelSchedule", "advanceFault", "(I)I"⟩
theorem w5_advanceFault : YV y5_advanceFault b5_advanceFault 2 (some .int) 1 := ⟨LW_i 1095 (by decide +kernel) (by decide +kernel), LW_i 25 (by decide +kernel) (by decide +kernel), LW_i 28 (by decide +kernel) (by decide +kernel), LW_i 1096 (by decide +kernel) (by decide +kernel), by decide +kernel, by decide +kernel⟩
theorem d5_advanceFault_0 : decode b5_advanceFault 0 = .ok (.iload_n 1, 1) := by decide +kernel
theorem d5_advanceFault_1 : decode b5_advanceFault 1 = .ok (.iconst 1, 1) := by decide +kernel
theorem d5_advanceFault_2 : decode b5_advanceFault 2 = .ok (.sipush 500, 3) := by decide +kernel
theorem d5_advanceFault_5 : decode b5_advanceFault 5 = .ok (.invokestatic 104, 3) := by decide +kernel
theorem d5_advanceFault_8 : decode b5_advanceFault 8 = .ok (.ifCond .ne 5, 3) := by decide +kernel
theorem d5_advanceFault_11 : decode b5_advanceFault 11 = .ok (.iconst 2, 1) := by decide +kernel
theorem d5_advanceFault_12 : decode b5_advanceFault 12 = .ok (.ireturn, 1) := by decide +kernel
theorem d5_advanceFault_13 : decode b5_advanceFault 13 = .ok (.aload_n 0, 1) := by decide +kernel
theorem d5_advanceFault_14 : decode b5_advanceFault 14 = .ok (.getfield 36, 3) := by decide +kernel
theorem d5_advanceFault_17 : decode b5_advanceFault 17 = .ok (.getfield 129, 3) := by decide +kernel
theorem d5_advanceFault_20 : decode b5_advanceFault 20 = .ok (.iload_n 1, 1) := by decide +kernel
theorem d5_advanceFault_21 : decode b5_advanceFault 21 = .ok (.iadd, 1) := by decide +kernel
theorem d5_advanceFault_22 : decode b5_advanceFault 22 = .ok (.sipush 1200, 3) := by decide +kernel
theorem d5_advanceFault_25 : decode b5_advanceFault 25 = .ok (.if_icmp .le 7, 3) := by decide +kernel
theorem d5_advanceFault_28 : decode b5_advanceFault 28 = .ok (.iconst 3, 1) := by decide +kernel
theorem d5_advanceFault_29 : decode b5_advanceFault 29 = .ok (.goto 4, 3) := by decide +kernel
theorem d5_advanceFault_32 : decode b5_advanceFault 32 = .ok (.iconst 0, 1) := by decide +kernel
theorem d5_advanceFault_33 : decode b5_advanceFault 33 = .ok (.ireturn, 1) := by decide +kernel
abbrev b5_advanceNow : ByteArray := prog_1_method_105_code
def y5_advanceNow : MethodName := ⟨"ChannelSchedule", "advanceNow", "(I)I"⟩
theorem w5_advanceNow : YV y5_advanceNow b5_advanceNow 5 (some .int) 1 := ⟨LW_i 1099 (by decide +kernel) (by decide +kernel), LW_i 26 (by decide +kernel) (by decide +kernel), LW_i 28 (by decide +kernel) (by decide +kernel), LW_i 1100 (by decide +kernel) (by decide +kernel), by decide +kernel, by decide +kernel⟩
theorem d5_advanceNow_0 : decode b5_advanceNow 0 = .ok (.aload_n 0, 1) := by decide +kernel
theorem d5_advanceNow_1 : decode b5_advanceNow 1 = .ok (.getfield 36, 3) := by decide +kernel
theorem d5_advanceNow_4 : decode b5_advanceNow 4 = .ok (.getfield 129, 3) := by decide +kernel
theorem d5_advanceNow_7 : decode b5_advanceNow 7 = .ok (.istore_n 2, 1) := by decide +kernel
theorem d5_advanceNow_8 : decode b5_advanceNow 8 = .ok (.aload_n 0, 1) := by decide +kernel
theorem d5_advanceNow_9 : decode b5_advanceNow 9 = .ok (.getfield 36, 3) := by decide +kernel
theorem d5_advanceNow_12 : decode b5_advanceNow 12 = .ok (.dup, 1) := by decide +kernel
theorem d5_advanceNow_13 : decode b5_advanceNow 13 = .ok (.getfield 129, 3) := by decide +kernel
theorem d5_advanceNow_16 : decode b5_advanceNow 16 = .ok (.iload_n 1, 1) := by decide +kernel
theorem d5_advanceNow_17 : decode b5_advanceNow 17 = .ok (.iadd, 1) := by decide +kernel
theorem d5_advanceNow_18 : decode b5_advanceNow 18 = .ok (.putfield 129, 3) := by decide +kernel
theorem d5_advanceNow_21 : decode b5_advanceNow 21 = .ok (.iconst 0, 1) := by decide +kernel
theorem d5_advanceNow_22 : decode b5_advanceNow 22 = .ok (.istore_n 3, 1) := by decide +kernel
theorem d5_advanceNow_23 : decode b5_advanceNow 23 = .ok (.iconst 0, 1) := by decide +kernel
theorem d5_advanceNow_24 : decode b5_advanceNow 24 = .ok (.istore 4, 2) := by decide +kernel
theorem d5_advanceNow_26 : decode b5_advanceNow 26 = .ok (.iload 4, 2) := by decide +kernel
theorem d5_advanceNow_28 : decode b5_advanceNow 28 = .ok (.aload_n 0, 1) := by decide +kernel
theorem d5_advanceNow_29 : decode b5_advanceNow 29 = .ok (.getfield 36, 3) := by decide +kernel
theorem d5_advanceNow_32 : decode b5_advanceNow 32 = .ok (.getfield 175, 3) := by decide +kernel
theorem d5_advanceNow_35 : decode b5_advanceNow 35 = .ok (.if_icmp .ge 46, 3) := by decide +kernel
theorem d5_advanceNow_38 : decode b5_advanceNow 38 = .ok (.aload_n 0, 1) := by decide +kernel
theorem d5_advanceNow_39 : decode b5_advanceNow 39 = .ok (.getfield 36, 3) := by decide +kernel
theorem d5_advanceNow_42 : decode b5_advanceNow 42 = .ok (.getfield 186, 3) := by decide +kernel
theorem d5_advanceNow_45 : decode b5_advanceNow 45 = .ok (.iload 4, 2) := by decide +kernel
theorem d5_advanceNow_47 : decode b5_advanceNow 47 = .ok (.iaload, 1) := by decide +kernel
theorem d5_advanceNow_48 : decode b5_advanceNow 48 = .ok (.iload_n 2, 1) := by decide +kernel
theorem d5_advanceNow_49 : decode b5_advanceNow 49 = .ok (.if_icmp .le 26, 3) := by decide +kernel
theorem d5_advanceNow_52 : decode b5_advanceNow 52 = .ok (.aload_n 0, 1) := by decide +kernel
theorem d5_advanceNow_53 : decode b5_advanceNow 53 = .ok (.getfield 36, 3) := by decide +kernel
theorem d5_advanceNow_56 : decode b5_advanceNow 56 = .ok (.getfield 186, 3) := by decide +kernel
theorem d5_advanceNow_59 : decode b5_advanceNow 59 = .ok (.iload 4, 2) := by decide +kernel
theorem d5_advanceNow_61 : decode b5_advanceNow 61 = .ok (.iaload, 1) := by decide +kernel
theorem d5_advanceNow_62 : decode b5_advanceNow 62 = .ok (.aload_n 0, 1) := by decide +kernel
theorem d5_advanceNow_63 : decode b5_advanceNow 63 = .ok (.getfield 36, 3) := by decide +kernel
theorem d5_advanceNow_66 : decode b5_advanceNow 66 = .ok (.getfield 129, 3) := by decide +kernel
theorem d5_advanceNow_69 : decode b5_advanceNow 69 = .ok (.if_icmp .gt 6, 3) := by decide +kernel
theorem d5_advanceNow_72 : decode b5_advanceNow 72 = .ok (.iinc 3 1, 3) := by decide +kernel
theorem d5_advanceNow_75 : decode b5_advanceNow 75 = .ok (.iinc 4 1, 3) := by decide +kernel
theorem d5_advanceNow_78 : decode b5_advanceNow 78 = .ok (.goto (-52), 3) := by decide +kernel
theorem d5_advanceNow_81 : decode b5_advanceNow 81 = .ok (.iload_n 3, 1) := by decide +kernel
theorem d5_advanceNow_82 : decode b5_advanceNow 82 = .ok (.ireturn, 1) := by decide +kernel
abbrev b5_remember : ByteArray := prog_1_method_106_code
def y5_remember : MethodName := ⟨"ChannelSchedule", "remember", "()V"⟩
theorem w5_remember : YV y5_remember b5_remember 1 none 0 := ⟨LW_i 598 (by decide +kernel) (by decide +kernel), LW_i 14 (by decide +kernel) (by decide +kernel), LW_i 28 (by decide +kernel) (by decide +kernel), LW_i 599 (by decide +kernel) (by decide +kernel), by decide +kernel, by decide +kernel⟩
theorem d5_remember_0 : decode b5_remember 0 = .ok (.aload_n 0, 1) := by decide +kernel
theorem d5_remember_1 : decode b5_remember 1 = .ok (.aload_n 0, 1) := by decide +kernel
theorem d5_remember_2 : decode b5_remember 2 = .ok (.getfield 47, 3) := by decide +kernel
theorem d5_remember_5 : decode b5_remember 5 = .ok (.iconst 5, 1) := by decide +kernel
theorem d5_remember_6 : decode b5_remember 6 = .ok (.if_icmp .ne 7, 3) := by decide +kernel
theorem d5_remember_9 : decode b5_remember 9 = .ok (.iconst 0, 1) := by decide +kernel
theorem d5_remember_10 : decode b5_remember 10 = .ok (.goto 9, 3) := by decide +kernel
theorem d5_remember_13 : decode b5_remember 13 = .ok (.aload_n 0, 1) := by decide +kernel
theorem d5_remember_14 : decode b5_remember 14 = .ok (.getfield 47, 3) := by decide +kernel
theorem d5_remember_17 : decode b5_remember 17 = .ok (.iconst 1, 1) := by decide +kernel
theorem d5_remember_18 : decode b5_remember 18 = .ok (.iadd, 1) := by decide +kernel
theorem d5_remember_19 : decode b5_remember 19 = .ok (.putfield 47, 3) := by decide +kernel
theorem d5_remember_22 : decode b5_remember 22 = .ok (.aload_n 0, 1) := by decide +kernel
theorem d5_remember_23 : decode b5_remember 23 = .ok (.getfield 43, 3) := by decide +kernel
theorem d5_remember_26 : decode b5_remember 26 = .ok (.aload_n 0, 1) := by decide +kernel
theorem d5_remember_27 : decode b5_remember 27 = .ok (.getfield 47, 3) := by decide +kernel
theorem d5_remember_30 : decode b5_remember 30 = .ok (.aaload, 1) := by decide +kernel
theorem d5_remember_31 : decode b5_remember 31 = .ok (.aload_n 0, 1) := by decide +kernel
theorem d5_remember_32 : decode b5_remember 32 = .ok (.getfield 36, 3) := by decide +kernel
theorem d5_remember_35 : decode b5_remember 35 = .ok (.invokevirtual 261, 3) := by decide +kernel
theorem d5_remember_38 : decode b5_remember 38 = .ok (.aload_n 0, 1) := by decide +kernel
theorem d5_remember_39 : decode b5_remember 39 = .ok (.getfield 51, 3) := by decide +kernel
theorem d5_remember_42 : decode b5_remember 42 = .ok (.bipush 6, 2) := by decide +kernel
theorem d5_remember_44 : decode b5_remember 44 = .ok (.if_icmp .ge 13, 3) := by decide +kernel
theorem d5_remember_47 : decode b5_remember 47 = .ok (.aload_n 0, 1) := by decide +kernel
theorem d5_remember_48 : decode b5_remember 48 = .ok (.dup, 1) := by decide +kernel
theorem d5_remember_49 : decode b5_remember 49 = .ok (.getfield 51, 3) := by decide +kernel
theorem d5_remember_52 : decode b5_remember 52 = .ok (.iconst 1, 1) := by decide +kernel
theorem d5_remember_53 : decode b5_remember 53 = .ok (.iadd, 1) := by decide +kernel
theorem d5_remember_54 : decode b5_remember 54 = .ok (.putfield 51, 3) := by decide +kernel
theorem d5_remember_57 : decode b5_remember 57 = .ok (.return_, 1) := by decide +kernel
abbrev b5_readSetup : ByteArray := prog_1_method_107_code
def y5_readSetup : MethodName := ⟨"ChannelSchedule", "readSetup", "()Z"⟩
theorem w5_readSetup : YV y5_readSetup b5_readSetup 2 (some .boolean) 0 := ⟨LW_i 302 (by decide +kernel) (by decide +kernel), LW_i 0 (by decide +kernel) (by decide +kernel), LW_i 28 (by decide +kernel) (by decide +kernel), LW_i 303 (by decide +kernel) (by decide +kernel), by decide +kernel, by decide +kernel⟩
theorem d5_readSetup_0 : decode b5_readSetup 0 = .ok (.aload_n 0, 1) := by decide +kernel
theorem d5_readSetup_1 : decode b5_readSetup 1 = .ok (.getfield 10, 3) := by decide +kernel
theorem d5_readSetup_4 : decode b5_readSetup 4 = .ok (.invokevirtual 379, 3) := by decide +kernel
theorem d5_readSetup_7 : decode b5_readSetup 7 = .ok (.aload_n 0, 1) := by decide +kernel
theorem d5_readSetup_8 : decode b5_readSetup 8 = .ok (.getfield 30, 3) := by decide +kernel
theorem d5_readSetup_11 : decode b5_readSetup 11 = .ok (.iconst 0, 1) := by decide +kernel
theorem d5_readSetup_12 : decode b5_readSetup 12 = .ok (.putfield 111, 3) := by decide +kernel
theorem d5_readSetup_15 : decode b5_readSetup 15 = .ok (.aload_n 0, 1) := by decide +kernel
theorem d5_readSetup_16 : decode b5_readSetup 16 = .ok (.invokevirtual 382, 3) := by decide +kernel
theorem d5_readSetup_19 : decode b5_readSetup 19 = .ok (.ifCond .ne 5, 3) := by decide +kernel
theorem d5_readSetup_22 : decode b5_readSetup 22 = .ok (.iconst 0, 1) := by decide +kernel
theorem d5_readSetup_23 : decode b5_readSetup 23 = .ok (.ireturn, 1) := by decide +kernel
theorem d5_readSetup_24 : decode b5_readSetup 24 = .ok (.iconst 0, 1) := by decide +kernel
theorem d5_readSetup_25 : decode b5_readSetup 25 = .ok (.istore_n 1, 1) := by decide +kernel
theorem d5_readSetup_26 : decode b5_readSetup 26 = .ok (.iload_n 1, 1) := by decide +kernel
theorem d5_readSetup_27 : decode b5_readSetup 27 = .ok (.bipush 10, 2) := by decide +kernel
theorem d5_readSetup_29 : decode b5_readSetup 29 = .ok (.if_icmp .gt 34, 3) := by decide +kernel
theorem d5_readSetup_32 : decode b5_readSetup 32 = .ok (.iload_n 1, 1) := by decide +kernel
theorem d5_readSetup_33 : decode b5_readSetup 33 = .ok (.ifCond .le 15, 3) := by decide +kernel
theorem d5_readSetup_36 : decode b5_readSetup 36 = .ok (.aload_n 0, 1) := by decide +kernel
theorem d5_readSetup_37 : decode b5_readSetup 37 = .ok (.getfield 10, 3) := by decide +kernel
theorem d5_readSetup_40 : decode b5_readSetup 40 = .ok (.getfield 385, 3) := by decide +kernel
theorem d5_readSetup_43 : decode b5_readSetup 43 = .ok (.ifCond .ne 5, 3) := by decide +kernel
theorem d5_readSetup_46 : decode b5_readSetup 46 = .ok (.iconst 1, 1) := by decide +kernel
theorem d5_readSetup_47 : decode b5_readSetup 47 = .ok (.ireturn, 1) := by decide +kernel
theorem d5_readSetup_48 : decode b5_readSetup 48 = .ok (.aload_n 0, 1) := by decide +kernel
theorem d5_readSetup_49 : decode b5_readSetup 49 = .ok (.invokevirtual 388, 3) := by decide +kernel
theorem d5_readSetup_52 : decode b5_readSetup 52 = .ok (.ifCond .ne 5, 3) := by decide +kernel
theorem d5_readSetup_55 : decode b5_readSetup 55 = .ok (.iconst 0, 1) := by decide +kernel
theorem d5_readSetup_56 : decode b5_readSetup 56 = .ok (.ireturn, 1) := by decide +kernel
theorem d5_readSetup_57 : decode b5_readSetup 57 = .ok (.iinc 1 1, 3) := by decide +kernel
theorem d5_readSetup_60 : decode b5_readSetup 60 = .ok (.goto (-34), 3) := by decide +kernel
theorem d5_readSetup_63 : decode b5_readSetup 63 = .ok (.iconst 1, 1) := by decide +kernel
theorem d5_readSetup_64 : decode b5_readSetup 64 = .ok (.ireturn, 1) := by decide +kernel
abbrev b5_readSettings : ByteArray := prog_1_method_108_code
def y5_readSettings : MethodName := ⟨"ChannelSchedule", "readSettings", "()Z"⟩
theorem w5_readSettings : YV y5_readSettings b5_readSettings 1 (some .boolean) 0 := ⟨LW_i 321 (by decide +kernel) (by decide +kernel), LW_i 1 (by decide +kernel) (by decide +kernel), LW_i 28 (by decide +kernel) (by decide +kernel), LW_i 322 (by decide +kernel) (by decide +kernel), by decide +kernel, by decide +kernel⟩
theorem d5_readSettings_0 : decode b5_readSettings 0 = .ok (.aload_n 0, 1) := by decide +kernel
theorem d5_readSettings_1 : decode b5_readSettings 1 = .ok (.getfield 10, 3) := by decide +kernel
theorem d5_readSettings_4 : decode b5_readSettings 4 = .ok (.ldc_w 391, 3) := by decide +kernel
theorem d5_readSettings_7 : decode b5_readSettings 7 = .ok (.invokevirtual 393, 3) := by decide +kernel
theorem d5_readSettings_10 : decode b5_readSettings 10 = .ok (.ifCond .eq 16, 3) := by decide +kernel
theorem d5_readSettings_13 : decode b5_readSettings 13 = .ok (.aload_n 0, 1) := by decide +kernel
theorem d5_readSettings_14 : decode b5_readSettings 14 = .ok (.getfield 10, 3) := by decide +kernel
theorem d5_readSettings_17 : decode b5_readSettings 17 = .ok (.iconst 0, 1) := by decide +kernel
theorem d5_readSettings_18 : decode b5_readSettings 18 = .ok (.bipush 30, 2) := by decide +kernel
theorem d5_readSettings_20 : decode b5_readSettings 20 = .ok (.invokevirtual 397, 3) := by decide +kernel
theorem d5_readSettings_23 : decode b5_readSettings 23 = .ok (.ifCond .ne 5, 3) := by decide +kernel
theorem d5_readSettings_26 : decode b5_readSettings 26 = .ok (.iconst 0, 1) := by decide +kernel
theorem d5_readSettings_27 : decode b5_readSettings 27 = .ok (.ireturn, 1) := by decide +kernel
theorem d5_readSettings_28 : decode b5_readSettings 28 = .ok (.aload_n 0, 1) := by decide +kernel
theorem d5_readSettings_29 : decode b5_readSettings 29 = .ok (.getfield 30, 3) := by decide +kernel
theorem d5_readSettings_32 : decode b5_readSettings 32 = .ok (.aload_n 0, 1) := by decide +kernel
theorem d5_readSettings_33 : decode b5_readSettings 33 = .ok (.getfield 10, 3) := by decide +kernel
theorem d5_readSettings_36 : decode b5_readSettings 36 = .ok (.getfield 400, 3) := by decide +kernel
theorem d5_readSettings_39 : decode b5_readSettings 39 = .ok (.putfield 120, 3) := by decide +kernel
theorem d5_readSettings_42 : decode b5_readSettings 42 = .ok (.aload_n 0, 1) := by decide +kernel
theorem d5_readSettings_43 : decode b5_readSettings 43 = .ok (.getfield 10, 3) := by decide +kernel
theorem d5_readSettings_46 : decode b5_readSettings 46 = .ok (.iconst 0, 1) := by decide +kernel
theorem d5_readSettings_47 : decode b5_readSettings 47 = .ok (.bipush 30, 2) := by decide +kernel
theorem d5_readSettings_49 : decode b5_readSettings 49 = .ok (.invokevirtual 397, 3) := by decide +kernel
theorem d5_readSettings_52 : decode b5_readSettings 52 = .ok (.ifCond .ne 5, 3) := by decide +kernel
theorem d5_readSettings_55 : decode b5_readSettings 55 = .ok (.iconst 0, 1) := by decide +kernel
theorem d5_readSettings_56 : decode b5_readSettings 56 = .ok (.ireturn, 1) := by decide +kernel
theorem d5_readSettings_57 : decode b5_readSettings 57 = .ok (.aload_n 0, 1) := by decide +kernel
theorem d5_readSettings_58 : decode b5_readSettings 58 = .ok (.getfield 30, 3) := by decide +kernel
theorem d5_readSettings_61 : decode b5_readSettings 61 = .ok (.aload_n 0, 1) := by decide +kernel
theorem d5_readSettings_62 : decode b5_readSettings 62 = .ok (.getfield 10, 3) := by decide +kernel
theorem d5_readSettings_65 : decode b5_readSettings 65 = .ok (.getfield 400, 3) := by decide +kernel
theorem d5_readSettings_68 : decode b5_readSettings 68 = .ok (.putfield 123, 3) := by decide +kernel
theorem d5_readSettings_71 : decode b5_readSettings 71 = .ok (.aload_n 0, 1) := by decide +kernel
theorem d5_readSettings_72 : decode b5_readSettings 72 = .ok (.getfield 10, 3) := by decide +kernel
theorem d5_readSettings_75 : decode b5_readSettings 75 = .ok (.iconst 0, 1) := by decide +kernel
theorem d5_readSettings_76 : decode b5_readSettings 76 = .ok (.bipush 9, 2) := by decide +kernel
theorem d5_readSettings_78 : decode b5_readSettings 78 = .ok (.invokevirtual 397, 3) := by decide +kernel
theorem d5_readSettings_81 : decode b5_readSettings 81 = .ok (.ifCond .ne 5, 3) := by decide +kernel
theorem d5_readSettings_84 : decode b5_readSettings 84 = .ok (.iconst 0, 1) := by decide +kernel
theorem d5_readSettings_85 : decode b5_readSettings 85 = .ok (.ireturn, 1) := by decide +kernel
theorem d5_readSettings_86 : decode b5_readSettings 86 = .ok (.aload_n 0, 1) := by decide +kernel
theorem d5_readSettings_87 : decode b5_readSettings 87 = .ok (.getfield 30, 3) := by decide +kernel
theorem d5_readSettings_90 : decode b5_readSettings 90 = .ok (.aload_n 0, 1) := by decide +kernel
theorem d5_readSettings_91 : decode b5_readSettings 91 = .ok (.getfield 10, 3) := by decide +kernel
theorem d5_readSettings_94 : decode b5_readSettings 94 = .ok (.getfield 400, 3) := by decide +kernel
theorem d5_readSettings_97 : decode b5_readSettings 97 = .ok (.putfield 403, 3) := by decide +kernel
theorem d5_readSettings_100 : decode b5_readSettings 100 = .ok (.aload_n 0, 1) := by decide +kernel
theorem d5_readSettings_101 : decode b5_readSettings 101 = .ok (.getfield 10, 3) := by decide +kernel
theorem d5_readSettings_104 : decode b5_readSettings 104 = .ok (.invokevirtual 404, 3) := by decide +kernel
theorem d5_readSettings_107 : decode b5_readSettings 107 = .ok (.ireturn, 1) := by decide +kernel
abbrev b5_readShip : ByteArray := prog_1_method_109_code
def y5_readShip : MethodName := ⟨"ChannelSchedule", "readShip", "()Z"⟩
theorem w5_readShip : YV y5_readShip b5_readShip 2 (some .boolean) 0 := ⟨LW_i 348 (by decide +kernel) (by decide +kernel), LW_i 2 (by decide +kernel) (by decide +kernel), LW_i 28 (by decide +kernel) (by decide +kernel), LW_i 349 (by decide +kernel) (by decide +kernel), by decide +kernel, by decide +kernel⟩
theorem d5_readShip_0 : decode b5_readShip 0 = .ok (.aload_n 0, 1) := by decide +kernel
theorem d5_readShip_1 : decode b5_readShip 1 = .ok (.getfield 10, 3) := by decide +kernel
theorem d5_readShip_4 : decode b5_readShip 4 = .ok (.ldc_w 407, 3) := by decide +kernel
theorem d5_readShip_7 : decode b5_readShip 7 = .ok (.invokevirtual 409, 3) := by decide +kernel
theorem d5_readShip_10 : decode b5_readShip 10 = .ok (.ifCond .eq 24, 3) := by decide +kernel
theorem d5_readShip_13 : decode b5_readShip 13 = .ok (.aload_n 0, 1) := by decide +kernel
theorem d5_readShip_14 : decode b5_readShip 14 = .ok (.getfield 30, 3) := by decide +kernel
theorem d5_readShip_17 : decode b5_readShip 17 = .ok (.getfield 111, 3) := by decide +kernel
theorem d5_readShip_20 : decode b5_readShip 20 = .ok (.bipush 10, 2) := by decide +kernel
theorem d5_readShip_22 : decode b5_readShip 22 = .ok (.if_icmp .ne 12, 3) := by decide +kernel
theorem d5_readShip_25 : decode b5_readShip 25 = .ok (.aload_n 0, 1) := by decide +kernel
theorem d5_readShip_26 : decode b5_readShip 26 = .ok (.getfield 10, 3) := by decide +kernel
theorem d5_readShip_29 : decode b5_readShip 29 = .ok (.iconst 4, 1) := by decide +kernel
theorem d5_readShip_30 : decode b5_readShip 30 = .ok (.invokevirtual 412, 3) := by decide +kernel
theorem d5_readShip_33 : decode b5_readShip 33 = .ok (.ireturn, 1) := by decide +kernel
theorem d5_readShip_34 : decode b5_readShip 34 = .ok (.aload_n 0, 1) := by decide +kernel
theorem d5_readShip_35 : decode b5_readShip 35 = .ok (.getfield 10, 3) := by decide +kernel
theorem d5_readShip_38 : decode b5_readShip 38 = .ok (.ldc_w 407, 3) := by decide +kernel
theorem d5_readShip_41 : decode b5_readShip 41 = .ok (.invokevirtual 393, 3) := by decide +kernel
theorem d5_readShip_44 : decode b5_readShip 44 = .ok (.ifCond .ne 5, 3) := by decide +kernel
theorem d5_readShip_47 : decode b5_readShip 47 = .ok (.iconst 0, 1) := by decide +kernel
theorem d5_readShip_48 : decode b5_readShip 48 = .ok (.ireturn, 1) := by decide +kernel
theorem d5_readShip_49 : decode b5_readShip 49 = .ok (.aload_n 0, 1) := by decide +kernel
theorem d5_readShip_50 : decode b5_readShip 50 = .ok (.getfield 30, 3) := by decide +kernel
theorem d5_readShip_53 : decode b5_readShip 53 = .ok (.getfield 143, 3) := by decide +kernel
theorem d5_readShip_56 : decode b5_readShip 56 = .ok (.aload_n 0, 1) := by decide +kernel
theorem d5_readShip_57 : decode b5_readShip 57 = .ok (.getfield 30, 3) := by decide +kernel
theorem d5_readShip_60 : decode b5_readShip 60 = .ok (.getfield 111, 3) := by decide +kernel
theorem d5_readShip_63 : decode b5_readShip 63 = .ok (.aaload, 1) := by decide +kernel
theorem d5_readShip_64 : decode b5_readShip 64 = .ok (.astore_n 1, 1) := by decide +kernel
theorem d5_readShip_65 : decode b5_readShip 65 = .ok (.aload_n 0, 1) := by decide +kernel
theorem d5_readShip_66 : decode b5_readShip 66 = .ok (.aload_n 1, 1) := by decide +kernel
theorem d5_readShip_67 : decode b5_readShip 67 = .ok (.invokevirtual 415, 3) := by decide +kernel
theorem d5_readShip_70 : decode b5_readShip 70 = .ok (.ifCond .eq 16, 3) := by decide +kernel
theorem d5_readShip_73 : decode b5_readShip 73 = .ok (.aload_n 0, 1) := by decide +kernel
theorem d5_readShip_74 : decode b5_readShip 74 = .ok (.getfield 10, 3) := by decide +kernel
theorem d5_readShip_77 : decode b5_readShip 77 = .ok (.iconst 1, 1) := by decide +kernel
theorem d5_readShip_78 : decode b5_readShip 78 = .ok (.bipush 60, 2) := by decide +kernel
theorem d5_readShip_80 : decode b5_readShip 80 = .ok (.invokevirtual 397, 3) := by decide +kernel
theorem d5_readShip_83 : decode b5_readShip 83 = .ok (.ifCond .ne 5, 3) := by decide +kernel
theorem d5_readShip_86 : decode b5_readShip 86 = .ok (.iconst 0, 1) := by decide +kernel
theorem d5_readShip_87 : decode b5_readShip 87 = .ok (.ireturn, 1) := by decide +kernel
theorem d5_readShip_88 : decode b5_readShip 88 = .ok (.aload_n 1, 1) := by decide +kernel
theorem d5_readShip_89 : decode b5_readShip 89 = .ok (.aload_n 0, 1) := by decide +kernel
theorem d5_readShip_90 : decode b5_readShip 90 = .ok (.getfield 10, 3) := by decide +kernel
theorem d5_readShip_93 : decode b5_readShip 93 = .ok (.getfield 400, 3) := by decide +kernel
theorem d5_readShip_96 : decode b5_readShip 96 = .ok (.putfield 348, 3) := by decide +kernel
theorem d5_readShip_99 : decode b5_readShip 99 = .ok (.aload_n 0, 1) := by decide +kernel
theorem d5_readShip_100 : decode b5_readShip 100 = .ok (.getfield 10, 3) := by decide +kernel
theorem d5_readShip_103 : decode b5_readShip 103 = .ok (.iconst 0, 1) := by decide +kernel
theorem d5_readShip_104 : decode b5_readShip 104 = .ok (.bipush 9, 2) := by decide +kernel
theorem d5_readShip_106 : decode b5_readShip 106 = .ok (.invokevirtual 397, 3) := by decide +kernel
theorem d5_readShip_109 : decode b5_readShip 109 = .ok (.ifCond .ne 5, 3) := by decide +kernel
theorem d5_readShip_112 : decode b5_readShip 112 = .ok (.iconst 0, 1) := by decide +kernel
theorem d5_readShip_113 : decode b5_readShip 113 = .ok (.ireturn, 1) := by decide +kernel
theorem d5_readShip_114 : decode b5_readShip 114 = .ok (.aload_n 1, 1) := by decide +kernel
theorem d5_readShip_115 : decode b5_readShip 115 = .ok (.aload_n 0, 1) := by decide +kernel
theorem d5_readShip_116 : decode b5_readShip 116 = .ok (.getfield 10, 3) := by decide +kernel
theorem d5_readShip_119 : decode b5_readShip 119 = .ok (.getfield 400, 3) := by decide +kernel
theorem d5_readShip_122 : decode b5_readShip 122 = .ok (.putfield 147, 3) := by decide +kernel
theorem d5_readShip_125 : decode b5_readShip 125 = .ok (.aload_n 0, 1) := by decide +kernel
theorem d5_readShip_126 : decode b5_readShip 126 = .ok (.getfield 10, 3) := by decide +kernel
theorem d5_readShip_129 : decode b5_readShip 129 = .ok (.iconst 1, 1) := by decide +kernel
theorem d5_readShip_130 : decode b5_readShip 130 = .ok (.bipush 99, 2) := by decide +kernel
theorem d5_readShip_132 : decode b5_readShip 132 = .ok (.invokevirtual 397, 3) := by decide +kernel
theorem d5_readShip_135 : decode b5_readShip 135 = .ok (.ifCond .ne 5, 3) := by decide +kernel
theorem d5_readShip_138 : decode b5_readShip 138 = .ok (.iconst 0, 1) := by decide +kernel
theorem d5_readShip_139 : decode b5_readShip 139 = .ok (.ireturn, 1) := by decide +kernel
theorem d5_readShip_140 : decode b5_readShip 140 = .ok (.aload_n 1, 1) := by decide +kernel
theorem d5_readShip_141 : decode b5_readShip 141 = .ok (.aload_n 0, 1) := by decide +kernel
theorem d5_readShip_142 : decode b5_readShip 142 = .ok (.getfield 10, 3) := by decide +kernel
theorem d5_readShip_145 : decode b5_readShip 145 = .ok (.getfield 400, 3) := by decide +kernel
theorem d5_readShip_148 : decode b5_readShip 148 = .ok (.putfield 152, 3) := by decide +kernel
theorem d5_readShip_151 : decode b5_readShip 151 = .ok (.aload_n 0, 1) := by decide +kernel
theorem d5_readShip_152 : decode b5_readShip 152 = .ok (.getfield 30, 3) := by decide +kernel
theorem d5_readShip_155 : decode b5_readShip 155 = .ok (.dup, 1) := by decide +kernel
theorem d5_readShip_156 : decode b5_readShip 156 = .ok (.getfield 111, 3) := by decide +kernel
theorem d5_readShip_159 : decode b5_readShip 159 = .ok (.iconst 1, 1) := by decide +kernel
theorem d5_readShip_160 : decode b5_readShip 160 = .ok (.iadd, 1) := by decide +kernel
theorem d5_readShip_161 : decode b5_readShip 161 = .ok (.putfield 111, 3) := by decide +kernel
theorem d5_readShip_164 : decode b5_readShip 164 = .ok (.aload_n 0, 1) := by decide +kernel
theorem d5_readShip_165 : decode b5_readShip 165 = .ok (.getfield 10, 3) := by decide +kernel
theorem d5_readShip_168 : decode b5_readShip 168 = .ok (.invokevirtual 404, 3) := by decide +kernel
theorem d5_readShip_171 : decode b5_readShip 171 = .ok (.ireturn, 1) := by decide +kernel
abbrev b5_readNewName : ByteArray := prog_1_method_110_code
def y5_readNewName : MethodName := ⟨"ChannelSchedule", "readNewName", "(LChannelSchedule$Ship;)Z"⟩
theorem w5_readNewName : YV y5_readNewName b5_readNewName 3 (some .boolean) 1 := ⟨LW_i 355 (by decide +kernel) (by decide +kernel), LW_i 3 (by decide +kernel) (by decide +kernel), LW_i 28 (by decide +kernel) (by decide +kernel), LW_i 356 (by decide +kernel) (by decide +kernel), by decide +kernel, by decide +kernel⟩
theorem d5_readNewName_0 : decode b5_readNewName 0 = .ok (.aload_n 0, 1) := by decide +kernel
theorem d5_readNewName_1 : decode b5_readNewName 1 = .ok (.getfield 10, 3) := by decide +kernel
theorem d5_readNewName_4 : decode b5_readNewName 4 = .ok (.getfield 385, 3) := by decide +kernel
theorem d5_readNewName_7 : decode b5_readNewName 7 = .ok (.iconst 1, 1) := by decide +kernel
theorem d5_readNewName_8 : decode b5_readNewName 8 = .ok (.if_icmp .eq 12, 3) := by decide +kernel
theorem d5_readNewName_11 : decode b5_readNewName 11 = .ok (.aload_n 0, 1) := by decide +kernel
theorem d5_readNewName_12 : decode b5_readNewName 12 = .ok (.getfield 10, 3) := by decide +kernel
theorem d5_readNewName_15 : decode b5_readNewName 15 = .ok (.iconst 1, 1) := by decide +kernel
theorem d5_readNewName_16 : decode b5_readNewName 16 = .ok (.invokevirtual 412, 3) := by decide +kernel
theorem d5_readNewName_19 : decode b5_readNewName 19 = .ok (.ireturn, 1) := by decide +kernel
theorem d5_readNewName_20 : decode b5_readNewName 20 = .ok (.aload_n 0, 1) := by decide +kernel
theorem d5_readNewName_21 : decode b5_readNewName 21 = .ok (.getfield 10, 3) := by decide +kernel
theorem d5_readNewName_24 : decode b5_readNewName 24 = .ok (.getfield 419, 3) := by decide +kernel
theorem d5_readNewName_27 : decode b5_readNewName 27 = .ok (.aload_n 0, 1) := by decide +kernel
theorem d5_readNewName_28 : decode b5_readNewName 28 = .ok (.getfield 10, 3) := by decide +kernel
theorem d5_readNewName_31 : decode b5_readNewName 31 = .ok (.getfield 422, 3) := by decide +kernel
theorem d5_readNewName_34 : decode b5_readNewName 34 = .ok (.isub, 1) := by decide +kernel
theorem d5_readNewName_35 : decode b5_readNewName 35 = .ok (.istore_n 2, 1) := by decide +kernel
theorem d5_readNewName_36 : decode b5_readNewName 36 = .ok (.iload_n 2, 1) := by decide +kernel
theorem d5_readNewName_37 : decode b5_readNewName 37 = .ok (.bipush 6, 2) := by decide +kernel
theorem d5_readNewName_39 : decode b5_readNewName 39 = .ok (.if_icmp .gt 29, 3) := by decide +kernel
theorem d5_readNewName_42 : decode b5_readNewName 42 = .ok (.aload_n 0, 1) := by decide +kernel
theorem d5_readNewName_43 : decode b5_readNewName 43 = .ok (.getfield 30, 3) := by decide +kernel
theorem d5_readNewName_46 : decode b5_readNewName 46 = .ok (.aload_n 0, 1) := by decide +kernel
theorem d5_readNewName_47 : decode b5_readNewName 47 = .ok (.getfield 10, 3) := by decide +kernel
theorem d5_readNewName_50 : decode b5_readNewName 50 = .ok (.getfield 165, 3) := by decide +kernel
theorem d5_readNewName_53 : decode b5_readNewName 53 = .ok (.aload_n 0, 1) := by decide +kernel
theorem d5_readNewName_54 : decode b5_readNewName 54 = .ok (.getfield 10, 3) := by decide +kernel
theorem d5_readNewName_57 : decode b5_readNewName 57 = .ok (.getfield 422, 3) := by decide +kernel
theorem d5_readNewName_60 : decode b5_readNewName 60 = .ok (.iload_n 2, 1) := by decide +kernel
theorem d5_readNewName_61 : decode b5_readNewName 61 = .ok (.invokevirtual 168, 3) := by decide +kernel
theorem d5_readNewName_64 : decode b5_readNewName 64 = .ok (.iconst (-1), 1) := by decide +kernel
theorem d5_readNewName_65 : decode b5_readNewName 65 = .ok (.if_icmp .eq 12, 3) := by decide +kernel
theorem d5_readNewName_68 : decode b5_readNewName 68 = .ok (.aload_n 0, 1) := by decide +kernel
theorem d5_readNewName_69 : decode b5_readNewName 69 = .ok (.getfield 10, 3) := by decide +kernel
theorem d5_readNewName_72 : decode b5_readNewName 72 = .ok (.iconst 3, 1) := by decide +kernel
theorem d5_readNewName_73 : decode b5_readNewName 73 = .ok (.invokevirtual 412, 3) := by decide +kernel
theorem d5_readNewName_76 : decode b5_readNewName 76 = .ok (.ireturn, 1) := by decide +kernel
theorem d5_readNewName_77 : decode b5_readNewName 77 = .ok (.aload_n 1, 1) := by decide +kernel
theorem d5_readNewName_78 : decode b5_readNewName 78 = .ok (.aload_n 0, 1) := by decide +kernel
theorem d5_readNewName_79 : decode b5_readNewName 79 = .ok (.getfield 10, 3) := by decide +kernel
theorem d5_readNewName_82 : decode b5_readNewName 82 = .ok (.getfield 165, 3) := by decide +kernel
theorem d5_readNewName_85 : decode b5_readNewName 85 = .ok (.aload_n 0, 1) := by decide +kernel
theorem d5_readNewName_86 : decode b5_readNewName 86 = .ok (.getfield 10, 3) := by decide +kernel
theorem d5_readNewName_89 : decode b5_readNewName 89 = .ok (.getfield 422, 3) := by decide +kernel
theorem d5_readNewName_92 : decode b5_readNewName 92 = .ok (.iload_n 2, 1) := by decide +kernel
theorem d5_readNewName_93 : decode b5_readNewName 93 = .ok (.invokevirtual 425, 3) := by decide +kernel
theorem d5_readNewName_96 : decode b5_readNewName 96 = .ok (.aload_n 0, 1) := by decide +kernel
theorem d5_readNewName_97 : decode b5_readNewName 97 = .ok (.getfield 10, 3) := by decide +kernel
theorem d5_readNewName_100 : decode b5_readNewName 100 = .ok (.invokevirtual 429, 3) := by decide +kernel
theorem d5_readNewName_103 : decode b5_readNewName 103 = .ok (.iconst 1, 1) := by decide +kernel
theorem d5_readNewName_104 : decode b5_readNewName 104 = .ok (.ireturn, 1) := by decide +kernel
abbrev b5_startWithDraft : ByteArray := prog_1_method_111_code
def y5_startWithDraft : MethodName := ⟨"ChannelSchedule", "startWithDraft", "()V"⟩
theorem w5_startWithDraft : YV y5_startWithDraft b5_startWithDraft 3 none 0 := ⟨LW_i 372 (by decide +kernel) (by decide +kernel), LW_i 4 (by decide +kernel) (by decide +kernel), LW_i 28 (by decide +kernel) (by decide +kernel), LW_i 373 (by decide +kernel) (by decide +kernel), by decide +kernel, by decide +kernel⟩
theorem d5_startWithDraft_0 : decode b5_startWithDraft 0 = .ok (.aload_n 0, 1) := by decide +kernel
theorem d5_startWithDraft_1 : decode b5_startWithDraft 1 = .ok (.getfield 26, 3) := by decide +kernel
theorem d5_startWithDraft_4 : decode b5_startWithDraft 4 = .ok (.astore_n 1, 1) := by decide +kernel
theorem d5_startWithDraft_5 : decode b5_startWithDraft 5 = .ok (.aload_n 0, 1) := by decide +kernel
theorem d5_startWithDraft_6 : decode b5_startWithDraft 6 = .ok (.aload_n 0, 1) := by decide +kernel
theorem d5_startWithDraft_7 : decode b5_startWithDraft 7 = .ok (.getfield 30, 3) := by decide +kernel
theorem d5_startWithDraft_10 : decode b5_startWithDraft 10 = .ok (.putfield 26, 3) := by decide +kernel
theorem d5_startWithDraft_13 : decode b5_startWithDraft 13 = .ok (.aload_n 0, 1) := by decide +kernel
theorem d5_startWithDraft_14 : decode b5_startWithDraft 14 = .ok (.aload_n 1, 1) := by decide +kernel
theorem d5_startWithDraft_15 : decode b5_startWithDraft 15 = .ok (.putfield 30, 3) := by decide +kernel
theorem d5_startWithDraft_18 : decode b5_startWithDraft 18 = .ok (.aload_n 0, 1) := by decide +kernel
theorem d5_startWithDraft_19 : decode b5_startWithDraft 19 = .ok (.getfield 36, 3) := by decide +kernel
theorem d5_startWithDraft_22 : decode b5_startWithDraft 22 = .ok (.aload_n 0, 1) := by decide +kernel
theorem d5_startWithDraft_23 : decode b5_startWithDraft 23 = .ok (.getfield 26, 3) := by decide +kernel
theorem d5_startWithDraft_26 : decode b5_startWithDraft 26 = .ok (.getfield 403, 3) := by decide +kernel
theorem d5_startWithDraft_29 : decode b5_startWithDraft 29 = .ok (.invokevirtual 432, 3) := by decide +kernel
theorem d5_startWithDraft_32 : decode b5_startWithDraft 32 = .ok (.aload_n 0, 1) := by decide +kernel
theorem d5_startWithDraft_33 : decode b5_startWithDraft 33 = .ok (.iconst 0, 1) := by decide +kernel
theorem d5_startWithDraft_34 : decode b5_startWithDraft 34 = .ok (.putfield 51, 3) := by decide +kernel
theorem d5_startWithDraft_37 : decode b5_startWithDraft 37 = .ok (.iconst 0, 1) := by decide +kernel
theorem d5_startWithDraft_38 : decode b5_startWithDraft 38 = .ok (.istore_n 2, 1) := by decide +kernel
theorem d5_startWithDraft_39 : decode b5_startWithDraft 39 = .ok (.iload_n 2, 1) := by decide +kernel
theorem d5_startWithDraft_40 : decode b5_startWithDraft 40 = .ok (.iconst 2, 1) := by decide +kernel
theorem d5_startWithDraft_41 : decode b5_startWithDraft 41 = .ok (.if_icmp .ge 16, 3) := by decide +kernel
theorem d5_startWithDraft_44 : decode b5_startWithDraft 44 = .ok (.aload_n 0, 1) := by decide +kernel
theorem d5_startWithDraft_45 : decode b5_startWithDraft 45 = .ok (.getfield 57, 3) := by decide +kernel
theorem d5_startWithDraft_48 : decode b5_startWithDraft 48 = .ok (.iload_n 2, 1) := by decide +kernel
theorem d5_startWithDraft_49 : decode b5_startWithDraft 49 = .ok (.iconst 0, 1) := by decide +kernel
theorem d5_startWithDraft_50 : decode b5_startWithDraft 50 = .ok (.bastore, 1) := by decide +kernel
theorem d5_startWithDraft_51 : decode b5_startWithDraft 51 = .ok (.iinc 2 1, 3) := by decide +kernel
theorem d5_startWithDraft_54 : decode b5_startWithDraft 54 = .ok (.goto (-15), 3) := by decide +kernel
theorem d5_startWithDraft_57 : decode b5_startWithDraft 57 = .ok (.return_, 1) := by decide +kernel
theorem l5_1 : .methodLink "ChannelSchedule" 1 ⟨"java/lang/Object", "<init>", "()V"⟩ ∈ LW := LW_i 58 (by decide +kernel) (by decide +kernel)
theorem l5_9 : .methodLink "ChannelSchedule" 9 y0_init ∈ LW := LW_i 63 (by decide +kernel) (by decide +kernel)
theorem l5_18 : .methodLink "ChannelSchedule" 18 y2_init ∈ LW := LW_i 101 (by decide +kernel) (by decide +kernel)
theorem l5_25 : .methodLink "ChannelSchedule" 25 y3_init ∈ LW := LW_i 128 (by decide +kernel) (by decide +kernel)
theorem l5_35 : .methodLink "ChannelSchedule" 35 y1_init ∈ LW := LW_i 181 (by decide +kernel) (by decide +kernel)
theorem l5_74 : .methodLink "ChannelSchedule" 74 ⟨"java/lang/String", "length", "()I"⟩ ∈ LW := LW_i 248 (by decide +kernel) (by decide +kernel)
theorem l5_80 : .methodLink "ChannelSchedule" 80 ⟨"java/lang/String", "charAt", "(I)C"⟩ ∈ LW := LW_i 258 (by decide +kernel) (by decide +kernel)
theorem l5_84 : .methodLink "ChannelSchedule" 84 y0_putByte ∈ LW := LW_i 296 (by decide +kernel) (by decide +kernel)
theorem l5_88 : .methodLink "ChannelSchedule" 88 y5_readSetup ∈ LW := LW_i 300 (by decide +kernel) (by decide +kernel)
theorem l5_92 : .methodLink "ChannelSchedule" 92 y5_startWithDraft ∈ LW := LW_i 370 (by decide +kernel) (by decide +kernel)
theorem l5_97 : .methodLink "ChannelSchedule" 97 y5_requireState ∈ LW := LW_i 578 (by decide +kernel) (by decide +kernel)
theorem l5_101 : .methodLink "ChannelSchedule" 101 y0_putFour ∈ LW := LW_i 824 (by decide +kernel) (by decide +kernel)
theorem l5_104 : .methodLink "ChannelSchedule" 104 y5_isWithin ∈ LW := LW_i 544 (by decide +kernel) (by decide +kernel)
theorem l5_108 : .methodLink "ChannelSchedule" 108 y5_requireArgument ∈ LW := LW_i 425 (by decide +kernel) (by decide +kernel)
theorem l5_132 : .methodLink "ChannelSchedule" 132 y5_isShip ∈ LW := LW_i 499 (by decide +kernel) (by decide +kernel)
theorem l5_136 : .methodLink "ChannelSchedule" 136 y5_requireIndex ∈ LW := LW_i 506 (by decide +kernel) (by decide +kernel)
theorem l5_139 : .methodLink "ChannelSchedule" 139 y5_transitOf ∈ LW := LW_i 524 (by decide +kernel) (by decide +kernel)
theorem l5_158 : .methodLink "ChannelSchedule" 158 y5_isNumberBelow ∈ LW := LW_i 503 (by decide +kernel) (by decide +kernel)
theorem l5_168 : .methodLink "ChannelSchedule" 168 y3_shipNamed ∈ LW := LW_i 357 (by decide +kernel) (by decide +kernel)
theorem l5_178 : .methodLink "ChannelSchedule" 178 y5_isBooking ∈ LW := LW_i 536 (by decide +kernel) (by decide +kernel)
theorem l5_205 : .methodLink "ChannelSchedule" 205 y5_clashes ∈ LW := LW_i 547 (by decide +kernel) (by decide +kernel)
theorem l5_209 : .methodLink "ChannelSchedule" 209 y5_firstClash ∈ LW := LW_i 571 (by decide +kernel) (by decide +kernel)
theorem l5_213 : .methodLink "ChannelSchedule" 213 y5_leastFreeStart ∈ LW := LW_i 632 (by decide +kernel) (by decide +kernel)
theorem l5_224 : .methodLink "ChannelSchedule" 224 y5_freeBefore ∈ LW := LW_i 551 (by decide +kernel) (by decide +kernel)
theorem l5_234 : .methodLink "ChannelSchedule" 234 y5_isRequest ∈ LW := LW_i 747 (by decide +kernel) (by decide +kernel)
theorem l5_261 : .methodLink "ChannelSchedule" 261 y1_copyFrom ∈ LW := LW_i 600 (by decide +kernel) (by decide +kernel)
theorem l5_265 : .methodLink "ChannelSchedule" 265 y5_cancelNow ∈ LW := LW_i 652 (by decide +kernel) (by decide +kernel)
theorem l5_277 : .methodLink "ChannelSchedule" 277 y5_bookFault ∈ LW := LW_i 567 (by decide +kernel) (by decide +kernel)
theorem l5_281 : .methodLink "ChannelSchedule" 281 y5_refuse ∈ LW := LW_i 575 (by decide +kernel) (by decide +kernel)
theorem l5_284 : .methodLink "ChannelSchedule" 284 y5_remember ∈ LW := LW_i 596 (by decide +kernel) (by decide +kernel)
theorem l5_287 : .methodLink "ChannelSchedule" 287 y5_bookNow ∈ LW := LW_i 612 (by decide +kernel) (by decide +kernel)
theorem l5_290 : .methodLink "ChannelSchedule" 290 y5_requestFault ∈ LW := LW_i 624 (by decide +kernel) (by decide +kernel)
theorem l5_294 : .methodLink "ChannelSchedule" 294 y5_requestNow ∈ LW := LW_i 636 (by decide +kernel) (by decide +kernel)
theorem l5_297 : .methodLink "ChannelSchedule" 297 y5_cancelFault ∈ LW := LW_i 648 (by decide +kernel) (by decide +kernel)
theorem l5_306 : .methodLink "ChannelSchedule" 306 y1_removeRequest ∈ LW := LW_i 664 (by decide +kernel) (by decide +kernel)
theorem l5_309 : .methodLink "ChannelSchedule" 309 y5_freezeNow ∈ LW := LW_i 1085 (by decide +kernel) (by decide +kernel)
theorem l5_312 : .methodLink "ChannelSchedule" 312 y5_advanceFault ∈ LW := LW_i 1093 (by decide +kernel) (by decide +kernel)
theorem l5_315 : .methodLink "ChannelSchedule" 315 y5_advanceNow ∈ LW := LW_i 1097 (by decide +kernel) (by decide +kernel)
theorem l5_338 : .methodLink "ChannelSchedule" 338 ⟨"java/lang/IndexOutOfBoundsException", "<init>", "()V"⟩ ∈ LW := LW_i 518 (by decide +kernel) (by decide +kernel)
theorem l5_341 : .methodLink "ChannelSchedule" 341 ⟨"java/lang/IllegalArgumentException", "<init>", "()V"⟩ ∈ LW := LW_i 469 (by decide +kernel) (by decide +kernel)
theorem l5_344 : .methodLink "ChannelSchedule" 344 ⟨"java/lang/IllegalStateException", "<init>", "()V"⟩ ∈ LW := LW_i 590 (by decide +kernel) (by decide +kernel)
theorem l5_351 : .methodLink "ChannelSchedule" 351 y5_freeAfter ∈ LW := LW_i 555 (by decide +kernel) (by decide +kernel)
theorem l5_354 : .methodLink "ChannelSchedule" 354 y5_startToServe ∈ LW := LW_i 628 (by decide +kernel) (by decide +kernel)
theorem l5_366 : .methodLink "ChannelSchedule" 366 y1_insertBooking ∈ LW := LW_i 616 (by decide +kernel) (by decide +kernel)
theorem l5_370 : .methodLink "ChannelSchedule" 370 y1_addRequest ∈ LW := LW_i 640 (by decide +kernel) (by decide +kernel)
theorem l5_373 : .methodLink "ChannelSchedule" 373 y1_removeBooking ∈ LW := LW_i 656 (by decide +kernel) (by decide +kernel)
theorem l5_376 : .methodLink "ChannelSchedule" 376 y5_serveWaiting ∈ LW := LW_i 660 (by decide +kernel) (by decide +kernel)
theorem l5_379 : .methodLink "ChannelSchedule" 379 y0_startReading ∈ LW := LW_i 304 (by decide +kernel) (by decide +kernel)
theorem l5_382 : .methodLink "ChannelSchedule" 382 y5_readSettings ∈ LW := LW_i 319 (by decide +kernel) (by decide +kernel)
theorem l5_388 : .methodLink "ChannelSchedule" 388 y5_readShip ∈ LW := LW_i 346 (by decide +kernel) (by decide +kernel)
theorem l5_393 : .methodLink "ChannelSchedule" 393 y0_takeWord ∈ LW := LW_i 324 (by decide +kernel) (by decide +kernel)
theorem l5_397 : .methodLink "ChannelSchedule" 397 y0_takeNumber ∈ LW := LW_i 338 (by decide +kernel) (by decide +kernel)
theorem l5_404 : .methodLink "ChannelSchedule" 404 y0_takeSemicolon ∈ LW := LW_i 342 (by decide +kernel) (by decide +kernel)
theorem l5_409 : .methodLink "ChannelSchedule" 409 y0_isWord ∈ LW := LW_i 351 (by decide +kernel) (by decide +kernel)
theorem l5_412 : .methodLink "ChannelSchedule" 412 y0_fail ∈ LW := LW_i 352 (by decide +kernel) (by decide +kernel)
theorem l5_415 : .methodLink "ChannelSchedule" 415 y5_readNewName ∈ LW := LW_i 353 (by decide +kernel) (by decide +kernel)
theorem l5_425 : .methodLink "ChannelSchedule" 425 y4_takeName ∈ LW := LW_i 365 (by decide +kernel) (by decide +kernel)
theorem l5_429 : .methodLink "ChannelSchedule" 429 y0_readToken ∈ LW := LW_i 369 (by decide +kernel) (by decide +kernel)
theorem l5_432 : .methodLink "ChannelSchedule" 432 y1_startAnew ∈ LW := LW_i 374 (by decide +kernel) (by decide +kernel)
theorem l0_3 : .methodLink "ChannelSchedule$Input" 3 ⟨"java/lang/Object", "<init>", "()V"⟩ ∈ LW := LW_i 66 (by decide +kernel) (by decide +kernel)
theorem l0_37 : .methodLink "ChannelSchedule$Input" 37 y0_putByte ∈ LW := LW_i 828 (by decide +kernel) (by decide +kernel)
theorem l0_41 : .methodLink "ChannelSchedule$Input" 41 y0_readToken ∈ LW := LW_i 308 (by decide +kernel) (by decide +kernel)
theorem l0_44 : .methodLink "ChannelSchedule$Input" 44 y0_kindOf ∈ LW := LW_i 312 (by decide +kernel) (by decide +kernel)
theorem l0_48 : .methodLink "ChannelSchedule$Input" 48 y0_readRun ∈ LW := LW_i 315 (by decide +kernel) (by decide +kernel)
theorem l0_51 : .methodLink "ChannelSchedule$Input" 51 ⟨"java/lang/String", "length", "()I"⟩ ∈ LW := LW_i 332 (by decide +kernel) (by decide +kernel)
theorem l0_56 : .methodLink "ChannelSchedule$Input" 56 ⟨"java/lang/String", "charAt", "(I)C"⟩ ∈ LW := LW_i 333 (by decide +kernel) (by decide +kernel)
theorem l0_60 : .methodLink "ChannelSchedule$Input" 60 y0_isWord ∈ LW := LW_i 328 (by decide +kernel) (by decide +kernel)
theorem l0_64 : .methodLink "ChannelSchedule$Input" 64 y0_fail ∈ LW := LW_i 334 (by decide +kernel) (by decide +kernel)
theorem l1_3 : .methodLink "ChannelSchedule$Plan" 3 ⟨"java/lang/Object", "<init>", "()V"⟩ ∈ LW := LW_i 184 (by decide +kernel) (by decide +kernel)
theorem l1_59 : .methodLink "ChannelSchedule$Plan" 59 y1_putBooking ∈ LW := LW_i 604 (by decide +kernel) (by decide +kernel)
theorem l1_63 : .methodLink "ChannelSchedule$Plan" 63 y1_putRequest ∈ LW := LW_i 608 (by decide +kernel) (by decide +kernel)
theorem l2_3 : .methodLink "ChannelSchedule$Script" 3 ⟨"java/lang/Object", "<init>", "()V"⟩ ∈ LW := LW_i 104 (by decide +kernel) (by decide +kernel)
theorem l3_3 : .methodLink "ChannelSchedule$Setup" 3 ⟨"java/lang/Object", "<init>", "()V"⟩ ∈ LW := LW_i 131 (by decide +kernel) (by decide +kernel)
theorem l3_30 : .methodLink "ChannelSchedule$Setup" 30 y4_init ∈ LW := LW_i 135 (by decide +kernel) (by decide +kernel)
theorem l3_31 : .methodLink "ChannelSchedule$Setup" 31 y4_hasName ∈ LW := LW_i 361 (by decide +kernel) (by decide +kernel)
theorem l4_3 : .methodLink "ChannelSchedule$Ship" 3 ⟨"java/lang/Object", "<init>", "()V"⟩ ∈ LW := LW_i 138 (by decide +kernel) (by decide +kernel)
theorem f5_10 : .fieldLink "ChannelSchedule" 10 "ChannelSchedule" "input" "LChannelSchedule$Input;" ∈ LW := LW_i 378 (by decide +kernel) (by decide +kernel)
theorem f5_19 : .fieldLink "ChannelSchedule" 19 "ChannelSchedule" "script" "LChannelSchedule$Script;" ∈ LW := LW_i 379 (by decide +kernel) (by decide +kernel)
theorem f5_26 : .fieldLink "ChannelSchedule" 26 "ChannelSchedule" "setup" "LChannelSchedule$Setup;" ∈ LW := LW_i 380 (by decide +kernel) (by decide +kernel)
theorem f5_30 : .fieldLink "ChannelSchedule" 30 "ChannelSchedule" "draft" "LChannelSchedule$Setup;" ∈ LW := LW_i 381 (by decide +kernel) (by decide +kernel)
theorem f5_36 : .fieldLink "ChannelSchedule" 36 "ChannelSchedule" "plan" "LChannelSchedule$Plan;" ∈ LW := LW_i 382 (by decide +kernel) (by decide +kernel)
theorem f5_40 : .fieldLink "ChannelSchedule" 40 "ChannelSchedule" "kept" "LChannelSchedule$Plan;" ∈ LW := LW_i 383 (by decide +kernel) (by decide +kernel)
theorem f5_43 : .fieldLink "ChannelSchedule" 43 "ChannelSchedule" "past" "[LChannelSchedule$Plan;" ∈ LW := LW_i 384 (by decide +kernel) (by decide +kernel)
theorem f5_47 : .fieldLink "ChannelSchedule" 47 "ChannelSchedule" "latestPast" "I" ∈ LW := LW_i 385 (by decide +kernel) (by decide +kernel)
theorem f5_51 : .fieldLink "ChannelSchedule" 51 "ChannelSchedule" "pastCount" "I" ∈ LW := LW_i 386 (by decide +kernel) (by decide +kernel)
theorem f5_54 : .fieldLink "ChannelSchedule" 54 "ChannelSchedule" "saved" "[LChannelSchedule$Plan;" ∈ LW := LW_i 387 (by decide +kernel) (by decide +kernel)
theorem f5_57 : .fieldLink "ChannelSchedule" 57 "ChannelSchedule" "isSaved" "[Z" ∈ LW := LW_i 388 (by decide +kernel) (by decide +kernel)
theorem f5_61 : .fieldLink "ChannelSchedule" 61 "ChannelSchedule" "excluded" "[I" ∈ LW := LW_i 389 (by decide +kernel) (by decide +kernel)
theorem f5_65 : .fieldLink "ChannelSchedule" 65 "ChannelSchedule" "output" "[B" ∈ LW := LW_i 390 (by decide +kernel) (by decide +kernel)
theorem f5_69 : .fieldLink "ChannelSchedule" 69 "ChannelSchedule" "outputLength" "I" ∈ LW := LW_i 391 (by decide +kernel) (by decide +kernel)
theorem f5_95 : .fieldLink "ChannelSchedule" 95 "ChannelSchedule$Input" "length" "I" ∈ LW := LW_i 70 (by decide +kernel) (by decide +kernel)
theorem f5_111 : .fieldLink "ChannelSchedule" 111 "ChannelSchedule$Setup" "shipCount" "I" ∈ LW := LW_i 165 (by decide +kernel) (by decide +kernel)
theorem f5_120 : .fieldLink "ChannelSchedule" 120 "ChannelSchedule$Setup" "headway" "I" ∈ LW := LW_i 159 (by decide +kernel) (by decide +kernel)
theorem f5_123 : .fieldLink "ChannelSchedule" 123 "ChannelSchedule$Setup" "clearance" "I" ∈ LW := LW_i 161 (by decide +kernel) (by decide +kernel)
theorem f5_126 : .fieldLink "ChannelSchedule" 126 "ChannelSchedule$Plan" "thickness" "I" ∈ LW := LW_i 186 (by decide +kernel) (by decide +kernel)
theorem f5_129 : .fieldLink "ChannelSchedule" 129 "ChannelSchedule$Plan" "minute" "I" ∈ LW := LW_i 188 (by decide +kernel) (by decide +kernel)
theorem f5_143 : .fieldLink "ChannelSchedule" 143 "ChannelSchedule$Setup" "ships" "[LChannelSchedule$Ship;" ∈ LW := LW_i 167 (by decide +kernel) (by decide +kernel)
theorem f5_147 : .fieldLink "ChannelSchedule" 147 "ChannelSchedule$Ship" "iceClass" "I" ∈ LW := LW_i 144 (by decide +kernel) (by decide +kernel)
theorem f5_152 : .fieldLink "ChannelSchedule" 152 "ChannelSchedule$Ship" "weight" "I" ∈ LW := LW_i 146 (by decide +kernel) (by decide +kernel)
theorem f5_165 : .fieldLink "ChannelSchedule" 165 "ChannelSchedule$Input" "bytes" "[B" ∈ LW := LW_i 68 (by decide +kernel) (by decide +kernel)
theorem f5_175 : .fieldLink "ChannelSchedule" 175 "ChannelSchedule$Plan" "bookings" "I" ∈ LW := LW_i 196 (by decide +kernel) (by decide +kernel)
theorem f5_181 : .fieldLink "ChannelSchedule" 181 "ChannelSchedule$Plan" "ships" "[I" ∈ LW := LW_i 198 (by decide +kernel) (by decide +kernel)
theorem f5_183 : .fieldLink "ChannelSchedule" 183 "ChannelSchedule$Plan" "starts" "[I" ∈ LW := LW_i 202 (by decide +kernel) (by decide +kernel)
theorem f5_186 : .fieldLink "ChannelSchedule" 186 "ChannelSchedule$Plan" "ends" "[I" ∈ LW := LW_i 204 (by decide +kernel) (by decide +kernel)
theorem f5_189 : .fieldLink "ChannelSchedule" 189 "ChannelSchedule$Plan" "inbound" "[Z" ∈ LW := LW_i 200 (by decide +kernel) (by decide +kernel)
theorem f5_231 : .fieldLink "ChannelSchedule" 231 "ChannelSchedule$Plan" "requests" "I" ∈ LW := LW_i 206 (by decide +kernel) (by decide +kernel)
theorem f5_237 : .fieldLink "ChannelSchedule" 237 "ChannelSchedule$Plan" "waitingShips" "[I" ∈ LW := LW_i 208 (by decide +kernel) (by decide +kernel)
theorem f5_240 : .fieldLink "ChannelSchedule" 240 "ChannelSchedule$Plan" "waitingInbound" "[Z" ∈ LW := LW_i 210 (by decide +kernel) (by decide +kernel)
theorem f5_243 : .fieldLink "ChannelSchedule" 243 "ChannelSchedule$Plan" "earliest" "[I" ∈ LW := LW_i 212 (by decide +kernel) (by decide +kernel)
theorem f5_246 : .fieldLink "ChannelSchedule" 246 "ChannelSchedule$Plan" "latest" "[I" ∈ LW := LW_i 214 (by decide +kernel) (by decide +kernel)
theorem f5_268 : .fieldLink "ChannelSchedule" 268 "ChannelSchedule$Plan" "made" "I" ∈ LW := LW_i 190 (by decide +kernel) (by decide +kernel)
theorem f5_271 : .fieldLink "ChannelSchedule" 271 "ChannelSchedule$Plan" "cancelled" "I" ∈ LW := LW_i 192 (by decide +kernel) (by decide +kernel)
theorem f5_274 : .fieldLink "ChannelSchedule" 274 "ChannelSchedule$Plan" "served" "I" ∈ LW := LW_i 194 (by decide +kernel) (by decide +kernel)
theorem f5_348 : .fieldLink "ChannelSchedule" 348 "ChannelSchedule$Ship" "time" "I" ∈ LW := LW_i 142 (by decide +kernel) (by decide +kernel)
theorem f5_385 : .fieldLink "ChannelSchedule" 385 "ChannelSchedule$Input" "kind" "I" ∈ LW := LW_i 74 (by decide +kernel) (by decide +kernel)
theorem f5_400 : .fieldLink "ChannelSchedule" 400 "ChannelSchedule$Input" "number" "I" ∈ LW := LW_i 80 (by decide +kernel) (by decide +kernel)
theorem f5_403 : .fieldLink "ChannelSchedule" 403 "ChannelSchedule$Setup" "thickness" "I" ∈ LW := LW_i 163 (by decide +kernel) (by decide +kernel)
theorem f5_419 : .fieldLink "ChannelSchedule" 419 "ChannelSchedule$Input" "at" "I" ∈ LW := LW_i 78 (by decide +kernel) (by decide +kernel)
theorem f5_422 : .fieldLink "ChannelSchedule" 422 "ChannelSchedule$Input" "tokenStart" "I" ∈ LW := LW_i 76 (by decide +kernel) (by decide +kernel)
theorem f0_9 : .fieldLink "ChannelSchedule$Input" 9 "ChannelSchedule$Input" "bytes" "[B" ∈ LW := LW_i 67 (by decide +kernel) (by decide +kernel)
theorem f0_15 : .fieldLink "ChannelSchedule$Input" 15 "ChannelSchedule$Input" "length" "I" ∈ LW := LW_i 69 (by decide +kernel) (by decide +kernel)
theorem f0_19 : .fieldLink "ChannelSchedule$Input" 19 "ChannelSchedule$Input" "errorCode" "I" ∈ LW := LW_i 71 (by decide +kernel) (by decide +kernel)
theorem f0_22 : .fieldLink "ChannelSchedule$Input" 22 "ChannelSchedule$Input" "errorPosition" "I" ∈ LW := LW_i 72 (by decide +kernel) (by decide +kernel)
theorem f0_25 : .fieldLink "ChannelSchedule$Input" 25 "ChannelSchedule$Input" "kind" "I" ∈ LW := LW_i 73 (by decide +kernel) (by decide +kernel)
theorem f0_28 : .fieldLink "ChannelSchedule$Input" 28 "ChannelSchedule$Input" "tokenStart" "I" ∈ LW := LW_i 75 (by decide +kernel) (by decide +kernel)
theorem f0_31 : .fieldLink "ChannelSchedule$Input" 31 "ChannelSchedule$Input" "at" "I" ∈ LW := LW_i 77 (by decide +kernel) (by decide +kernel)
theorem f0_34 : .fieldLink "ChannelSchedule$Input" 34 "ChannelSchedule$Input" "number" "I" ∈ LW := LW_i 79 (by decide +kernel) (by decide +kernel)
theorem f1_9 : .fieldLink "ChannelSchedule$Plan" 9 "ChannelSchedule$Plan" "thickness" "I" ∈ LW := LW_i 185 (by decide +kernel) (by decide +kernel)
theorem f1_15 : .fieldLink "ChannelSchedule$Plan" 15 "ChannelSchedule$Plan" "minute" "I" ∈ LW := LW_i 187 (by decide +kernel) (by decide +kernel)
theorem f1_18 : .fieldLink "ChannelSchedule$Plan" 18 "ChannelSchedule$Plan" "made" "I" ∈ LW := LW_i 189 (by decide +kernel) (by decide +kernel)
theorem f1_21 : .fieldLink "ChannelSchedule$Plan" 21 "ChannelSchedule$Plan" "cancelled" "I" ∈ LW := LW_i 191 (by decide +kernel) (by decide +kernel)
theorem f1_24 : .fieldLink "ChannelSchedule$Plan" 24 "ChannelSchedule$Plan" "served" "I" ∈ LW := LW_i 193 (by decide +kernel) (by decide +kernel)
theorem f1_27 : .fieldLink "ChannelSchedule$Plan" 27 "ChannelSchedule$Plan" "bookings" "I" ∈ LW := LW_i 195 (by decide +kernel) (by decide +kernel)
theorem f1_30 : .fieldLink "ChannelSchedule$Plan" 30 "ChannelSchedule$Plan" "ships" "[I" ∈ LW := LW_i 197 (by decide +kernel) (by decide +kernel)
theorem f1_34 : .fieldLink "ChannelSchedule$Plan" 34 "ChannelSchedule$Plan" "inbound" "[Z" ∈ LW := LW_i 199 (by decide +kernel) (by decide +kernel)
theorem f1_38 : .fieldLink "ChannelSchedule$Plan" 38 "ChannelSchedule$Plan" "starts" "[I" ∈ LW := LW_i 201 (by decide +kernel) (by decide +kernel)
theorem f1_41 : .fieldLink "ChannelSchedule$Plan" 41 "ChannelSchedule$Plan" "ends" "[I" ∈ LW := LW_i 203 (by decide +kernel) (by decide +kernel)
theorem f1_44 : .fieldLink "ChannelSchedule$Plan" 44 "ChannelSchedule$Plan" "requests" "I" ∈ LW := LW_i 205 (by decide +kernel) (by decide +kernel)
theorem f1_47 : .fieldLink "ChannelSchedule$Plan" 47 "ChannelSchedule$Plan" "waitingShips" "[I" ∈ LW := LW_i 207 (by decide +kernel) (by decide +kernel)
theorem f1_50 : .fieldLink "ChannelSchedule$Plan" 50 "ChannelSchedule$Plan" "waitingInbound" "[Z" ∈ LW := LW_i 209 (by decide +kernel) (by decide +kernel)
theorem f1_53 : .fieldLink "ChannelSchedule$Plan" 53 "ChannelSchedule$Plan" "earliest" "[I" ∈ LW := LW_i 211 (by decide +kernel) (by decide +kernel)
theorem f1_56 : .fieldLink "ChannelSchedule$Plan" 56 "ChannelSchedule$Plan" "latest" "[I" ∈ LW := LW_i 213 (by decide +kernel) (by decide +kernel)
theorem f2_9 : .fieldLink "ChannelSchedule$Script" 9 "ChannelSchedule$Script" "count" "I" ∈ LW := LW_i 105 (by decide +kernel) (by decide +kernel)
theorem f2_15 : .fieldLink "ChannelSchedule$Script" 15 "ChannelSchedule$Script" "verbs" "[I" ∈ LW := LW_i 106 (by decide +kernel) (by decide +kernel)
theorem f2_19 : .fieldLink "ChannelSchedule$Script" 19 "ChannelSchedule$Script" "ships" "[I" ∈ LW := LW_i 107 (by decide +kernel) (by decide +kernel)
theorem f2_22 : .fieldLink "ChannelSchedule$Script" 22 "ChannelSchedule$Script" "inbound" "[Z" ∈ LW := LW_i 108 (by decide +kernel) (by decide +kernel)
theorem f2_26 : .fieldLink "ChannelSchedule$Script" 26 "ChannelSchedule$Script" "firsts" "[I" ∈ LW := LW_i 109 (by decide +kernel) (by decide +kernel)
theorem f2_29 : .fieldLink "ChannelSchedule$Script" 29 "ChannelSchedule$Script" "seconds" "[I" ∈ LW := LW_i 110 (by decide +kernel) (by decide +kernel)
theorem f3_9 : .fieldLink "ChannelSchedule$Setup" 9 "ChannelSchedule$Setup" "headway" "I" ∈ LW := LW_i 158 (by decide +kernel) (by decide +kernel)
theorem f3_15 : .fieldLink "ChannelSchedule$Setup" 15 "ChannelSchedule$Setup" "clearance" "I" ∈ LW := LW_i 160 (by decide +kernel) (by decide +kernel)
theorem f3_18 : .fieldLink "ChannelSchedule$Setup" 18 "ChannelSchedule$Setup" "thickness" "I" ∈ LW := LW_i 162 (by decide +kernel) (by decide +kernel)
theorem f3_21 : .fieldLink "ChannelSchedule$Setup" 21 "ChannelSchedule$Setup" "shipCount" "I" ∈ LW := LW_i 164 (by decide +kernel) (by decide +kernel)
theorem f3_26 : .fieldLink "ChannelSchedule$Setup" 26 "ChannelSchedule$Setup" "ships" "[LChannelSchedule$Ship;" ∈ LW := LW_i 166 (by decide +kernel) (by decide +kernel)
theorem f4_9 : .fieldLink "ChannelSchedule$Ship" 9 "ChannelSchedule$Ship" "name" "[B" ∈ LW := LW_i 139 (by decide +kernel) (by decide +kernel)
theorem f4_15 : .fieldLink "ChannelSchedule$Ship" 15 "ChannelSchedule$Ship" "nameLength" "I" ∈ LW := LW_i 140 (by decide +kernel) (by decide +kernel)
theorem f4_19 : .fieldLink "ChannelSchedule$Ship" 19 "ChannelSchedule$Ship" "time" "I" ∈ LW := LW_i 141 (by decide +kernel) (by decide +kernel)
theorem f4_22 : .fieldLink "ChannelSchedule$Ship" 22 "ChannelSchedule$Ship" "iceClass" "I" ∈ LW := LW_i 143 (by decide +kernel) (by decide +kernel)
theorem f4_25 : .fieldLink "ChannelSchedule$Ship" 25 "ChannelSchedule$Ship" "weight" "I" ∈ LW := LW_i 145 (by decide +kernel) (by decide +kernel)
end
section
/-! names of the JDK methods that are reached -/
abbrev bJ5_init_a7421 : ByteArray := prog_10_method_3_code
def yJ5_init_a7421 : MethodName := ⟨"java/lang/AbstractStringBuilder", "<init>", "(Ljava/lang/String;)V"⟩
theorem wJ5_init_a7421 : YI yJ5_init_a7421 bJ5_init_a7421 5 1 := ⟨LW_i 839 (by decide +kernel) (by decide +kernel), LW_i 38 (by decide +kernel) (by decide +kernel), LW_i 840 (by decide +kernel) (by decide +kernel), by decide +kernel, by decide +kernel, rfl⟩
theorem dJ5_init_a7421_0 : decode bJ5_init_a7421 0 = .ok (.aload_n 0, 1) := by decide +kernel
theorem dJ5_init_a7421_1 : decode bJ5_init_a7421 1 = .ok (.invokespecial 3, 3) := by decide +kernel
theorem dJ5_init_a7421_4 : decode bJ5_init_a7421 4 = .ok (.aload_n 1, 1) := by decide +kernel
theorem dJ5_init_a7421_5 : decode bJ5_init_a7421 5 = .ok (.invokevirtual 32, 3) := by decide +kernel
theorem dJ5_init_a7421_8 : decode bJ5_init_a7421 8 = .ok (.istore_n 2, 1) := by decide +kernel
theorem dJ5_init_a7421_9 : decode bJ5_init_a7421 9 = .ok (.iload_n 2, 1) := by decide +kernel
theorem dJ5_init_a7421_10 : decode bJ5_init_a7421 10 = .ok (.ldc 38, 2) := by decide +kernel
theorem dJ5_init_a7421_12 : decode bJ5_init_a7421 12 = .ok (.if_icmp .ge 10, 3) := by decide +kernel
theorem dJ5_init_a7421_15 : decode bJ5_init_a7421 15 = .ok (.iload_n 2, 1) := by decide +kernel
theorem dJ5_init_a7421_16 : decode bJ5_init_a7421 16 = .ok (.bipush 16, 2) := by decide +kernel
theorem dJ5_init_a7421_18 : decode bJ5_init_a7421 18 = .ok (.iadd, 1) := by decide +kernel
theorem dJ5_init_a7421_19 : decode bJ5_init_a7421 19 = .ok (.goto 5, 3) := by decide +kernel
theorem dJ5_init_a7421_22 : decode bJ5_init_a7421 22 = .ok (.ldc 39, 2) := by decide +kernel
theorem dJ5_init_a7421_24 : decode bJ5_init_a7421 24 = .ok (.istore_n 3, 1) := by decide +kernel
theorem dJ5_init_a7421_25 : decode bJ5_init_a7421 25 = .ok (.aload_n 1, 1) := by decide +kernel
theorem dJ5_init_a7421_26 : decode bJ5_init_a7421 26 = .ok (.invokevirtual 40, 3) := by decide +kernel
theorem dJ5_init_a7421_29 : decode bJ5_init_a7421 29 = .ok (.istore 4, 2) := by decide +kernel
theorem dJ5_init_a7421_31 : decode bJ5_init_a7421 31 = .ok (.aload_n 0, 1) := by decide +kernel
theorem dJ5_init_a7421_32 : decode bJ5_init_a7421 32 = .ok (.iload 4, 2) := by decide +kernel
theorem dJ5_init_a7421_34 : decode bJ5_init_a7421 34 = .ok (.putfield 22, 3) := by decide +kernel
theorem dJ5_init_a7421_37 : decode bJ5_init_a7421 37 = .ok (.aload_n 0, 1) := by decide +kernel
theorem dJ5_init_a7421_38 : decode bJ5_init_a7421 38 = .ok (.iload 4, 2) := by decide +kernel
theorem dJ5_init_a7421_40 : decode bJ5_init_a7421 40 = .ok (.ifCond .ne 9, 3) := by decide +kernel
theorem dJ5_init_a7421_43 : decode bJ5_init_a7421 43 = .ok (.iload_n 3, 1) := by decide +kernel
theorem dJ5_init_a7421_44 : decode bJ5_init_a7421 44 = .ok (.newarray .byte, 2) := by decide +kernel
theorem dJ5_init_a7421_46 : decode bJ5_init_a7421 46 = .ok (.goto 7, 3) := by decide +kernel
theorem dJ5_init_a7421_49 : decode bJ5_init_a7421 49 = .ok (.iload_n 3, 1) := by decide +kernel
theorem dJ5_init_a7421_50 : decode bJ5_init_a7421 50 = .ok (.invokestatic 26, 3) := by decide +kernel
theorem dJ5_init_a7421_53 : decode bJ5_init_a7421 53 = .ok (.putfield 15, 3) := by decide +kernel
theorem dJ5_init_a7421_56 : decode bJ5_init_a7421 56 = .ok (.aload_n 0, 1) := by decide +kernel
theorem dJ5_init_a7421_57 : decode bJ5_init_a7421 57 = .ok (.aload_n 1, 1) := by decide +kernel
theorem dJ5_init_a7421_58 : decode bJ5_init_a7421 58 = .ok (.invokevirtual 43, 3) := by decide +kernel
theorem dJ5_init_a7421_61 : decode bJ5_init_a7421 61 = .ok (.pop, 1) := by decide +kernel
theorem dJ5_init_a7421_62 : decode bJ5_init_a7421 62 = .ok (.return_, 1) := by decide +kernel
abbrev bJ5_length_8abf5 : ByteArray := prog_10_method_6_code
def yJ5_length_8abf5 : MethodName := ⟨"java/lang/AbstractStringBuilder", "length", "()I"⟩
-- no words: J5_length_8abf5
theorem dJ5_length_8abf5_0 : decode bJ5_length_8abf5 0 = .ok (.aload_n 0, 1) := by decide +kernel
theorem dJ5_length_8abf5_1 : decode bJ5_length_8abf5 1 = .ok (.getfield 79, 3) := by decide +kernel
theorem dJ5_length_8abf5_4 : decode bJ5_length_8abf5 4 = .ok (.ireturn, 1) := by decide +kernel
abbrev bJ5_ensureCapacityInternal_d00df : ByteArray := prog_10_method_9_code
def yJ5_ensureCapacityInternal_d00df : MethodName := ⟨"java/lang/AbstractStringBuilder", "ensureCapacityInternal", "(I)V"⟩
-- no words: J5_ensureCapacityInternal_d00df
theorem dJ5_ensureCapacityInternal_d00df_0 : decode bJ5_ensureCapacityInternal_d00df 0 = .ok (.aload_n 0, 1) := by decide +kernel
theorem dJ5_ensureCapacityInternal_d00df_1 : decode bJ5_ensureCapacityInternal_d00df 1 = .ok (.getfield 15, 3) := by decide +kernel
theorem dJ5_ensureCapacityInternal_d00df_4 : decode bJ5_ensureCapacityInternal_d00df 4 = .ok (.arraylength, 1) := by decide +kernel
theorem dJ5_ensureCapacityInternal_d00df_5 : decode bJ5_ensureCapacityInternal_d00df 5 = .ok (.aload_n 0, 1) := by decide +kernel
theorem dJ5_ensureCapacityInternal_d00df_6 : decode bJ5_ensureCapacityInternal_d00df 6 = .ok (.getfield 22, 3) := by decide +kernel
theorem dJ5_ensureCapacityInternal_d00df_9 : decode bJ5_ensureCapacityInternal_d00df 9 = .ok (.ishr, 1) := by decide +kernel
theorem dJ5_ensureCapacityInternal_d00df_10 : decode bJ5_ensureCapacityInternal_d00df 10 = .ok (.istore_n 2, 1) := by decide +kernel
theorem dJ5_ensureCapacityInternal_d00df_11 : decode bJ5_ensureCapacityInternal_d00df 11 = .ok (.iload_n 1, 1) := by decide +kernel
theorem dJ5_ensureCapacityInternal_d00df_12 : decode bJ5_ensureCapacityInternal_d00df 12 = .ok (.iload_n 2, 1) := by decide +kernel
theorem dJ5_ensureCapacityInternal_d00df_13 : decode bJ5_ensureCapacityInternal_d00df 13 = .ok (.isub, 1) := by decide +kernel
theorem dJ5_ensureCapacityInternal_d00df_14 : decode bJ5_ensureCapacityInternal_d00df 14 = .ok (.ifCond .le 24, 3) := by decide +kernel
theorem dJ5_ensureCapacityInternal_d00df_17 : decode bJ5_ensureCapacityInternal_d00df 17 = .ok (.aload_n 0, 1) := by decide +kernel
theorem dJ5_ensureCapacityInternal_d00df_18 : decode bJ5_ensureCapacityInternal_d00df 18 = .ok (.aload_n 0, 1) := by decide +kernel
theorem dJ5_ensureCapacityInternal_d00df_19 : decode bJ5_ensureCapacityInternal_d00df 19 = .ok (.getfield 15, 3) := by decide +kernel
theorem dJ5_ensureCapacityInternal_d00df_22 : decode bJ5_ensureCapacityInternal_d00df 22 = .ok (.aload_n 0, 1) := by decide +kernel
theorem dJ5_ensureCapacityInternal_d00df_23 : decode bJ5_ensureCapacityInternal_d00df 23 = .ok (.iload_n 1, 1) := by decide +kernel
theorem dJ5_ensureCapacityInternal_d00df_24 : decode bJ5_ensureCapacityInternal_d00df 24 = .ok (.invokevirtual 104, 3) := by decide +kernel
theorem dJ5_ensureCapacityInternal_d00df_27 : decode bJ5_ensureCapacityInternal_d00df 27 = .ok (.aload_n 0, 1) := by decide +kernel
theorem dJ5_ensureCapacityInternal_d00df_28 : decode bJ5_ensureCapacityInternal_d00df 28 = .ok (.getfield 22, 3) := by decide +kernel
theorem dJ5_ensureCapacityInternal_d00df_31 : decode bJ5_ensureCapacityInternal_d00df 31 = .ok (.ishl, 1) := by decide +kernel
theorem dJ5_ensureCapacityInternal_d00df_32 : decode bJ5_ensureCapacityInternal_d00df 32 = .ok (.invokestatic 108, 3) := by decide +kernel
theorem dJ5_ensureCapacityInternal_d00df_35 : decode bJ5_ensureCapacityInternal_d00df 35 = .ok (.putfield 15, 3) := by decide +kernel
theorem dJ5_ensureCapacityInternal_d00df_38 : decode bJ5_ensureCapacityInternal_d00df 38 = .ok (.return_, 1) := by decide +kernel
abbrev bJ5_newCapacity_0f7a4 : ByteArray := prog_10_method_10_code
def yJ5_newCapacity_0f7a4 : MethodName := ⟨"java/lang/AbstractStringBuilder", "newCapacity", "(I)I"⟩
-- no words: J5_newCapacity_0f7a4
theorem dJ5_newCapacity_0f7a4_0 : decode bJ5_newCapacity_0f7a4 0 = .ok (.aload_n 0, 1) := by decide +kernel
theorem dJ5_newCapacity_0f7a4_1 : decode bJ5_newCapacity_0f7a4 1 = .ok (.getfield 15, 3) := by decide +kernel
theorem dJ5_newCapacity_0f7a4_4 : decode bJ5_newCapacity_0f7a4 4 = .ok (.arraylength, 1) := by decide +kernel
theorem dJ5_newCapacity_0f7a4_5 : decode bJ5_newCapacity_0f7a4 5 = .ok (.istore_n 2, 1) := by decide +kernel
theorem dJ5_newCapacity_0f7a4_6 : decode bJ5_newCapacity_0f7a4 6 = .ok (.iload_n 1, 1) := by decide +kernel
theorem dJ5_newCapacity_0f7a4_7 : decode bJ5_newCapacity_0f7a4 7 = .ok (.aload_n 0, 1) := by decide +kernel
theorem dJ5_newCapacity_0f7a4_8 : decode bJ5_newCapacity_0f7a4 8 = .ok (.getfield 22, 3) := by decide +kernel
theorem dJ5_newCapacity_0f7a4_11 : decode bJ5_newCapacity_0f7a4 11 = .ok (.ishl, 1) := by decide +kernel
theorem dJ5_newCapacity_0f7a4_12 : decode bJ5_newCapacity_0f7a4 12 = .ok (.istore_n 3, 1) := by decide +kernel
theorem dJ5_newCapacity_0f7a4_13 : decode bJ5_newCapacity_0f7a4 13 = .ok (.iload_n 3, 1) := by decide +kernel
theorem dJ5_newCapacity_0f7a4_14 : decode bJ5_newCapacity_0f7a4 14 = .ok (.iload_n 2, 1) := by decide +kernel
theorem dJ5_newCapacity_0f7a4_15 : decode bJ5_newCapacity_0f7a4 15 = .ok (.isub, 1) := by decide +kernel
theorem dJ5_newCapacity_0f7a4_16 : decode bJ5_newCapacity_0f7a4 16 = .ok (.istore 4, 2) := by decide +kernel
theorem dJ5_newCapacity_0f7a4_18 : decode bJ5_newCapacity_0f7a4 18 = .ok (.iload_n 2, 1) := by decide +kernel
theorem dJ5_newCapacity_0f7a4_19 : decode bJ5_newCapacity_0f7a4 19 = .ok (.iload 4, 2) := by decide +kernel
theorem dJ5_newCapacity_0f7a4_21 : decode bJ5_newCapacity_0f7a4 21 = .ok (.iload_n 2, 1) := by decide +kernel
theorem dJ5_newCapacity_0f7a4_22 : decode bJ5_newCapacity_0f7a4 22 = .ok (.iconst 2, 1) := by decide +kernel
theorem dJ5_newCapacity_0f7a4_23 : decode bJ5_newCapacity_0f7a4 23 = .ok (.aload_n 0, 1) := by decide +kernel
theorem dJ5_newCapacity_0f7a4_24 : decode bJ5_newCapacity_0f7a4 24 = .ok (.getfield 22, 3) := by decide +kernel
theorem dJ5_newCapacity_0f7a4_27 : decode bJ5_newCapacity_0f7a4 27 = .ok (.ishl, 1) := by decide +kernel
theorem dJ5_newCapacity_0f7a4_28 : decode bJ5_newCapacity_0f7a4 28 = .ok (.iadd, 1) := by decide +kernel
theorem dJ5_newCapacity_0f7a4_29 : decode bJ5_newCapacity_0f7a4 29 = .ok (.invokestatic 114, 3) := by decide +kernel
theorem dJ5_newCapacity_0f7a4_32 : decode bJ5_newCapacity_0f7a4 32 = .ok (.istore 5, 2) := by decide +kernel
theorem dJ5_newCapacity_0f7a4_34 : decode bJ5_newCapacity_0f7a4 34 = .ok (.iload 5, 2) := by decide +kernel
theorem dJ5_newCapacity_0f7a4_36 : decode bJ5_newCapacity_0f7a4 36 = .ok (.ldc 39, 2) := by decide +kernel
theorem dJ5_newCapacity_0f7a4_38 : decode bJ5_newCapacity_0f7a4 38 = .ok (.if_icmp .ne 13, 3) := by decide +kernel
theorem dJ5_newCapacity_0f7a4_41 : decode bJ5_newCapacity_0f7a4 41 = .ok (.new 120, 3) := by decide +kernel
theorem dJ5_newCapacity_0f7a4_44 : decode bJ5_newCapacity_0f7a4 44 = .ok (.dup, 1) := by decide +kernel
theorem dJ5_newCapacity_0f7a4_45 : decode bJ5_newCapacity_0f7a4 45 = .ok (.ldc 122, 2) := by decide +kernel
theorem dJ5_newCapacity_0f7a4_47 : decode bJ5_newCapacity_0f7a4 47 = .ok (.invokespecial 124, 3) := by decide +kernel
theorem dJ5_newCapacity_0f7a4_50 : decode bJ5_newCapacity_0f7a4 50 = .ok (.athrow, 1) := by decide +kernel
theorem dJ5_newCapacity_0f7a4_51 : decode bJ5_newCapacity_0f7a4 51 = .ok (.iload 5, 2) := by decide +kernel
theorem dJ5_newCapacity_0f7a4_53 : decode bJ5_newCapacity_0f7a4 53 = .ok (.aload_n 0, 1) := by decide +kernel
theorem dJ5_newCapacity_0f7a4_54 : decode bJ5_newCapacity_0f7a4 54 = .ok (.getfield 22, 3) := by decide +kernel
theorem dJ5_newCapacity_0f7a4_57 : decode bJ5_newCapacity_0f7a4 57 = .ok (.ishr, 1) := by decide +kernel
theorem dJ5_newCapacity_0f7a4_58 : decode bJ5_newCapacity_0f7a4 58 = .ok (.ireturn, 1) := by decide +kernel
abbrev bJ5_append_cf1ce : ByteArray := prog_10_method_22_code
def yJ5_append_cf1ce : MethodName := ⟨"java/lang/AbstractStringBuilder", "append", "(Ljava/lang/String;)Ljava/lang/AbstractStringBuilder;"⟩
-- no words: J5_append_cf1ce
theorem dJ5_append_cf1ce_0 : decode bJ5_append_cf1ce 0 = .ok (.aload_n 1, 1) := by decide +kernel
theorem dJ5_append_cf1ce_1 : decode bJ5_append_cf1ce 1 = .ok (.ifnonnull 8, 3) := by decide +kernel
theorem dJ5_append_cf1ce_4 : decode bJ5_append_cf1ce 4 = .ok (.aload_n 0, 1) := by decide +kernel
theorem dJ5_append_cf1ce_5 : decode bJ5_append_cf1ce 5 = .ok (.invokevirtual 204, 3) := by decide +kernel
theorem dJ5_append_cf1ce_8 : decode bJ5_append_cf1ce 8 = .ok (.areturn, 1) := by decide +kernel
theorem dJ5_append_cf1ce_9 : decode bJ5_append_cf1ce 9 = .ok (.aload_n 1, 1) := by decide +kernel
theorem dJ5_append_cf1ce_10 : decode bJ5_append_cf1ce 10 = .ok (.invokevirtual 32, 3) := by decide +kernel
theorem dJ5_append_cf1ce_13 : decode bJ5_append_cf1ce 13 = .ok (.istore_n 2, 1) := by decide +kernel
theorem dJ5_append_cf1ce_14 : decode bJ5_append_cf1ce 14 = .ok (.aload_n 0, 1) := by decide +kernel
theorem dJ5_append_cf1ce_15 : decode bJ5_append_cf1ce 15 = .ok (.aload_n 0, 1) := by decide +kernel
theorem dJ5_append_cf1ce_16 : decode bJ5_append_cf1ce 16 = .ok (.getfield 79, 3) := by decide +kernel
theorem dJ5_append_cf1ce_19 : decode bJ5_append_cf1ce 19 = .ok (.iload_n 2, 1) := by decide +kernel
theorem dJ5_append_cf1ce_20 : decode bJ5_append_cf1ce 20 = .ok (.iadd, 1) := by decide +kernel
theorem dJ5_append_cf1ce_21 : decode bJ5_append_cf1ce 21 = .ok (.invokevirtual 100, 3) := by decide +kernel
theorem dJ5_append_cf1ce_24 : decode bJ5_append_cf1ce 24 = .ok (.aload_n 0, 1) := by decide +kernel
theorem dJ5_append_cf1ce_25 : decode bJ5_append_cf1ce 25 = .ok (.aload_n 0, 1) := by decide +kernel
theorem dJ5_append_cf1ce_26 : decode bJ5_append_cf1ce 26 = .ok (.getfield 79, 3) := by decide +kernel
theorem dJ5_append_cf1ce_29 : decode bJ5_append_cf1ce 29 = .ok (.aload_n 1, 1) := by decide +kernel
theorem dJ5_append_cf1ce_30 : decode bJ5_append_cf1ce 30 = .ok (.invokevirtual 208, 3) := by decide +kernel
theorem dJ5_append_cf1ce_33 : decode bJ5_append_cf1ce 33 = .ok (.aload_n 0, 1) := by decide +kernel
theorem dJ5_append_cf1ce_34 : decode bJ5_append_cf1ce 34 = .ok (.dup, 1) := by decide +kernel
theorem dJ5_append_cf1ce_35 : decode bJ5_append_cf1ce 35 = .ok (.getfield 79, 3) := by decide +kernel
theorem dJ5_append_cf1ce_38 : decode bJ5_append_cf1ce 38 = .ok (.iload_n 2, 1) := by decide +kernel
theorem dJ5_append_cf1ce_39 : decode bJ5_append_cf1ce 39 = .ok (.iadd, 1) := by decide +kernel
theorem dJ5_append_cf1ce_40 : decode bJ5_append_cf1ce 40 = .ok (.putfield 79, 3) := by decide +kernel
theorem dJ5_append_cf1ce_43 : decode bJ5_append_cf1ce 43 = .ok (.aload_n 0, 1) := by decide +kernel
theorem dJ5_append_cf1ce_44 : decode bJ5_append_cf1ce 44 = .ok (.areturn, 1) := by decide +kernel
abbrev bJ5_append_3fe6f : ByteArray := prog_10_method_31_code
def yJ5_append_3fe6f : MethodName := ⟨"java/lang/AbstractStringBuilder", "append", "(C)Ljava/lang/AbstractStringBuilder;"⟩
-- no words: J5_append_3fe6f
theorem dJ5_append_3fe6f_0 : decode bJ5_append_3fe6f 0 = .ok (.aload_n 0, 1) := by decide +kernel
theorem dJ5_append_3fe6f_1 : decode bJ5_append_3fe6f 1 = .ok (.aload_n 0, 1) := by decide +kernel
theorem dJ5_append_3fe6f_2 : decode bJ5_append_3fe6f 2 = .ok (.getfield 79, 3) := by decide +kernel
theorem dJ5_append_3fe6f_5 : decode bJ5_append_3fe6f 5 = .ok (.iconst 1, 1) := by decide +kernel
theorem dJ5_append_3fe6f_6 : decode bJ5_append_3fe6f 6 = .ok (.iadd, 1) := by decide +kernel
theorem dJ5_append_3fe6f_7 : decode bJ5_append_3fe6f 7 = .ok (.invokevirtual 100, 3) := by decide +kernel
theorem dJ5_append_3fe6f_10 : decode bJ5_append_3fe6f 10 = .ok (.aload_n 0, 1) := by decide +kernel
theorem dJ5_append_3fe6f_11 : decode bJ5_append_3fe6f 11 = .ok (.invokevirtual 83, 3) := by decide +kernel
theorem dJ5_append_3fe6f_14 : decode bJ5_append_3fe6f 14 = .ok (.ifCond .eq 31, 3) := by decide +kernel
theorem dJ5_append_3fe6f_17 : decode bJ5_append_3fe6f 17 = .ok (.iload_n 1, 1) := by decide +kernel
theorem dJ5_append_3fe6f_18 : decode bJ5_append_3fe6f 18 = .ok (.invokestatic 191, 3) := by decide +kernel
theorem dJ5_append_3fe6f_21 : decode bJ5_append_3fe6f 21 = .ok (.ifCond .eq 24, 3) := by decide +kernel
theorem dJ5_append_3fe6f_24 : decode bJ5_append_3fe6f 24 = .ok (.aload_n 0, 1) := by decide +kernel
theorem dJ5_append_3fe6f_25 : decode bJ5_append_3fe6f 25 = .ok (.getfield 15, 3) := by decide +kernel
theorem dJ5_append_3fe6f_28 : decode bJ5_append_3fe6f 28 = .ok (.aload_n 0, 1) := by decide +kernel
theorem dJ5_append_3fe6f_29 : decode bJ5_append_3fe6f 29 = .ok (.dup, 1) := by decide +kernel
theorem dJ5_append_3fe6f_30 : decode bJ5_append_3fe6f 30 = .ok (.getfield 79, 3) := by decide +kernel
theorem dJ5_append_3fe6f_33 : decode bJ5_append_3fe6f 33 = .ok (.dup_x1, 1) := by decide +kernel
theorem dJ5_append_3fe6f_34 : decode bJ5_append_3fe6f 34 = .ok (.iconst 1, 1) := by decide +kernel
theorem dJ5_append_3fe6f_35 : decode bJ5_append_3fe6f 35 = .ok (.iadd, 1) := by decide +kernel
theorem dJ5_append_3fe6f_36 : decode bJ5_append_3fe6f 36 = .ok (.putfield 79, 3) := by decide +kernel
theorem dJ5_append_3fe6f_39 : decode bJ5_append_3fe6f 39 = .ok (.iload_n 1, 1) := by decide +kernel
theorem dJ5_append_3fe6f_40 : decode bJ5_append_3fe6f 40 = .ok (.i2b, 1) := by decide +kernel
theorem dJ5_append_3fe6f_41 : decode bJ5_append_3fe6f 41 = .ok (.bastore, 1) := by decide +kernel
theorem dJ5_append_3fe6f_42 : decode bJ5_append_3fe6f 42 = .ok (.goto 33, 3) := by decide +kernel
theorem dJ5_append_3fe6f_45 : decode bJ5_append_3fe6f 45 = .ok (.aload_n 0, 1) := by decide +kernel
theorem dJ5_append_3fe6f_46 : decode bJ5_append_3fe6f 46 = .ok (.invokevirtual 83, 3) := by decide +kernel
theorem dJ5_append_3fe6f_49 : decode bJ5_append_3fe6f 49 = .ok (.ifCond .eq 7, 3) := by decide +kernel
theorem dJ5_append_3fe6f_52 : decode bJ5_append_3fe6f 52 = .ok (.aload_n 0, 1) := by decide +kernel
theorem dJ5_append_3fe6f_53 : decode bJ5_append_3fe6f 53 = .ok (.invokevirtual 195, 3) := by decide +kernel
theorem dJ5_append_3fe6f_56 : decode bJ5_append_3fe6f 56 = .ok (.aload_n 0, 1) := by decide +kernel
theorem dJ5_append_3fe6f_57 : decode bJ5_append_3fe6f 57 = .ok (.getfield 15, 3) := by decide +kernel
theorem dJ5_append_3fe6f_60 : decode bJ5_append_3fe6f 60 = .ok (.aload_n 0, 1) := by decide +kernel
theorem dJ5_append_3fe6f_61 : decode bJ5_append_3fe6f 61 = .ok (.dup, 1) := by decide +kernel
theorem dJ5_append_3fe6f_62 : decode bJ5_append_3fe6f 62 = .ok (.getfield 79, 3) := by decide +kernel
theorem dJ5_append_3fe6f_65 : decode bJ5_append_3fe6f 65 = .ok (.dup_x1, 1) := by decide +kernel
theorem dJ5_append_3fe6f_66 : decode bJ5_append_3fe6f 66 = .ok (.iconst 1, 1) := by decide +kernel
theorem dJ5_append_3fe6f_67 : decode bJ5_append_3fe6f 67 = .ok (.iadd, 1) := by decide +kernel
theorem dJ5_append_3fe6f_68 : decode bJ5_append_3fe6f 68 = .ok (.putfield 79, 3) := by decide +kernel
theorem dJ5_append_3fe6f_71 : decode bJ5_append_3fe6f 71 = .ok (.iload_n 1, 1) := by decide +kernel
theorem dJ5_append_3fe6f_72 : decode bJ5_append_3fe6f 72 = .ok (.invokestatic 197, 3) := by decide +kernel
theorem dJ5_append_3fe6f_75 : decode bJ5_append_3fe6f 75 = .ok (.aload_n 0, 1) := by decide +kernel
theorem dJ5_append_3fe6f_76 : decode bJ5_append_3fe6f 76 = .ok (.areturn, 1) := by decide +kernel
abbrev bJ5_append_c97b9 : ByteArray := prog_10_method_32_code
def yJ5_append_c97b9 : MethodName := ⟨"java/lang/AbstractStringBuilder", "append", "(I)Ljava/lang/AbstractStringBuilder;"⟩
-- no words: J5_append_c97b9
theorem dJ5_append_c97b9_0 : decode bJ5_append_c97b9 0 = .ok (.aload_n 0, 1) := by decide +kernel
theorem dJ5_append_c97b9_1 : decode bJ5_append_c97b9 1 = .ok (.getfield 79, 3) := by decide +kernel
theorem dJ5_append_c97b9_4 : decode bJ5_append_c97b9 4 = .ok (.istore_n 2, 1) := by decide +kernel
theorem dJ5_append_c97b9_5 : decode bJ5_append_c97b9 5 = .ok (.iload_n 2, 1) := by decide +kernel
theorem dJ5_append_c97b9_6 : decode bJ5_append_c97b9 6 = .ok (.iload_n 1, 1) := by decide +kernel
theorem dJ5_append_c97b9_7 : decode bJ5_append_c97b9 7 = .ok (.invokestatic 245, 3) := by decide +kernel
theorem dJ5_append_c97b9_10 : decode bJ5_append_c97b9 10 = .ok (.iadd, 1) := by decide +kernel
theorem dJ5_append_c97b9_11 : decode bJ5_append_c97b9 11 = .ok (.istore_n 3, 1) := by decide +kernel
theorem dJ5_append_c97b9_12 : decode bJ5_append_c97b9 12 = .ok (.aload_n 0, 1) := by decide +kernel
theorem dJ5_append_c97b9_13 : decode bJ5_append_c97b9 13 = .ok (.iload_n 3, 1) := by decide +kernel
theorem dJ5_append_c97b9_14 : decode bJ5_append_c97b9 14 = .ok (.invokevirtual 100, 3) := by decide +kernel
theorem dJ5_append_c97b9_17 : decode bJ5_append_c97b9 17 = .ok (.aload_n 0, 1) := by decide +kernel
theorem dJ5_append_c97b9_18 : decode bJ5_append_c97b9 18 = .ok (.invokevirtual 83, 3) := by decide +kernel
theorem dJ5_append_c97b9_21 : decode bJ5_append_c97b9 21 = .ok (.ifCond .eq 16, 3) := by decide +kernel
theorem dJ5_append_c97b9_24 : decode bJ5_append_c97b9 24 = .ok (.iload_n 1, 1) := by decide +kernel
theorem dJ5_append_c97b9_25 : decode bJ5_append_c97b9 25 = .ok (.iload_n 3, 1) := by decide +kernel
theorem dJ5_append_c97b9_26 : decode bJ5_append_c97b9 26 = .ok (.aload_n 0, 1) := by decide +kernel
theorem dJ5_append_c97b9_27 : decode bJ5_append_c97b9 27 = .ok (.getfield 15, 3) := by decide +kernel
theorem dJ5_append_c97b9_30 : decode bJ5_append_c97b9 30 = .ok (.invokestatic 248, 3) := by decide +kernel
theorem dJ5_append_c97b9_33 : decode bJ5_append_c97b9 33 = .ok (.pop, 1) := by decide +kernel
theorem dJ5_append_c97b9_34 : decode bJ5_append_c97b9 34 = .ok (.goto 14, 3) := by decide +kernel
theorem dJ5_append_c97b9_37 : decode bJ5_append_c97b9 37 = .ok (.iload_n 1, 1) := by decide +kernel
theorem dJ5_append_c97b9_38 : decode bJ5_append_c97b9 38 = .ok (.iload_n 2, 1) := by decide +kernel
theorem dJ5_append_c97b9_39 : decode bJ5_append_c97b9 39 = .ok (.iload_n 3, 1) := by decide +kernel
theorem dJ5_append_c97b9_40 : decode bJ5_append_c97b9 40 = .ok (.aload_n 0, 1) := by decide +kernel
theorem dJ5_append_c97b9_41 : decode bJ5_append_c97b9 41 = .ok (.getfield 15, 3) := by decide +kernel
theorem dJ5_append_c97b9_44 : decode bJ5_append_c97b9 44 = .ok (.invokestatic 251, 3) := by decide +kernel
theorem dJ5_append_c97b9_47 : decode bJ5_append_c97b9 47 = .ok (.pop, 1) := by decide +kernel
theorem dJ5_append_c97b9_48 : decode bJ5_append_c97b9 48 = .ok (.aload_n 0, 1) := by decide +kernel
theorem dJ5_append_c97b9_49 : decode bJ5_append_c97b9 49 = .ok (.iload_n 3, 1) := by decide +kernel
theorem dJ5_append_c97b9_50 : decode bJ5_append_c97b9 50 = .ok (.putfield 79, 3) := by decide +kernel
theorem dJ5_append_c97b9_53 : decode bJ5_append_c97b9 53 = .ok (.aload_n 0, 1) := by decide +kernel
theorem dJ5_append_c97b9_54 : decode bJ5_append_c97b9 54 = .ok (.areturn, 1) := by decide +kernel
abbrev bJ5_getValue_6d5f1 : ByteArray := prog_10_method_64_code
def yJ5_getValue_6d5f1 : MethodName := ⟨"java/lang/AbstractStringBuilder", "getValue", "()[B"⟩
-- no words: J5_getValue_6d5f1
theorem dJ5_getValue_6d5f1_0 : decode bJ5_getValue_6d5f1 0 = .ok (.aload_n 0, 1) := by decide +kernel
theorem dJ5_getValue_6d5f1_1 : decode bJ5_getValue_6d5f1 1 = .ok (.getfield 15, 3) := by decide +kernel
theorem dJ5_getValue_6d5f1_4 : decode bJ5_getValue_6d5f1 4 = .ok (.areturn, 1) := by decide +kernel
abbrev bJ5_isLatin1_aae02 : ByteArray := prog_10_method_68_code
def yJ5_isLatin1_aae02 : MethodName := ⟨"java/lang/AbstractStringBuilder", "isLatin1", "()Z"⟩
-- no words: J5_isLatin1_aae02
theorem dJ5_isLatin1_aae02_0 : decode bJ5_isLatin1_aae02 0 = .ok (.getstatic 18, 3) := by decide +kernel
theorem dJ5_isLatin1_aae02_3 : decode bJ5_isLatin1_aae02 3 = .ok (.ifCond .eq 14, 3) := by decide +kernel
theorem dJ5_isLatin1_aae02_6 : decode bJ5_isLatin1_aae02 6 = .ok (.aload_n 0, 1) := by decide +kernel
theorem dJ5_isLatin1_aae02_7 : decode bJ5_isLatin1_aae02 7 = .ok (.getfield 22, 3) := by decide +kernel
theorem dJ5_isLatin1_aae02_10 : decode bJ5_isLatin1_aae02 10 = .ok (.ifCond .ne 7, 3) := by decide +kernel
theorem dJ5_isLatin1_aae02_13 : decode bJ5_isLatin1_aae02 13 = .ok (.iconst 1, 1) := by decide +kernel
theorem dJ5_isLatin1_aae02_14 : decode bJ5_isLatin1_aae02 14 = .ok (.goto 4, 3) := by decide +kernel
theorem dJ5_isLatin1_aae02_17 : decode bJ5_isLatin1_aae02 17 = .ok (.iconst 0, 1) := by decide +kernel
theorem dJ5_isLatin1_aae02_18 : decode bJ5_isLatin1_aae02 18 = .ok (.ireturn, 1) := by decide +kernel
abbrev bJ5_inflateIfNeededFor_a7421 : ByteArray := prog_10_method_71_code
def yJ5_inflateIfNeededFor_a7421 : MethodName := ⟨"java/lang/AbstractStringBuilder", "inflateIfNeededFor", "(Ljava/lang/String;)V"⟩
-- no words: J5_inflateIfNeededFor_a7421
theorem dJ5_inflateIfNeededFor_a7421_0 : decode bJ5_inflateIfNeededFor_a7421 0 = .ok (.getstatic 18, 3) := by decide +kernel
theorem dJ5_inflateIfNeededFor_a7421_3 : decode bJ5_inflateIfNeededFor_a7421 3 = .ok (.ifCond .eq 18, 3) := by decide +kernel
theorem dJ5_inflateIfNeededFor_a7421_6 : decode bJ5_inflateIfNeededFor_a7421 6 = .ok (.aload_n 0, 1) := by decide +kernel
theorem dJ5_inflateIfNeededFor_a7421_7 : decode bJ5_inflateIfNeededFor_a7421 7 = .ok (.getfield 22, 3) := by decide +kernel
theorem dJ5_inflateIfNeededFor_a7421_10 : decode bJ5_inflateIfNeededFor_a7421 10 = .ok (.aload_n 1, 1) := by decide +kernel
theorem dJ5_inflateIfNeededFor_a7421_11 : decode bJ5_inflateIfNeededFor_a7421 11 = .ok (.invokevirtual 40, 3) := by decide +kernel
theorem dJ5_inflateIfNeededFor_a7421_14 : decode bJ5_inflateIfNeededFor_a7421 14 = .ok (.if_icmp .eq 7, 3) := by decide +kernel
theorem dJ5_inflateIfNeededFor_a7421_17 : decode bJ5_inflateIfNeededFor_a7421 17 = .ok (.aload_n 0, 1) := by decide +kernel
theorem dJ5_inflateIfNeededFor_a7421_18 : decode bJ5_inflateIfNeededFor_a7421 18 = .ok (.invokevirtual 195, 3) := by decide +kernel
theorem dJ5_inflateIfNeededFor_a7421_21 : decode bJ5_inflateIfNeededFor_a7421 21 = .ok (.return_, 1) := by decide +kernel
abbrev bJ5_putStringAt_47b60 : ByteArray := prog_10_method_73_code
def yJ5_putStringAt_47b60 : MethodName := ⟨"java/lang/AbstractStringBuilder", "putStringAt", "(ILjava/lang/String;)V"⟩
-- no words: J5_putStringAt_47b60
theorem dJ5_putStringAt_47b60_0 : decode bJ5_putStringAt_47b60 0 = .ok (.aload_n 0, 1) := by decide +kernel
theorem dJ5_putStringAt_47b60_1 : decode bJ5_putStringAt_47b60 1 = .ok (.aload_n 2, 1) := by decide +kernel
theorem dJ5_putStringAt_47b60_2 : decode bJ5_putStringAt_47b60 2 = .ok (.invokevirtual 397, 3) := by decide +kernel
theorem dJ5_putStringAt_47b60_5 : decode bJ5_putStringAt_47b60 5 = .ok (.aload_n 2, 1) := by decide +kernel
theorem dJ5_putStringAt_47b60_6 : decode bJ5_putStringAt_47b60 6 = .ok (.aload_n 0, 1) := by decide +kernel
theorem dJ5_putStringAt_47b60_7 : decode bJ5_putStringAt_47b60 7 = .ok (.getfield 15, 3) := by decide +kernel
theorem dJ5_putStringAt_47b60_10 : decode bJ5_putStringAt_47b60 10 = .ok (.iload_n 1, 1) := by decide +kernel
theorem dJ5_putStringAt_47b60_11 : decode bJ5_putStringAt_47b60 11 = .ok (.aload_n 0, 1) := by decide +kernel
theorem dJ5_putStringAt_47b60_12 : decode bJ5_putStringAt_47b60 12 = .ok (.getfield 22, 3) := by decide +kernel
theorem dJ5_putStringAt_47b60_15 : decode bJ5_putStringAt_47b60 15 = .ok (.invokevirtual 399, 3) := by decide +kernel
theorem dJ5_putStringAt_47b60_18 : decode bJ5_putStringAt_47b60 18 = .ok (.return_, 1) := by decide +kernel
abbrev bJ6_getChars_ba4f3 : ByteArray := prog_16_method_12_code
def yJ6_getChars_ba4f3 : MethodName := ⟨"java/lang/Integer", "getChars", "(II[B)I"⟩
theorem wJ6_getChars_ba4f3 : YS yJ6_getChars_ba4f3 bJ6_getChars_ba4f3 7 (some .int) 3 := ⟨LW_i 981 (by decide +kernel) (by decide +kernel), LW_i 45 (by decide +kernel) (by decide +kernel), LW_i 982 (by decide +kernel) (by decide +kernel), by decide +kernel, by decide +kernel⟩
theorem dJ6_getChars_ba4f3_0 : decode bJ6_getChars_ba4f3 0 = .ok (.iload_n 1, 1) := by decide +kernel
theorem dJ6_getChars_ba4f3_1 : decode bJ6_getChars_ba4f3 1 = .ok (.istore 5, 2) := by decide +kernel
theorem dJ6_getChars_ba4f3_3 : decode bJ6_getChars_ba4f3 3 = .ok (.iload_n 0, 1) := by decide +kernel
theorem dJ6_getChars_ba4f3_4 : decode bJ6_getChars_ba4f3 4 = .ok (.ifCond .ge 7, 3) := by decide +kernel
theorem dJ6_getChars_ba4f3_7 : decode bJ6_getChars_ba4f3 7 = .ok (.iconst 1, 1) := by decide +kernel
theorem dJ6_getChars_ba4f3_8 : decode bJ6_getChars_ba4f3 8 = .ok (.goto 4, 3) := by decide +kernel
theorem dJ6_getChars_ba4f3_11 : decode bJ6_getChars_ba4f3 11 = .ok (.iconst 0, 1) := by decide +kernel
theorem dJ6_getChars_ba4f3_12 : decode bJ6_getChars_ba4f3 12 = .ok (.istore 6, 2) := by decide +kernel
theorem dJ6_getChars_ba4f3_14 : decode bJ6_getChars_ba4f3 14 = .ok (.iload 6, 2) := by decide +kernel
theorem dJ6_getChars_ba4f3_16 : decode bJ6_getChars_ba4f3 16 = .ok (.ifCond .ne 6, 3) := by decide +kernel
theorem dJ6_getChars_ba4f3_19 : decode bJ6_getChars_ba4f3 19 = .ok (.iload_n 0, 1) := by decide +kernel
theorem dJ6_getChars_ba4f3_20 : decode bJ6_getChars_ba4f3 20 = .ok (.ineg, 1) := by decide +kernel
theorem dJ6_getChars_ba4f3_21 : decode bJ6_getChars_ba4f3 21 = .ok (.istore_n 0, 1) := by decide +kernel
theorem dJ6_getChars_ba4f3_22 : decode bJ6_getChars_ba4f3 22 = .ok (.iload_n 0, 1) := by decide +kernel
theorem dJ6_getChars_ba4f3_23 : decode bJ6_getChars_ba4f3 23 = .ok (.bipush (-100), 2) := by decide +kernel
theorem dJ6_getChars_ba4f3_25 : decode bJ6_getChars_ba4f3 25 = .ok (.if_icmp .gt 47, 3) := by decide +kernel
theorem dJ6_getChars_ba4f3_28 : decode bJ6_getChars_ba4f3 28 = .ok (.iload_n 0, 1) := by decide +kernel
theorem dJ6_getChars_ba4f3_29 : decode bJ6_getChars_ba4f3 29 = .ok (.bipush 100, 2) := by decide +kernel
theorem dJ6_getChars_ba4f3_31 : decode bJ6_getChars_ba4f3 31 = .ok (.idiv, 1) := by decide +kernel
theorem dJ6_getChars_ba4f3_32 : decode bJ6_getChars_ba4f3 32 = .ok (.istore_n 3, 1) := by decide +kernel
theorem dJ6_getChars_ba4f3_33 : decode bJ6_getChars_ba4f3 33 = .ok (.iload_n 3, 1) := by decide +kernel
theorem dJ6_getChars_ba4f3_34 : decode bJ6_getChars_ba4f3 34 = .ok (.bipush 100, 2) := by decide +kernel
theorem dJ6_getChars_ba4f3_36 : decode bJ6_getChars_ba4f3 36 = .ok (.imul, 1) := by decide +kernel
theorem dJ6_getChars_ba4f3_37 : decode bJ6_getChars_ba4f3 37 = .ok (.iload_n 0, 1) := by decide +kernel
theorem dJ6_getChars_ba4f3_38 : decode bJ6_getChars_ba4f3 38 = .ok (.isub, 1) := by decide +kernel
theorem dJ6_getChars_ba4f3_39 : decode bJ6_getChars_ba4f3 39 = .ok (.istore 4, 2) := by decide +kernel
theorem dJ6_getChars_ba4f3_41 : decode bJ6_getChars_ba4f3 41 = .ok (.iload_n 3, 1) := by decide +kernel
theorem dJ6_getChars_ba4f3_42 : decode bJ6_getChars_ba4f3 42 = .ok (.istore_n 0, 1) := by decide +kernel
theorem dJ6_getChars_ba4f3_43 : decode bJ6_getChars_ba4f3 43 = .ok (.aload_n 2, 1) := by decide +kernel
theorem dJ6_getChars_ba4f3_44 : decode bJ6_getChars_ba4f3 44 = .ok (.iinc 5 (-1), 3) := by decide +kernel
theorem dJ6_getChars_ba4f3_47 : decode bJ6_getChars_ba4f3 47 = .ok (.iload 5, 2) := by decide +kernel
theorem dJ6_getChars_ba4f3_49 : decode bJ6_getChars_ba4f3 49 = .ok (.getstatic 83, 3) := by decide +kernel
theorem dJ6_getChars_ba4f3_52 : decode bJ6_getChars_ba4f3 52 = .ok (.iload 4, 2) := by decide +kernel
theorem dJ6_getChars_ba4f3_54 : decode bJ6_getChars_ba4f3 54 = .ok (.baload, 1) := by decide +kernel
theorem dJ6_getChars_ba4f3_55 : decode bJ6_getChars_ba4f3 55 = .ok (.bastore, 1) := by decide +kernel
theorem dJ6_getChars_ba4f3_56 : decode bJ6_getChars_ba4f3 56 = .ok (.aload_n 2, 1) := by decide +kernel
theorem dJ6_getChars_ba4f3_57 : decode bJ6_getChars_ba4f3 57 = .ok (.iinc 5 (-1), 3) := by decide +kernel
theorem dJ6_getChars_ba4f3_60 : decode bJ6_getChars_ba4f3 60 = .ok (.iload 5, 2) := by decide +kernel
theorem dJ6_getChars_ba4f3_62 : decode bJ6_getChars_ba4f3 62 = .ok (.getstatic 87, 3) := by decide +kernel
theorem dJ6_getChars_ba4f3_65 : decode bJ6_getChars_ba4f3 65 = .ok (.iload 4, 2) := by decide +kernel
theorem dJ6_getChars_ba4f3_67 : decode bJ6_getChars_ba4f3 67 = .ok (.baload, 1) := by decide +kernel
theorem dJ6_getChars_ba4f3_68 : decode bJ6_getChars_ba4f3 68 = .ok (.bastore, 1) := by decide +kernel
theorem dJ6_getChars_ba4f3_69 : decode bJ6_getChars_ba4f3 69 = .ok (.goto (-47), 3) := by decide +kernel
theorem dJ6_getChars_ba4f3_72 : decode bJ6_getChars_ba4f3 72 = .ok (.aload_n 2, 1) := by decide +kernel
theorem dJ6_getChars_ba4f3_73 : decode bJ6_getChars_ba4f3 73 = .ok (.iinc 5 (-1), 3) := by decide +kernel
theorem dJ6_getChars_ba4f3_76 : decode bJ6_getChars_ba4f3 76 = .ok (.iload 5, 2) := by decide +kernel
theorem dJ6_getChars_ba4f3_78 : decode bJ6_getChars_ba4f3 78 = .ok (.getstatic 83, 3) := by decide +kernel
theorem dJ6_getChars_ba4f3_81 : decode bJ6_getChars_ba4f3 81 = .ok (.iload_n 0, 1) := by decide +kernel
theorem dJ6_getChars_ba4f3_82 : decode bJ6_getChars_ba4f3 82 = .ok (.ineg, 1) := by decide +kernel
theorem dJ6_getChars_ba4f3_83 : decode bJ6_getChars_ba4f3 83 = .ok (.baload, 1) := by decide +kernel
theorem dJ6_getChars_ba4f3_84 : decode bJ6_getChars_ba4f3 84 = .ok (.bastore, 1) := by decide +kernel
theorem dJ6_getChars_ba4f3_85 : decode bJ6_getChars_ba4f3 85 = .ok (.iload_n 0, 1) := by decide +kernel
theorem dJ6_getChars_ba4f3_86 : decode bJ6_getChars_ba4f3 86 = .ok (.bipush (-9), 2) := by decide +kernel
theorem dJ6_getChars_ba4f3_88 : decode bJ6_getChars_ba4f3 88 = .ok (.if_icmp .ge 16, 3) := by decide +kernel
theorem dJ6_getChars_ba4f3_91 : decode bJ6_getChars_ba4f3 91 = .ok (.aload_n 2, 1) := by decide +kernel
theorem dJ6_getChars_ba4f3_92 : decode bJ6_getChars_ba4f3 92 = .ok (.iinc 5 (-1), 3) := by decide +kernel
theorem dJ6_getChars_ba4f3_95 : decode bJ6_getChars_ba4f3 95 = .ok (.iload 5, 2) := by decide +kernel
theorem dJ6_getChars_ba4f3_97 : decode bJ6_getChars_ba4f3 97 = .ok (.getstatic 87, 3) := by decide +kernel
theorem dJ6_getChars_ba4f3_100 : decode bJ6_getChars_ba4f3 100 = .ok (.iload_n 0, 1) := by decide +kernel
theorem dJ6_getChars_ba4f3_101 : decode bJ6_getChars_ba4f3 101 = .ok (.ineg, 1) := by decide +kernel
theorem dJ6_getChars_ba4f3_102 : decode bJ6_getChars_ba4f3 102 = .ok (.baload, 1) := by decide +kernel
theorem dJ6_getChars_ba4f3_103 : decode bJ6_getChars_ba4f3 103 = .ok (.bastore, 1) := by decide +kernel
theorem dJ6_getChars_ba4f3_104 : decode bJ6_getChars_ba4f3 104 = .ok (.iload 6, 2) := by decide +kernel
theorem dJ6_getChars_ba4f3_106 : decode bJ6_getChars_ba4f3 106 = .ok (.ifCond .eq 12, 3) := by decide +kernel
theorem dJ6_getChars_ba4f3_109 : decode bJ6_getChars_ba4f3 109 = .ok (.aload_n 2, 1) := by decide +kernel
theorem dJ6_getChars_ba4f3_110 : decode bJ6_getChars_ba4f3 110 = .ok (.iinc 5 (-1), 3) := by decide +kernel
theorem dJ6_getChars_ba4f3_113 : decode bJ6_getChars_ba4f3 113 = .ok (.iload 5, 2) := by decide +kernel
theorem dJ6_getChars_ba4f3_115 : decode bJ6_getChars_ba4f3 115 = .ok (.bipush 45, 2) := by decide +kernel
theorem dJ6_getChars_ba4f3_117 : decode bJ6_getChars_ba4f3 117 = .ok (.bastore, 1) := by decide +kernel
theorem dJ6_getChars_ba4f3_118 : decode bJ6_getChars_ba4f3 118 = .ok (.iload 5, 2) := by decide +kernel
theorem dJ6_getChars_ba4f3_120 : decode bJ6_getChars_ba4f3 120 = .ok (.ireturn, 1) := by decide +kernel
abbrev bJ6_stringSize_0f7a4 : ByteArray := prog_16_method_13_code
def yJ6_stringSize_0f7a4 : MethodName := ⟨"java/lang/Integer", "stringSize", "(I)I"⟩
theorem wJ6_stringSize_0f7a4 : YS yJ6_stringSize_0f7a4 bJ6_stringSize_0f7a4 4 (some .int) 1 := ⟨LW_i 978 (by decide +kernel) (by decide +kernel), LW_i 45 (by decide +kernel) (by decide +kernel), LW_i 979 (by decide +kernel) (by decide +kernel), by decide +kernel, by decide +kernel⟩
theorem dJ6_stringSize_0f7a4_0 : decode bJ6_stringSize_0f7a4 0 = .ok (.iconst 1, 1) := by decide +kernel
theorem dJ6_stringSize_0f7a4_1 : decode bJ6_stringSize_0f7a4 1 = .ok (.istore_n 1, 1) := by decide +kernel
theorem dJ6_stringSize_0f7a4_2 : decode bJ6_stringSize_0f7a4 2 = .ok (.iload_n 0, 1) := by decide +kernel
theorem dJ6_stringSize_0f7a4_3 : decode bJ6_stringSize_0f7a4 3 = .ok (.ifCond .lt 8, 3) := by decide +kernel
theorem dJ6_stringSize_0f7a4_6 : decode bJ6_stringSize_0f7a4 6 = .ok (.iconst 0, 1) := by decide +kernel
theorem dJ6_stringSize_0f7a4_7 : decode bJ6_stringSize_0f7a4 7 = .ok (.istore_n 1, 1) := by decide +kernel
theorem dJ6_stringSize_0f7a4_8 : decode bJ6_stringSize_0f7a4 8 = .ok (.iload_n 0, 1) := by decide +kernel
theorem dJ6_stringSize_0f7a4_9 : decode bJ6_stringSize_0f7a4 9 = .ok (.ineg, 1) := by decide +kernel
theorem dJ6_stringSize_0f7a4_10 : decode bJ6_stringSize_0f7a4 10 = .ok (.istore_n 0, 1) := by decide +kernel
theorem dJ6_stringSize_0f7a4_11 : decode bJ6_stringSize_0f7a4 11 = .ok (.bipush (-10), 2) := by decide +kernel
theorem dJ6_stringSize_0f7a4_13 : decode bJ6_stringSize_0f7a4 13 = .ok (.istore_n 2, 1) := by decide +kernel
theorem dJ6_stringSize_0f7a4_14 : decode bJ6_stringSize_0f7a4 14 = .ok (.iconst 1, 1) := by decide +kernel
theorem dJ6_stringSize_0f7a4_15 : decode bJ6_stringSize_0f7a4 15 = .ok (.istore_n 3, 1) := by decide +kernel
theorem dJ6_stringSize_0f7a4_16 : decode bJ6_stringSize_0f7a4 16 = .ok (.iload_n 3, 1) := by decide +kernel
theorem dJ6_stringSize_0f7a4_17 : decode bJ6_stringSize_0f7a4 17 = .ok (.bipush 10, 2) := by decide +kernel
theorem dJ6_stringSize_0f7a4_19 : decode bJ6_stringSize_0f7a4 19 = .ok (.if_icmp .ge 23, 3) := by decide +kernel
theorem dJ6_stringSize_0f7a4_22 : decode bJ6_stringSize_0f7a4 22 = .ok (.iload_n 0, 1) := by decide +kernel
theorem dJ6_stringSize_0f7a4_23 : decode bJ6_stringSize_0f7a4 23 = .ok (.iload_n 2, 1) := by decide +kernel
theorem dJ6_stringSize_0f7a4_24 : decode bJ6_stringSize_0f7a4 24 = .ok (.if_icmp .le 7, 3) := by decide +kernel
theorem dJ6_stringSize_0f7a4_27 : decode bJ6_stringSize_0f7a4 27 = .ok (.iload_n 3, 1) := by decide +kernel
theorem dJ6_stringSize_0f7a4_28 : decode bJ6_stringSize_0f7a4 28 = .ok (.iload_n 1, 1) := by decide +kernel
theorem dJ6_stringSize_0f7a4_29 : decode bJ6_stringSize_0f7a4 29 = .ok (.iadd, 1) := by decide +kernel
theorem dJ6_stringSize_0f7a4_30 : decode bJ6_stringSize_0f7a4 30 = .ok (.ireturn, 1) := by decide +kernel
theorem dJ6_stringSize_0f7a4_31 : decode bJ6_stringSize_0f7a4 31 = .ok (.bipush 10, 2) := by decide +kernel
theorem dJ6_stringSize_0f7a4_33 : decode bJ6_stringSize_0f7a4 33 = .ok (.iload_n 2, 1) := by decide +kernel
theorem dJ6_stringSize_0f7a4_34 : decode bJ6_stringSize_0f7a4 34 = .ok (.imul, 1) := by decide +kernel
theorem dJ6_stringSize_0f7a4_35 : decode bJ6_stringSize_0f7a4 35 = .ok (.istore_n 2, 1) := by decide +kernel
theorem dJ6_stringSize_0f7a4_36 : decode bJ6_stringSize_0f7a4 36 = .ok (.iinc 3 1, 3) := by decide +kernel
theorem dJ6_stringSize_0f7a4_39 : decode bJ6_stringSize_0f7a4 39 = .ok (.goto (-23), 3) := by decide +kernel
theorem dJ6_stringSize_0f7a4_42 : decode bJ6_stringSize_0f7a4 42 = .ok (.bipush 10, 2) := by decide +kernel
theorem dJ6_stringSize_0f7a4_44 : decode bJ6_stringSize_0f7a4 44 = .ok (.iload_n 1, 1) := by decide +kernel
theorem dJ6_stringSize_0f7a4_45 : decode bJ6_stringSize_0f7a4 45 = .ok (.iadd, 1) := by decide +kernel
theorem dJ6_stringSize_0f7a4_46 : decode bJ6_stringSize_0f7a4 46 = .ok (.ireturn, 1) := by decide +kernel
abbrev bJ9_max_7cf53 : ByteArray := prog_17_method_65_code
def yJ9_max_7cf53 : MethodName := ⟨"java/lang/Math", "max", "(II)I"⟩
theorem wJ9_max_7cf53 : YS yJ9_max_7cf53 bJ9_max_7cf53 2 (some .int) 2 := ⟨LW_i 882 (by decide +kernel) (by decide +kernel), LW_i 41 (by decide +kernel) (by decide +kernel), LW_i 883 (by decide +kernel) (by decide +kernel), by decide +kernel, by decide +kernel⟩
theorem dJ9_max_7cf53_0 : decode bJ9_max_7cf53 0 = .ok (.iload_n 0, 1) := by decide +kernel
theorem dJ9_max_7cf53_1 : decode bJ9_max_7cf53 1 = .ok (.iload_n 1, 1) := by decide +kernel
theorem dJ9_max_7cf53_2 : decode bJ9_max_7cf53 2 = .ok (.if_icmp .lt 7, 3) := by decide +kernel
theorem dJ9_max_7cf53_5 : decode bJ9_max_7cf53 5 = .ok (.iload_n 0, 1) := by decide +kernel
theorem dJ9_max_7cf53_6 : decode bJ9_max_7cf53 6 = .ok (.goto 4, 3) := by decide +kernel
theorem dJ9_max_7cf53_9 : decode bJ9_max_7cf53 9 = .ok (.iload_n 1, 1) := by decide +kernel
theorem dJ9_max_7cf53_10 : decode bJ9_max_7cf53 10 = .ok (.ireturn, 1) := by decide +kernel
abbrev bJ9_min_7cf53 : ByteArray := prog_17_method_69_code
def yJ9_min_7cf53 : MethodName := ⟨"java/lang/Math", "min", "(II)I"⟩
theorem wJ9_min_7cf53 : YS yJ9_min_7cf53 bJ9_min_7cf53 2 (some .int) 2 := ⟨LW_i 899 (by decide +kernel) (by decide +kernel), LW_i 41 (by decide +kernel) (by decide +kernel), LW_i 900 (by decide +kernel) (by decide +kernel), by decide +kernel, by decide +kernel⟩
theorem dJ9_min_7cf53_0 : decode bJ9_min_7cf53 0 = .ok (.iload_n 0, 1) := by decide +kernel
theorem dJ9_min_7cf53_1 : decode bJ9_min_7cf53 1 = .ok (.iload_n 1, 1) := by decide +kernel
theorem dJ9_min_7cf53_2 : decode bJ9_min_7cf53 2 = .ok (.if_icmp .gt 7, 3) := by decide +kernel
theorem dJ9_min_7cf53_5 : decode bJ9_min_7cf53 5 = .ok (.iload_n 0, 1) := by decide +kernel
theorem dJ9_min_7cf53_6 : decode bJ9_min_7cf53 6 = .ok (.goto 4, 3) := by decide +kernel
theorem dJ9_min_7cf53_9 : decode bJ9_min_7cf53 9 = .ok (.iload_n 1, 1) := by decide +kernel
theorem dJ9_min_7cf53_10 : decode bJ9_min_7cf53 10 = .ok (.ireturn, 1) := by decide +kernel
abbrev bJ0_init_81219 : ByteArray := prog_20_method_53_code
def yJ0_init_81219 : MethodName := ⟨"java/lang/String", "<init>", "(Ljava/lang/StringBuilder;)V"⟩
theorem wJ0_init_81219 : YI yJ0_init_81219 bJ0_init_81219 2 1 := ⟨LW_i 1018 (by decide +kernel) (by decide +kernel), LW_i 34 (by decide +kernel) (by decide +kernel), LW_i 1019 (by decide +kernel) (by decide +kernel), by decide +kernel, by decide +kernel, rfl⟩
theorem dJ0_init_81219_0 : decode bJ0_init_81219 0 = .ok (.aload_n 0, 1) := by decide +kernel
theorem dJ0_init_81219_1 : decode bJ0_init_81219 1 = .ok (.aload_n 1, 1) := by decide +kernel
theorem dJ0_init_81219_2 : decode bJ0_init_81219 2 = .ok (.aconst_null, 1) := by decide +kernel
theorem dJ0_init_81219_3 : decode bJ0_init_81219 3 = .ok (.invokespecial 489, 3) := by decide +kernel
theorem dJ0_init_81219_6 : decode bJ0_init_81219 6 = .ok (.return_, 1) := by decide +kernel
abbrev bJ0_length_8abf5 : ByteArray := prog_20_method_54_code
def yJ0_length_8abf5 : MethodName := ⟨"java/lang/String", "length", "()I"⟩
theorem wJ0_length_8abf5 : YV yJ0_length_8abf5 bJ0_length_8abf5 1 (some .int) 0 := ⟨LW_i 249 (by decide +kernel) (by decide +kernel), LW_i 250 (by decide +kernel) (by decide +kernel), LW_i 34 (by decide +kernel) (by decide +kernel), LW_i 251 (by decide +kernel) (by decide +kernel), by decide +kernel, by decide +kernel⟩
theorem dJ0_length_8abf5_0 : decode bJ0_length_8abf5 0 = .ok (.aload_n 0, 1) := by decide +kernel
theorem dJ0_length_8abf5_1 : decode bJ0_length_8abf5 1 = .ok (.getfield 9, 3) := by decide +kernel
theorem dJ0_length_8abf5_4 : decode bJ0_length_8abf5 4 = .ok (.arraylength, 1) := by decide +kernel
theorem dJ0_length_8abf5_5 : decode bJ0_length_8abf5 5 = .ok (.aload_n 0, 1) := by decide +kernel
theorem dJ0_length_8abf5_6 : decode bJ0_length_8abf5 6 = .ok (.invokevirtual 335, 3) := by decide +kernel
theorem dJ0_length_8abf5_9 : decode bJ0_length_8abf5 9 = .ok (.ishr, 1) := by decide +kernel
theorem dJ0_length_8abf5_10 : decode bJ0_length_8abf5 10 = .ok (.ireturn, 1) := by decide +kernel
abbrev bJ0_charAt_5068e : ByteArray := prog_20_method_56_code
def yJ0_charAt_5068e : MethodName := ⟨"java/lang/String", "charAt", "(I)C"⟩
theorem wJ0_charAt_5068e : YV yJ0_charAt_5068e bJ0_charAt_5068e 2 (some .char) 1 := ⟨LW_i 259 (by decide +kernel) (by decide +kernel), LW_i 260 (by decide +kernel) (by decide +kernel), LW_i 34 (by decide +kernel) (by decide +kernel), LW_i 261 (by decide +kernel) (by decide +kernel), by decide +kernel, by decide +kernel⟩
theorem dJ0_charAt_5068e_0 : decode bJ0_charAt_5068e 0 = .ok (.aload_n 0, 1) := by decide +kernel
theorem dJ0_charAt_5068e_1 : decode bJ0_charAt_5068e 1 = .ok (.invokevirtual 492, 3) := by decide +kernel
theorem dJ0_charAt_5068e_4 : decode bJ0_charAt_5068e 4 = .ok (.ifCond .eq 12, 3) := by decide +kernel
theorem dJ0_charAt_5068e_7 : decode bJ0_charAt_5068e 7 = .ok (.aload_n 0, 1) := by decide +kernel
theorem dJ0_charAt_5068e_8 : decode bJ0_charAt_5068e 8 = .ok (.getfield 9, 3) := by decide +kernel
theorem dJ0_charAt_5068e_11 : decode bJ0_charAt_5068e 11 = .ok (.iload_n 1, 1) := by decide +kernel
theorem dJ0_charAt_5068e_12 : decode bJ0_charAt_5068e 12 = .ok (.invokestatic 495, 3) := by decide +kernel
theorem dJ0_charAt_5068e_15 : decode bJ0_charAt_5068e 15 = .ok (.ireturn, 1) := by decide +kernel
theorem dJ0_charAt_5068e_16 : decode bJ0_charAt_5068e 16 = .ok (.aload_n 0, 1) := by decide +kernel
theorem dJ0_charAt_5068e_17 : decode bJ0_charAt_5068e 17 = .ok (.getfield 9, 3) := by decide +kernel
theorem dJ0_charAt_5068e_20 : decode bJ0_charAt_5068e 20 = .ok (.iload_n 1, 1) := by decide +kernel
theorem dJ0_charAt_5068e_21 : decode bJ0_charAt_5068e 21 = .ok (.invokestatic 498, 3) := by decide +kernel
theorem dJ0_charAt_5068e_24 : decode bJ0_charAt_5068e 24 = .ok (.ireturn, 1) := by decide +kernel
abbrev bJ0_getBytes_840e7 : ByteArray := prog_20_method_147_code
def yJ0_getBytes_840e7 : MethodName := ⟨"java/lang/String", "getBytes", "([BIB)V"⟩
theorem wJ0_getBytes_840e7 : YV yJ0_getBytes_840e7 bJ0_getBytes_840e7 4 none 3 := ⟨LW_i 953 (by decide +kernel) (by decide +kernel), LW_i 954 (by decide +kernel) (by decide +kernel), LW_i 34 (by decide +kernel) (by decide +kernel), LW_i 955 (by decide +kernel) (by decide +kernel), by decide +kernel, by decide +kernel⟩
theorem dJ0_getBytes_840e7_0 : decode bJ0_getBytes_840e7 0 = .ok (.aload_n 0, 1) := by decide +kernel
theorem dJ0_getBytes_840e7_1 : decode bJ0_getBytes_840e7 1 = .ok (.invokevirtual 335, 3) := by decide +kernel
theorem dJ0_getBytes_840e7_4 : decode bJ0_getBytes_840e7 4 = .ok (.iload_n 3, 1) := by decide +kernel
theorem dJ0_getBytes_840e7_5 : decode bJ0_getBytes_840e7 5 = .ok (.if_icmp .ne 23, 3) := by decide +kernel
theorem dJ0_getBytes_840e7_8 : decode bJ0_getBytes_840e7 8 = .ok (.aload_n 0, 1) := by decide +kernel
theorem dJ0_getBytes_840e7_9 : decode bJ0_getBytes_840e7 9 = .ok (.getfield 9, 3) := by decide +kernel
theorem dJ0_getBytes_840e7_12 : decode bJ0_getBytes_840e7 12 = .ok (.iconst 0, 1) := by decide +kernel
theorem dJ0_getBytes_840e7_13 : decode bJ0_getBytes_840e7 13 = .ok (.aload_n 1, 1) := by decide +kernel
theorem dJ0_getBytes_840e7_14 : decode bJ0_getBytes_840e7 14 = .ok (.iload_n 2, 1) := by decide +kernel
theorem dJ0_getBytes_840e7_15 : decode bJ0_getBytes_840e7 15 = .ok (.iload_n 3, 1) := by decide +kernel
theorem dJ0_getBytes_840e7_16 : decode bJ0_getBytes_840e7 16 = .ok (.ishl, 1) := by decide +kernel
theorem dJ0_getBytes_840e7_17 : decode bJ0_getBytes_840e7 17 = .ok (.aload_n 0, 1) := by decide +kernel
theorem dJ0_getBytes_840e7_18 : decode bJ0_getBytes_840e7 18 = .ok (.getfield 9, 3) := by decide +kernel
theorem dJ0_getBytes_840e7_21 : decode bJ0_getBytes_840e7 21 = .ok (.arraylength, 1) := by decide +kernel
theorem dJ0_getBytes_840e7_22 : decode bJ0_getBytes_840e7 22 = .ok (.invokestatic 212, 3) := by decide +kernel
theorem dJ0_getBytes_840e7_25 : decode bJ0_getBytes_840e7 25 = .ok (.goto 18, 3) := by decide +kernel
theorem dJ0_getBytes_840e7_28 : decode bJ0_getBytes_840e7 28 = .ok (.aload_n 0, 1) := by decide +kernel
theorem dJ0_getBytes_840e7_29 : decode bJ0_getBytes_840e7 29 = .ok (.getfield 9, 3) := by decide +kernel
theorem dJ0_getBytes_840e7_32 : decode bJ0_getBytes_840e7 32 = .ok (.iconst 0, 1) := by decide +kernel
theorem dJ0_getBytes_840e7_33 : decode bJ0_getBytes_840e7 33 = .ok (.aload_n 1, 1) := by decide +kernel
theorem dJ0_getBytes_840e7_34 : decode bJ0_getBytes_840e7 34 = .ok (.iload_n 2, 1) := by decide +kernel
theorem dJ0_getBytes_840e7_35 : decode bJ0_getBytes_840e7 35 = .ok (.aload_n 0, 1) := by decide +kernel
theorem dJ0_getBytes_840e7_36 : decode bJ0_getBytes_840e7 36 = .ok (.getfield 9, 3) := by decide +kernel
theorem dJ0_getBytes_840e7_39 : decode bJ0_getBytes_840e7 39 = .ok (.arraylength, 1) := by decide +kernel
theorem dJ0_getBytes_840e7_40 : decode bJ0_getBytes_840e7 40 = .ok (.invokestatic 106, 3) := by decide +kernel
theorem dJ0_getBytes_840e7_43 : decode bJ0_getBytes_840e7 43 = .ok (.return_, 1) := by decide +kernel
abbrev bJ0_init_db425 : ByteArray := prog_20_method_150_code
def yJ0_init_db425 : MethodName := ⟨"java/lang/String", "<init>", "(Ljava/lang/AbstractStringBuilder;Ljava/lang/Void;)V"⟩
theorem wJ0_init_db425 : YI yJ0_init_db425 bJ0_init_db425 5 2 := ⟨LW_i 1021 (by decide +kernel) (by decide +kernel), LW_i 34 (by decide +kernel) (by decide +kernel), LW_i 1022 (by decide +kernel) (by decide +kernel), by decide +kernel, by decide +kernel, rfl⟩
theorem dJ0_init_db425_0 : decode bJ0_init_db425 0 = .ok (.aload_n 0, 1) := by decide +kernel
theorem dJ0_init_db425_1 : decode bJ0_init_db425 1 = .ok (.invokespecial 1, 3) := by decide +kernel
theorem dJ0_init_db425_4 : decode bJ0_init_db425 4 = .ok (.aload_n 1, 1) := by decide +kernel
theorem dJ0_init_db425_5 : decode bJ0_init_db425 5 = .ok (.invokevirtual 552, 3) := by decide +kernel
theorem dJ0_init_db425_8 : decode bJ0_init_db425 8 = .ok (.astore_n 3, 1) := by decide +kernel
theorem dJ0_init_db425_9 : decode bJ0_init_db425 9 = .ok (.aload_n 1, 1) := by decide +kernel
theorem dJ0_init_db425_10 : decode bJ0_init_db425 10 = .ok (.invokevirtual 549, 3) := by decide +kernel
theorem dJ0_init_db425_13 : decode bJ0_init_db425 13 = .ok (.istore 4, 2) := by decide +kernel
theorem dJ0_init_db425_15 : decode bJ0_init_db425 15 = .ok (.aload_n 1, 1) := by decide +kernel
theorem dJ0_init_db425_16 : decode bJ0_init_db425 16 = .ok (.invokevirtual 1047, 3) := by decide +kernel
theorem dJ0_init_db425_19 : decode bJ0_init_db425 19 = .ok (.ifCond .eq 22, 3) := by decide +kernel
theorem dJ0_init_db425_22 : decode bJ0_init_db425 22 = .ok (.aload_n 0, 1) := by decide +kernel
theorem dJ0_init_db425_23 : decode bJ0_init_db425 23 = .ok (.iconst 0, 1) := by decide +kernel
theorem dJ0_init_db425_24 : decode bJ0_init_db425 24 = .ok (.putfield 15, 3) := by decide +kernel
theorem dJ0_init_db425_27 : decode bJ0_init_db425 27 = .ok (.aload_n 0, 1) := by decide +kernel
theorem dJ0_init_db425_28 : decode bJ0_init_db425 28 = .ok (.aload_n 3, 1) := by decide +kernel
theorem dJ0_init_db425_29 : decode bJ0_init_db425 29 = .ok (.iconst 0, 1) := by decide +kernel
theorem dJ0_init_db425_30 : decode bJ0_init_db425 30 = .ok (.iload 4, 2) := by decide +kernel
theorem dJ0_init_db425_32 : decode bJ0_init_db425 32 = .ok (.invokestatic 54, 3) := by decide +kernel
theorem dJ0_init_db425_35 : decode bJ0_init_db425 35 = .ok (.putfield 9, 3) := by decide +kernel
theorem dJ0_init_db425_38 : decode bJ0_init_db425 38 = .ok (.goto 59, 3) := by decide +kernel
theorem dJ0_init_db425_41 : decode bJ0_init_db425 41 = .ok (.getstatic 38, 3) := by decide +kernel
theorem dJ0_init_db425_44 : decode bJ0_init_db425 44 = .ok (.ifCond .eq 35, 3) := by decide +kernel
theorem dJ0_init_db425_47 : decode bJ0_init_db425 47 = .ok (.aload_n 1, 1) := by decide +kernel
theorem dJ0_init_db425_48 : decode bJ0_init_db425 48 = .ok (.getfield 1048, 3) := by decide +kernel
theorem dJ0_init_db425_51 : decode bJ0_init_db425 51 = .ok (.ifCond .eq 28, 3) := by decide +kernel
theorem dJ0_init_db425_54 : decode bJ0_init_db425 54 = .ok (.aload_n 0, 1) := by decide +kernel
theorem dJ0_init_db425_55 : decode bJ0_init_db425 55 = .ok (.aload_n 3, 1) := by decide +kernel
theorem dJ0_init_db425_56 : decode bJ0_init_db425 56 = .ok (.iconst 0, 1) := by decide +kernel
theorem dJ0_init_db425_57 : decode bJ0_init_db425 57 = .ok (.iload 4, 2) := by decide +kernel
theorem dJ0_init_db425_59 : decode bJ0_init_db425 59 = .ok (.invokestatic 1051, 3) := by decide +kernel
theorem dJ0_init_db425_62 : decode bJ0_init_db425 62 = .ok (.putfield 9, 3) := by decide +kernel
theorem dJ0_init_db425_65 : decode bJ0_init_db425 65 = .ok (.aload_n 0, 1) := by decide +kernel
theorem dJ0_init_db425_66 : decode bJ0_init_db425 66 = .ok (.aload_n 0, 1) := by decide +kernel
theorem dJ0_init_db425_67 : decode bJ0_init_db425 67 = .ok (.getfield 9, 3) := by decide +kernel
theorem dJ0_init_db425_70 : decode bJ0_init_db425 70 = .ok (.iload 4, 2) := by decide +kernel
theorem dJ0_init_db425_72 : decode bJ0_init_db425 72 = .ok (.invokestatic 47, 3) := by decide +kernel
theorem dJ0_init_db425_75 : decode bJ0_init_db425 75 = .ok (.putfield 15, 3) := by decide +kernel
theorem dJ0_init_db425_78 : decode bJ0_init_db425 78 = .ok (.return_, 1) := by decide +kernel
theorem dJ0_init_db425_79 : decode bJ0_init_db425 79 = .ok (.aload_n 0, 1) := by decide +kernel
theorem dJ0_init_db425_80 : decode bJ0_init_db425 80 = .ok (.iconst 1, 1) := by decide +kernel
theorem dJ0_init_db425_81 : decode bJ0_init_db425 81 = .ok (.putfield 15, 3) := by decide +kernel
theorem dJ0_init_db425_84 : decode bJ0_init_db425 84 = .ok (.aload_n 0, 1) := by decide +kernel
theorem dJ0_init_db425_85 : decode bJ0_init_db425 85 = .ok (.aload_n 3, 1) := by decide +kernel
theorem dJ0_init_db425_86 : decode bJ0_init_db425 86 = .ok (.iconst 0, 1) := by decide +kernel
theorem dJ0_init_db425_87 : decode bJ0_init_db425 87 = .ok (.iload 4, 2) := by decide +kernel
theorem dJ0_init_db425_89 : decode bJ0_init_db425 89 = .ok (.iconst 1, 1) := by decide +kernel
theorem dJ0_init_db425_90 : decode bJ0_init_db425 90 = .ok (.ishl, 1) := by decide +kernel
theorem dJ0_init_db425_91 : decode bJ0_init_db425 91 = .ok (.invokestatic 54, 3) := by decide +kernel
theorem dJ0_init_db425_94 : decode bJ0_init_db425 94 = .ok (.putfield 9, 3) := by decide +kernel
theorem dJ0_init_db425_97 : decode bJ0_init_db425 97 = .ok (.return_, 1) := by decide +kernel
abbrev bJ0_coder_7d493 : ByteArray := prog_20_method_152_code
def yJ0_coder_7d493 : MethodName := ⟨"java/lang/String", "coder", "()B"⟩
theorem wJ0_coder_7d493 : YV yJ0_coder_7d493 bJ0_coder_7d493 1 (some .byte) 0 := ⟨LW_i 253 (by decide +kernel) (by decide +kernel), LW_i 254 (by decide +kernel) (by decide +kernel), LW_i 34 (by decide +kernel) (by decide +kernel), LW_i 255 (by decide +kernel) (by decide +kernel), by decide +kernel, by decide +kernel⟩
theorem dJ0_coder_7d493_0 : decode bJ0_coder_7d493 0 = .ok (.getstatic 38, 3) := by decide +kernel
theorem dJ0_coder_7d493_3 : decode bJ0_coder_7d493 3 = .ok (.ifCond .eq 10, 3) := by decide +kernel
theorem dJ0_coder_7d493_6 : decode bJ0_coder_7d493 6 = .ok (.aload_n 0, 1) := by decide +kernel
theorem dJ0_coder_7d493_7 : decode bJ0_coder_7d493 7 = .ok (.getfield 15, 3) := by decide +kernel
theorem dJ0_coder_7d493_10 : decode bJ0_coder_7d493 10 = .ok (.goto 4, 3) := by decide +kernel
theorem dJ0_coder_7d493_13 : decode bJ0_coder_7d493 13 = .ok (.iconst 1, 1) := by decide +kernel
theorem dJ0_coder_7d493_14 : decode bJ0_coder_7d493 14 = .ok (.ireturn, 1) := by decide +kernel
abbrev bJ0_isLatin1_aae02 : ByteArray := prog_20_method_154_code
def yJ0_isLatin1_aae02 : MethodName := ⟨"java/lang/String", "isLatin1", "()Z"⟩
theorem wJ0_isLatin1_aae02 : YV yJ0_isLatin1_aae02 bJ0_isLatin1_aae02 1 (some .boolean) 0 := ⟨LW_i 263 (by decide +kernel) (by decide +kernel), LW_i 264 (by decide +kernel) (by decide +kernel), LW_i 34 (by decide +kernel) (by decide +kernel), LW_i 265 (by decide +kernel) (by decide +kernel), by decide +kernel, by decide +kernel⟩
theorem dJ0_isLatin1_aae02_0 : decode bJ0_isLatin1_aae02 0 = .ok (.getstatic 38, 3) := by decide +kernel
theorem dJ0_isLatin1_aae02_3 : decode bJ0_isLatin1_aae02 3 = .ok (.ifCond .eq 14, 3) := by decide +kernel
theorem dJ0_isLatin1_aae02_6 : decode bJ0_isLatin1_aae02 6 = .ok (.aload_n 0, 1) := by decide +kernel
theorem dJ0_isLatin1_aae02_7 : decode bJ0_isLatin1_aae02 7 = .ok (.getfield 15, 3) := by decide +kernel
theorem dJ0_isLatin1_aae02_10 : decode bJ0_isLatin1_aae02 10 = .ok (.ifCond .ne 7, 3) := by decide +kernel
theorem dJ0_isLatin1_aae02_13 : decode bJ0_isLatin1_aae02 13 = .ok (.iconst 1, 1) := by decide +kernel
theorem dJ0_isLatin1_aae02_14 : decode bJ0_isLatin1_aae02 14 = .ok (.goto 4, 3) := by decide +kernel
theorem dJ0_isLatin1_aae02_17 : decode bJ0_isLatin1_aae02 17 = .ok (.iconst 0, 1) := by decide +kernel
theorem dJ0_isLatin1_aae02_18 : decode bJ0_isLatin1_aae02 18 = .ok (.ireturn, 1) := by decide +kernel
abbrev bJ0_checkIndex_df160 : ByteArray := prog_20_method_155_code
def yJ0_checkIndex_df160 : MethodName := ⟨"java/lang/String", "checkIndex", "(II)V"⟩
theorem wJ0_checkIndex_df160 : YS yJ0_checkIndex_df160 bJ0_checkIndex_df160 2 none 2 := ⟨LW_i 270 (by decide +kernel) (by decide +kernel), LW_i 34 (by decide +kernel) (by decide +kernel), LW_i 271 (by decide +kernel) (by decide +kernel), by decide +kernel, by decide +kernel⟩
theorem dJ0_checkIndex_df160_0 : decode bJ0_checkIndex_df160 0 = .ok (.iload_n 0, 1) := by decide +kernel
theorem dJ0_checkIndex_df160_1 : decode bJ0_checkIndex_df160 1 = .ok (.iload_n 1, 1) := by decide +kernel
theorem dJ0_checkIndex_df160_2 : decode bJ0_checkIndex_df160 2 = .ok (.getstatic 1053, 3) := by decide +kernel
theorem dJ0_checkIndex_df160_5 : decode bJ0_checkIndex_df160 5 = .ok (.invokestatic 1059, 3) := by decide +kernel
theorem dJ0_checkIndex_df160_8 : decode bJ0_checkIndex_df160 8 = .ok (.pop, 1) := by decide +kernel
theorem dJ0_checkIndex_df160_9 : decode bJ0_checkIndex_df160 9 = .ok (.return_, 1) := by decide +kernel
abbrev bJ0_checkBoundsOffCount_cabcc : ByteArray := prog_20_method_157_code
def yJ0_checkBoundsOffCount_cabcc : MethodName := ⟨"java/lang/String", "checkBoundsOffCount", "(III)I"⟩
theorem wJ0_checkBoundsOffCount_cabcc : YS yJ0_checkBoundsOffCount_cabcc bJ0_checkBoundsOffCount_cabcc 3 (some .int) 3 := ⟨LW_i 947 (by decide +kernel) (by decide +kernel), LW_i 34 (by decide +kernel) (by decide +kernel), LW_i 948 (by decide +kernel) (by decide +kernel), by decide +kernel, by decide +kernel⟩
theorem dJ0_checkBoundsOffCount_cabcc_0 : decode bJ0_checkBoundsOffCount_cabcc 0 = .ok (.iload_n 0, 1) := by decide +kernel
theorem dJ0_checkBoundsOffCount_cabcc_1 : decode bJ0_checkBoundsOffCount_cabcc 1 = .ok (.iload_n 1, 1) := by decide +kernel
theorem dJ0_checkBoundsOffCount_cabcc_2 : decode bJ0_checkBoundsOffCount_cabcc 2 = .ok (.iload_n 2, 1) := by decide +kernel
theorem dJ0_checkBoundsOffCount_cabcc_3 : decode bJ0_checkBoundsOffCount_cabcc 3 = .ok (.getstatic 1053, 3) := by decide +kernel
theorem dJ0_checkBoundsOffCount_cabcc_6 : decode bJ0_checkBoundsOffCount_cabcc 6 = .ok (.invokestatic 1065, 3) := by decide +kernel
theorem dJ0_checkBoundsOffCount_cabcc_9 : decode bJ0_checkBoundsOffCount_cabcc 9 = .ok (.ireturn, 1) := by decide +kernel
abbrev bJ0_checkBoundsBeginEnd_23922 : ByteArray := prog_20_method_158_code
def yJ0_checkBoundsBeginEnd_23922 : MethodName := ⟨"java/lang/String", "checkBoundsBeginEnd", "(III)V"⟩
theorem wJ0_checkBoundsBeginEnd_23922 : YS yJ0_checkBoundsBeginEnd_23922 bJ0_checkBoundsBeginEnd_23922 3 none 3 := ⟨LW_i 917 (by decide +kernel) (by decide +kernel), LW_i 34 (by decide +kernel) (by decide +kernel), LW_i 918 (by decide +kernel) (by decide +kernel), by decide +kernel, by decide +kernel⟩
theorem dJ0_checkBoundsBeginEnd_23922_0 : decode bJ0_checkBoundsBeginEnd_23922 0 = .ok (.iload_n 0, 1) := by decide +kernel
theorem dJ0_checkBoundsBeginEnd_23922_1 : decode bJ0_checkBoundsBeginEnd_23922 1 = .ok (.iload_n 1, 1) := by decide +kernel
theorem dJ0_checkBoundsBeginEnd_23922_2 : decode bJ0_checkBoundsBeginEnd_23922 2 = .ok (.iload_n 2, 1) := by decide +kernel
theorem dJ0_checkBoundsBeginEnd_23922_3 : decode bJ0_checkBoundsBeginEnd_23922 3 = .ok (.getstatic 1053, 3) := by decide +kernel
theorem dJ0_checkBoundsBeginEnd_23922_6 : decode bJ0_checkBoundsBeginEnd_23922 6 = .ok (.invokestatic 1062, 3) := by decide +kernel
theorem dJ0_checkBoundsBeginEnd_23922_9 : decode bJ0_checkBoundsBeginEnd_23922 9 = .ok (.pop, 1) := by decide +kernel
theorem dJ0_checkBoundsBeginEnd_23922_10 : decode bJ0_checkBoundsBeginEnd_23922 10 = .ok (.return_, 1) := by decide +kernel
abbrev bJ4_init_a7421 : ByteArray := prog_21_method_3_code
def yJ4_init_a7421 : MethodName := ⟨"java/lang/StringBuilder", "<init>", "(Ljava/lang/String;)V"⟩
theorem wJ4_init_a7421 : YI yJ4_init_a7421 bJ4_init_a7421 2 1 := ⟨LW_i 836 (by decide +kernel) (by decide +kernel), LW_i 39 (by decide +kernel) (by decide +kernel), LW_i 837 (by decide +kernel) (by decide +kernel), by decide +kernel, by decide +kernel, rfl⟩
theorem dJ4_init_a7421_0 : decode bJ4_init_a7421 0 = .ok (.aload_n 0, 1) := by decide +kernel
theorem dJ4_init_a7421_1 : decode bJ4_init_a7421 1 = .ok (.aload_n 1, 1) := by decide +kernel
theorem dJ4_init_a7421_2 : decode bJ4_init_a7421 2 = .ok (.invokespecial 7, 3) := by decide +kernel
theorem dJ4_init_a7421_5 : decode bJ4_init_a7421 5 = .ok (.return_, 1) := by decide +kernel
abbrev bJ4_append_15ec4 : ByteArray := prog_21_method_7_code
def yJ4_append_15ec4 : MethodName := ⟨"java/lang/StringBuilder", "append", "(Ljava/lang/String;)Ljava/lang/StringBuilder;"⟩
theorem wJ4_append_15ec4 : YV yJ4_append_15ec4 bJ4_append_15ec4 2 (some (.object "java/lang/StringBuilder")) 1 := ⟨LW_i 860 (by decide +kernel) (by decide +kernel), LW_i 861 (by decide +kernel) (by decide +kernel), LW_i 39 (by decide +kernel) (by decide +kernel), LW_i 862 (by decide +kernel) (by decide +kernel), by decide +kernel, by decide +kernel⟩
theorem dJ4_append_15ec4_0 : decode bJ4_append_15ec4 0 = .ok (.aload_n 0, 1) := by decide +kernel
theorem dJ4_append_15ec4_1 : decode bJ4_append_15ec4 1 = .ok (.aload_n 1, 1) := by decide +kernel
theorem dJ4_append_15ec4_2 : decode bJ4_append_15ec4 2 = .ok (.invokespecial 29, 3) := by decide +kernel
theorem dJ4_append_15ec4_5 : decode bJ4_append_15ec4 5 = .ok (.pop, 1) := by decide +kernel
theorem dJ4_append_15ec4_6 : decode bJ4_append_15ec4 6 = .ok (.aload_n 0, 1) := by decide +kernel
theorem dJ4_append_15ec4_7 : decode bJ4_append_15ec4 7 = .ok (.areturn, 1) := by decide +kernel
abbrev bJ4_append_cf468 : ByteArray := prog_21_method_14_code
def yJ4_append_cf468 : MethodName := ⟨"java/lang/StringBuilder", "append", "(C)Ljava/lang/StringBuilder;"⟩
theorem wJ4_append_cf468 : YV yJ4_append_cf468 bJ4_append_cf468 2 (some (.object "java/lang/StringBuilder")) 1 := ⟨LW_i 996 (by decide +kernel) (by decide +kernel), LW_i 997 (by decide +kernel) (by decide +kernel), LW_i 39 (by decide +kernel) (by decide +kernel), LW_i 998 (by decide +kernel) (by decide +kernel), by decide +kernel, by decide +kernel⟩
theorem dJ4_append_cf468_0 : decode bJ4_append_cf468 0 = .ok (.aload_n 0, 1) := by decide +kernel
theorem dJ4_append_cf468_1 : decode bJ4_append_cf468 1 = .ok (.iload_n 1, 1) := by decide +kernel
theorem dJ4_append_cf468_2 : decode bJ4_append_cf468 2 = .ok (.invokespecial 50, 3) := by decide +kernel
theorem dJ4_append_cf468_5 : decode bJ4_append_cf468 5 = .ok (.pop, 1) := by decide +kernel
theorem dJ4_append_cf468_6 : decode bJ4_append_cf468 6 = .ok (.aload_n 0, 1) := by decide +kernel
theorem dJ4_append_cf468_7 : decode bJ4_append_cf468 7 = .ok (.areturn, 1) := by decide +kernel
abbrev bJ4_append_bf812 : ByteArray := prog_21_method_15_code
def yJ4_append_bf812 : MethodName := ⟨"java/lang/StringBuilder", "append", "(I)Ljava/lang/StringBuilder;"⟩
theorem wJ4_append_bf812 : YV yJ4_append_bf812 bJ4_append_bf812 2 (some (.object "java/lang/StringBuilder")) 1 := ⟨LW_i 971 (by decide +kernel) (by decide +kernel), LW_i 972 (by decide +kernel) (by decide +kernel), LW_i 39 (by decide +kernel) (by decide +kernel), LW_i 973 (by decide +kernel) (by decide +kernel), by decide +kernel, by decide +kernel⟩
theorem dJ4_append_bf812_0 : decode bJ4_append_bf812 0 = .ok (.aload_n 0, 1) := by decide +kernel
theorem dJ4_append_bf812_1 : decode bJ4_append_bf812 1 = .ok (.iload_n 1, 1) := by decide +kernel
theorem dJ4_append_bf812_2 : decode bJ4_append_bf812 2 = .ok (.invokespecial 53, 3) := by decide +kernel
theorem dJ4_append_bf812_5 : decode bJ4_append_bf812 5 = .ok (.pop, 1) := by decide +kernel
theorem dJ4_append_bf812_6 : decode bJ4_append_bf812 6 = .ok (.aload_n 0, 1) := by decide +kernel
theorem dJ4_append_bf812_7 : decode bJ4_append_bf812 7 = .ok (.areturn, 1) := by decide +kernel
abbrev bJ4_toString_0e30d : ByteArray := prog_21_method_42_code
def yJ4_toString_0e30d : MethodName := ⟨"java/lang/StringBuilder", "toString", "()Ljava/lang/String;"⟩
theorem wJ4_toString_0e30d : YV yJ4_toString_0e30d bJ4_toString_0e30d 1 (some (.object "java/lang/String")) 0 := ⟨LW_i 1012 (by decide +kernel) (by decide +kernel), LW_i 1013 (by decide +kernel) (by decide +kernel), LW_i 39 (by decide +kernel) (by decide +kernel), LW_i 1014 (by decide +kernel) (by decide +kernel), by decide +kernel, by decide +kernel⟩
theorem dJ4_toString_0e30d_0 : decode bJ4_toString_0e30d 0 = .ok (.new 18, 3) := by decide +kernel
theorem dJ4_toString_0e30d_3 : decode bJ4_toString_0e30d 3 = .ok (.dup, 1) := by decide +kernel
theorem dJ4_toString_0e30d_4 : decode bJ4_toString_0e30d 4 = .ok (.aload_n 0, 1) := by decide +kernel
theorem dJ4_toString_0e30d_5 : decode bJ4_toString_0e30d 5 = .ok (.invokespecial 137, 3) := by decide +kernel
theorem dJ4_toString_0e30d_8 : decode bJ4_toString_0e30d 8 = .ok (.areturn, 1) := by decide +kernel
abbrev bJ4_append_cf1ce : ByteArray := prog_21_method_80_code
def yJ4_append_cf1ce : MethodName := ⟨"java/lang/StringBuilder", "append", "(Ljava/lang/String;)Ljava/lang/AbstractStringBuilder;"⟩
-- no words: J4_append_cf1ce
theorem dJ4_append_cf1ce_0 : decode bJ4_append_cf1ce 0 = .ok (.aload_n 0, 1) := by decide +kernel
theorem dJ4_append_cf1ce_1 : decode bJ4_append_cf1ce 1 = .ok (.aload_n 1, 1) := by decide +kernel
theorem dJ4_append_cf1ce_2 : decode bJ4_append_cf1ce 2 = .ok (.invokevirtual 23, 3) := by decide +kernel
theorem dJ4_append_cf1ce_5 : decode bJ4_append_cf1ce 5 = .ok (.areturn, 1) := by decide +kernel
abbrev bJ4_length_8abf5 : ByteArray := prog_21_method_93_code
def yJ4_length_8abf5 : MethodName := ⟨"java/lang/StringBuilder", "length", "()I"⟩
-- no words: J4_length_8abf5
theorem dJ4_length_8abf5_0 : decode bJ4_length_8abf5 0 = .ok (.aload_n 0, 1) := by decide +kernel
theorem dJ4_length_8abf5_1 : decode bJ4_length_8abf5 1 = .ok (.invokespecial 343, 3) := by decide +kernel
theorem dJ4_length_8abf5_4 : decode bJ4_length_8abf5 4 = .ok (.ireturn, 1) := by decide +kernel
abbrev bJ1_charAt_3b067 : ByteArray := prog_22_method_2_code
def yJ1_charAt_3b067 : MethodName := ⟨"java/lang/StringLatin1", "charAt", "([BI)C"⟩
theorem wJ1_charAt_3b067 : YS yJ1_charAt_3b067 bJ1_charAt_3b067 2 (some .char) 2 := ⟨LW_i 267 (by decide +kernel) (by decide +kernel), LW_i 35 (by decide +kernel) (by decide +kernel), LW_i 268 (by decide +kernel) (by decide +kernel), by decide +kernel, by decide +kernel⟩
theorem dJ1_charAt_3b067_0 : decode bJ1_charAt_3b067 0 = .ok (.iload_n 1, 1) := by decide +kernel
theorem dJ1_charAt_3b067_1 : decode bJ1_charAt_3b067 1 = .ok (.aload_n 0, 1) := by decide +kernel
theorem dJ1_charAt_3b067_2 : decode bJ1_charAt_3b067 2 = .ok (.arraylength, 1) := by decide +kernel
theorem dJ1_charAt_3b067_3 : decode bJ1_charAt_3b067 3 = .ok (.invokestatic 9, 3) := by decide +kernel
theorem dJ1_charAt_3b067_6 : decode bJ1_charAt_3b067 6 = .ok (.aload_n 0, 1) := by decide +kernel
theorem dJ1_charAt_3b067_7 : decode bJ1_charAt_3b067 7 = .ok (.iload_n 1, 1) := by decide +kernel
theorem dJ1_charAt_3b067_8 : decode bJ1_charAt_3b067 8 = .ok (.baload, 1) := by decide +kernel
theorem dJ1_charAt_3b067_9 : decode bJ1_charAt_3b067 9 = .ok (.sipush 255, 3) := by decide +kernel
theorem dJ1_charAt_3b067_12 : decode bJ1_charAt_3b067 12 = .ok (.iand, 1) := by decide +kernel
theorem dJ1_charAt_3b067_13 : decode bJ1_charAt_3b067 13 = .ok (.i2c, 1) := by decide +kernel
theorem dJ1_charAt_3b067_14 : decode bJ1_charAt_3b067 14 = .ok (.ireturn, 1) := by decide +kernel
abbrev bJ1_canEncode_fc78d : ByteArray := prog_22_method_3_code
def yJ1_canEncode_fc78d : MethodName := ⟨"java/lang/StringLatin1", "canEncode", "(C)Z"⟩
theorem wJ1_canEncode_fc78d : YS yJ1_canEncode_fc78d bJ1_canEncode_fc78d 1 (some .boolean) 1 := ⟨LW_i 1003 (by decide +kernel) (by decide +kernel), LW_i 35 (by decide +kernel) (by decide +kernel), LW_i 1004 (by decide +kernel) (by decide +kernel), by decide +kernel, by decide +kernel⟩
theorem dJ1_canEncode_fc78d_0 : decode bJ1_canEncode_fc78d 0 = .ok (.iload_n 0, 1) := by decide +kernel
theorem dJ1_canEncode_fc78d_1 : decode bJ1_canEncode_fc78d 1 = .ok (.sipush 255, 3) := by decide +kernel
theorem dJ1_canEncode_fc78d_4 : decode bJ1_canEncode_fc78d 4 = .ok (.if_icmp .gt 7, 3) := by decide +kernel
theorem dJ1_canEncode_fc78d_7 : decode bJ1_canEncode_fc78d 7 = .ok (.iconst 1, 1) := by decide +kernel
theorem dJ1_canEncode_fc78d_8 : decode bJ1_canEncode_fc78d 8 = .ok (.goto 4, 3) := by decide +kernel
theorem dJ1_canEncode_fc78d_11 : decode bJ1_canEncode_fc78d 11 = .ok (.iconst 0, 1) := by decide +kernel
theorem dJ1_canEncode_fc78d_12 : decode bJ1_canEncode_fc78d 12 = .ok (.ireturn, 1) := by decide +kernel
abbrev bJ1_inflate_0e8fd : ByteArray := prog_22_method_50_code
def yJ1_inflate_0e8fd : MethodName := ⟨"java/lang/StringLatin1", "inflate", "([BI[BII)V"⟩
theorem wJ1_inflate_0e8fd : YS yJ1_inflate_0e8fd bJ1_inflate_0e8fd 5 none 5 := ⟨LW_i 938 (by decide +kernel) (by decide +kernel), LW_i 35 (by decide +kernel) (by decide +kernel), LW_i 939 (by decide +kernel) (by decide +kernel), by decide +kernel, by decide +kernel⟩
theorem dJ1_inflate_0e8fd_0 : decode bJ1_inflate_0e8fd 0 = .ok (.aload_n 0, 1) := by decide +kernel
theorem dJ1_inflate_0e8fd_1 : decode bJ1_inflate_0e8fd 1 = .ok (.iload_n 1, 1) := by decide +kernel
theorem dJ1_inflate_0e8fd_2 : decode bJ1_inflate_0e8fd 2 = .ok (.aload_n 2, 1) := by decide +kernel
theorem dJ1_inflate_0e8fd_3 : decode bJ1_inflate_0e8fd 3 = .ok (.iload_n 3, 1) := by decide +kernel
theorem dJ1_inflate_0e8fd_4 : decode bJ1_inflate_0e8fd 4 = .ok (.iload 4, 2) := by decide +kernel
theorem dJ1_inflate_0e8fd_6 : decode bJ1_inflate_0e8fd 6 = .ok (.invokestatic 240, 3) := by decide +kernel
theorem dJ1_inflate_0e8fd_9 : decode bJ1_inflate_0e8fd 9 = .ok (.return_, 1) := by decide +kernel
abbrev bJ7_copyOf_9075b : ByteArray := prog_26_method_121_code
def yJ7_copyOf_9075b : MethodName := ⟨"java/util/Arrays", "copyOf", "([BI)[B"⟩
theorem wJ7_copyOf_9075b : YS yJ7_copyOf_9075b bJ7_copyOf_9075b 3 (some (.array .byte)) 2 := ⟨LW_i 889 (by decide +kernel) (by decide +kernel), LW_i 42 (by decide +kernel) (by decide +kernel), LW_i 890 (by decide +kernel) (by decide +kernel), by decide +kernel, by decide +kernel⟩
theorem dJ7_copyOf_9075b_0 : decode bJ7_copyOf_9075b 0 = .ok (.iload_n 1, 1) := by decide +kernel
theorem dJ7_copyOf_9075b_1 : decode bJ7_copyOf_9075b 1 = .ok (.aload_n 0, 1) := by decide +kernel
theorem dJ7_copyOf_9075b_2 : decode bJ7_copyOf_9075b 2 = .ok (.arraylength, 1) := by decide +kernel
theorem dJ7_copyOf_9075b_3 : decode bJ7_copyOf_9075b 3 = .ok (.if_icmp .ne 11, 3) := by decide +kernel
theorem dJ7_copyOf_9075b_6 : decode bJ7_copyOf_9075b 6 = .ok (.aload_n 0, 1) := by decide +kernel
theorem dJ7_copyOf_9075b_7 : decode bJ7_copyOf_9075b 7 = .ok (.invokevirtual 310, 3) := by decide +kernel
theorem dJ7_copyOf_9075b_10 : decode bJ7_copyOf_9075b 10 = .ok (.checkcast 311, 3) := by decide +kernel
theorem dJ7_copyOf_9075b_13 : decode bJ7_copyOf_9075b 13 = .ok (.areturn, 1) := by decide +kernel
theorem dJ7_copyOf_9075b_14 : decode bJ7_copyOf_9075b 14 = .ok (.iload_n 1, 1) := by decide +kernel
theorem dJ7_copyOf_9075b_15 : decode bJ7_copyOf_9075b 15 = .ok (.newarray .byte, 2) := by decide +kernel
theorem dJ7_copyOf_9075b_17 : decode bJ7_copyOf_9075b 17 = .ok (.astore_n 2, 1) := by decide +kernel
theorem dJ7_copyOf_9075b_18 : decode bJ7_copyOf_9075b 18 = .ok (.aload_n 0, 1) := by decide +kernel
theorem dJ7_copyOf_9075b_19 : decode bJ7_copyOf_9075b 19 = .ok (.iconst 0, 1) := by decide +kernel
theorem dJ7_copyOf_9075b_20 : decode bJ7_copyOf_9075b 20 = .ok (.aload_n 2, 1) := by decide +kernel
theorem dJ7_copyOf_9075b_21 : decode bJ7_copyOf_9075b 21 = .ok (.iconst 0, 1) := by decide +kernel
theorem dJ7_copyOf_9075b_22 : decode bJ7_copyOf_9075b 22 = .ok (.aload_n 0, 1) := by decide +kernel
theorem dJ7_copyOf_9075b_23 : decode bJ7_copyOf_9075b 23 = .ok (.arraylength, 1) := by decide +kernel
theorem dJ7_copyOf_9075b_24 : decode bJ7_copyOf_9075b 24 = .ok (.iload_n 1, 1) := by decide +kernel
theorem dJ7_copyOf_9075b_25 : decode bJ7_copyOf_9075b 25 = .ok (.invokestatic 304, 3) := by decide +kernel
theorem dJ7_copyOf_9075b_28 : decode bJ7_copyOf_9075b 28 = .ok (.invokestatic 150, 3) := by decide +kernel
theorem dJ7_copyOf_9075b_31 : decode bJ7_copyOf_9075b 31 = .ok (.aload_n 2, 1) := by decide +kernel
theorem dJ7_copyOf_9075b_32 : decode bJ7_copyOf_9075b 32 = .ok (.areturn, 1) := by decide +kernel
abbrev bJ7_checkLength_df160 : ByteArray := prog_26_method_131_code
def yJ7_checkLength_df160 : MethodName := ⟨"java/util/Arrays", "checkLength", "(II)V"⟩
theorem wJ7_checkLength_df160 : YS yJ7_checkLength_df160 bJ7_checkLength_df160 2 none 2 := ⟨LW_i 1045 (by decide +kernel) (by decide +kernel), LW_i 42 (by decide +kernel) (by decide +kernel), LW_i 1046 (by decide +kernel) (by decide +kernel), by decide +kernel, by decide +kernel⟩
theorem dJ7_checkLength_df160_0 : decode bJ7_checkLength_df160 0 = .ok (.iload_n 1, 1) := by decide +kernel
theorem dJ7_checkLength_df160_1 : decode bJ7_checkLength_df160 1 = .ok (.iload_n 0, 1) := by decide +kernel
theorem dJ7_checkLength_df160_2 : decode bJ7_checkLength_df160 2 = .ok (.if_icmp .ge 35, 3) := by decide +kernel
theorem dJ7_checkLength_df160_5 : decode bJ7_checkLength_df160 5 = .ok (.new 43, 3) := by decide +kernel
theorem dJ7_checkLength_df160_8 : decode bJ7_checkLength_df160 8 = .ok (.dup, 1) := by decide +kernel
theorem dJ7_checkLength_df160_9 : decode bJ7_checkLength_df160 9 = .ok (.new 45, 3) := by decide +kernel
theorem dJ7_checkLength_df160_12 : decode bJ7_checkLength_df160 12 = .ok (.dup, 1) := by decide +kernel
theorem dJ7_checkLength_df160_13 : decode bJ7_checkLength_df160 13 = .ok (.invokespecial 47, 3) := by decide +kernel
theorem dJ7_checkLength_df160_16 : decode bJ7_checkLength_df160 16 = .ok (.iload_n 0, 1) := by decide +kernel
theorem dJ7_checkLength_df160_17 : decode bJ7_checkLength_df160 17 = .ok (.invokevirtual 54, 3) := by decide +kernel
theorem dJ7_checkLength_df160_20 : decode bJ7_checkLength_df160 20 = .ok (.ldc_w 337, 3) := by decide +kernel
theorem dJ7_checkLength_df160_23 : decode bJ7_checkLength_df160 23 = .ok (.invokevirtual 50, 3) := by decide +kernel
theorem dJ7_checkLength_df160_26 : decode bJ7_checkLength_df160 26 = .ok (.iload_n 1, 1) := by decide +kernel
theorem dJ7_checkLength_df160_27 : decode bJ7_checkLength_df160 27 = .ok (.invokevirtual 54, 3) := by decide +kernel
theorem dJ7_checkLength_df160_30 : decode bJ7_checkLength_df160 30 = .ok (.invokevirtual 61, 3) := by decide +kernel
theorem dJ7_checkLength_df160_33 : decode bJ7_checkLength_df160 33 = .ok (.invokespecial 65, 3) := by decide +kernel
theorem dJ7_checkLength_df160_36 : decode bJ7_checkLength_df160 36 = .ok (.athrow, 1) := by decide +kernel
theorem dJ7_checkLength_df160_37 : decode bJ7_checkLength_df160 37 = .ok (.return_, 1) := by decide +kernel
abbrev bJ7_copyOfRange_39247 : ByteArray := prog_26_method_132_code
def yJ7_copyOfRange_39247 : MethodName := ⟨"java/util/Arrays", "copyOfRange", "([BII)[B"⟩
theorem wJ7_copyOfRange_39247 : YS yJ7_copyOfRange_39247 bJ7_copyOfRange_39247 3 (some (.array .byte)) 3 := ⟨LW_i 1039 (by decide +kernel) (by decide +kernel), LW_i 42 (by decide +kernel) (by decide +kernel), LW_i 1040 (by decide +kernel) (by decide +kernel), by decide +kernel, by decide +kernel⟩
theorem dJ7_copyOfRange_39247_0 : decode bJ7_copyOfRange_39247 0 = .ok (.iload_n 1, 1) := by decide +kernel
theorem dJ7_copyOfRange_39247_1 : decode bJ7_copyOfRange_39247 1 = .ok (.ifCond .ne 9, 3) := by decide +kernel
theorem dJ7_copyOfRange_39247_4 : decode bJ7_copyOfRange_39247 4 = .ok (.iload_n 2, 1) := by decide +kernel
theorem dJ7_copyOfRange_39247_5 : decode bJ7_copyOfRange_39247 5 = .ok (.aload_n 0, 1) := by decide +kernel
theorem dJ7_copyOfRange_39247_6 : decode bJ7_copyOfRange_39247 6 = .ok (.arraylength, 1) := by decide +kernel
theorem dJ7_copyOfRange_39247_7 : decode bJ7_copyOfRange_39247 7 = .ok (.if_icmp .eq 10, 3) := by decide +kernel
theorem dJ7_copyOfRange_39247_10 : decode bJ7_copyOfRange_39247 10 = .ok (.aload_n 0, 1) := by decide +kernel
theorem dJ7_copyOfRange_39247_11 : decode bJ7_copyOfRange_39247 11 = .ok (.iload_n 1, 1) := by decide +kernel
theorem dJ7_copyOfRange_39247_12 : decode bJ7_copyOfRange_39247 12 = .ok (.iload_n 2, 1) := by decide +kernel
theorem dJ7_copyOfRange_39247_13 : decode bJ7_copyOfRange_39247 13 = .ok (.invokestatic 339, 3) := by decide +kernel
theorem dJ7_copyOfRange_39247_16 : decode bJ7_copyOfRange_39247 16 = .ok (.areturn, 1) := by decide +kernel
theorem dJ7_copyOfRange_39247_17 : decode bJ7_copyOfRange_39247 17 = .ok (.aload_n 0, 1) := by decide +kernel
theorem dJ7_copyOfRange_39247_18 : decode bJ7_copyOfRange_39247 18 = .ok (.invokevirtual 310, 3) := by decide +kernel
theorem dJ7_copyOfRange_39247_21 : decode bJ7_copyOfRange_39247 21 = .ok (.checkcast 311, 3) := by decide +kernel
theorem dJ7_copyOfRange_39247_24 : decode bJ7_copyOfRange_39247 24 = .ok (.areturn, 1) := by decide +kernel
abbrev bJ7_copyOfRangeByte_39247 : ByteArray := prog_26_method_133_code
def yJ7_copyOfRangeByte_39247 : MethodName := ⟨"java/util/Arrays", "copyOfRangeByte", "([BII)[B"⟩
theorem wJ7_copyOfRangeByte_39247 : YS yJ7_copyOfRangeByte_39247 bJ7_copyOfRangeByte_39247 5 (some (.array .byte)) 3 := ⟨LW_i 1042 (by decide +kernel) (by decide +kernel), LW_i 42 (by decide +kernel) (by decide +kernel), LW_i 1043 (by decide +kernel) (by decide +kernel), by decide +kernel, by decide +kernel⟩
theorem dJ7_copyOfRangeByte_39247_0 : decode bJ7_copyOfRangeByte_39247 0 = .ok (.iload_n 1, 1) := by decide +kernel
theorem dJ7_copyOfRangeByte_39247_1 : decode bJ7_copyOfRangeByte_39247 1 = .ok (.iload_n 2, 1) := by decide +kernel
theorem dJ7_copyOfRangeByte_39247_2 : decode bJ7_copyOfRangeByte_39247 2 = .ok (.invokestatic 343, 3) := by decide +kernel
theorem dJ7_copyOfRangeByte_39247_5 : decode bJ7_copyOfRangeByte_39247 5 = .ok (.iload_n 2, 1) := by decide +kernel
theorem dJ7_copyOfRangeByte_39247_6 : decode bJ7_copyOfRangeByte_39247 6 = .ok (.iload_n 1, 1) := by decide +kernel
theorem dJ7_copyOfRangeByte_39247_7 : decode bJ7_copyOfRangeByte_39247 7 = .ok (.isub, 1) := by decide +kernel
theorem dJ7_copyOfRangeByte_39247_8 : decode bJ7_copyOfRangeByte_39247 8 = .ok (.istore_n 3, 1) := by decide +kernel
theorem dJ7_copyOfRangeByte_39247_9 : decode bJ7_copyOfRangeByte_39247 9 = .ok (.iload_n 3, 1) := by decide +kernel
theorem dJ7_copyOfRangeByte_39247_10 : decode bJ7_copyOfRangeByte_39247 10 = .ok (.newarray .byte, 2) := by decide +kernel
theorem dJ7_copyOfRangeByte_39247_12 : decode bJ7_copyOfRangeByte_39247 12 = .ok (.astore 4, 2) := by decide +kernel
theorem dJ7_copyOfRangeByte_39247_14 : decode bJ7_copyOfRangeByte_39247 14 = .ok (.aload_n 0, 1) := by decide +kernel
theorem dJ7_copyOfRangeByte_39247_15 : decode bJ7_copyOfRangeByte_39247 15 = .ok (.iload_n 1, 1) := by decide +kernel
theorem dJ7_copyOfRangeByte_39247_16 : decode bJ7_copyOfRangeByte_39247 16 = .ok (.aload 4, 2) := by decide +kernel
theorem dJ7_copyOfRangeByte_39247_18 : decode bJ7_copyOfRangeByte_39247 18 = .ok (.iconst 0, 1) := by decide +kernel
theorem dJ7_copyOfRangeByte_39247_19 : decode bJ7_copyOfRangeByte_39247 19 = .ok (.aload_n 0, 1) := by decide +kernel
theorem dJ7_copyOfRangeByte_39247_20 : decode bJ7_copyOfRangeByte_39247 20 = .ok (.arraylength, 1) := by decide +kernel
theorem dJ7_copyOfRangeByte_39247_21 : decode bJ7_copyOfRangeByte_39247 21 = .ok (.iload_n 1, 1) := by decide +kernel
theorem dJ7_copyOfRangeByte_39247_22 : decode bJ7_copyOfRangeByte_39247 22 = .ok (.isub, 1) := by decide +kernel
theorem dJ7_copyOfRangeByte_39247_23 : decode bJ7_copyOfRangeByte_39247 23 = .ok (.iload_n 3, 1) := by decide +kernel
theorem dJ7_copyOfRangeByte_39247_24 : decode bJ7_copyOfRangeByte_39247 24 = .ok (.invokestatic 304, 3) := by decide +kernel
theorem dJ7_copyOfRangeByte_39247_27 : decode bJ7_copyOfRangeByte_39247 27 = .ok (.invokestatic 150, 3) := by decide +kernel
theorem dJ7_copyOfRangeByte_39247_30 : decode bJ7_copyOfRangeByte_39247 30 = .ok (.aload 4, 2) := by decide +kernel
theorem dJ7_copyOfRangeByte_39247_32 : decode bJ7_copyOfRangeByte_39247 32 = .ok (.areturn, 1) := by decide +kernel
abbrev bJ8_newLength_cabcc : ByteArray := prog_27_method_27_code
def yJ8_newLength_cabcc : MethodName := ⟨"jdk/internal/util/ArraysSupport", "newLength", "(III)I"⟩
theorem wJ8_newLength_cabcc : YS yJ8_newLength_cabcc bJ8_newLength_cabcc 4 (some .int) 3 := ⟨LW_i 879 (by decide +kernel) (by decide +kernel), LW_i 40 (by decide +kernel) (by decide +kernel), LW_i 880 (by decide +kernel) (by decide +kernel), by decide +kernel, by decide +kernel⟩
theorem dJ8_newLength_cabcc_0 : decode bJ8_newLength_cabcc 0 = .ok (.iload_n 0, 1) := by decide +kernel
theorem dJ8_newLength_cabcc_1 : decode bJ8_newLength_cabcc 1 = .ok (.iload_n 1, 1) := by decide +kernel
theorem dJ8_newLength_cabcc_2 : decode bJ8_newLength_cabcc 2 = .ok (.iload_n 2, 1) := by decide +kernel
theorem dJ8_newLength_cabcc_3 : decode bJ8_newLength_cabcc 3 = .ok (.invokestatic 194, 3) := by decide +kernel
theorem dJ8_newLength_cabcc_6 : decode bJ8_newLength_cabcc 6 = .ok (.iadd, 1) := by decide +kernel
theorem dJ8_newLength_cabcc_7 : decode bJ8_newLength_cabcc 7 = .ok (.istore_n 3, 1) := by decide +kernel
theorem dJ8_newLength_cabcc_8 : decode bJ8_newLength_cabcc 8 = .ok (.iconst 0, 1) := by decide +kernel
theorem dJ8_newLength_cabcc_9 : decode bJ8_newLength_cabcc 9 = .ok (.iload_n 3, 1) := by decide +kernel
theorem dJ8_newLength_cabcc_10 : decode bJ8_newLength_cabcc 10 = .ok (.if_icmp .ge 11, 3) := by decide +kernel
theorem dJ8_newLength_cabcc_13 : decode bJ8_newLength_cabcc 13 = .ok (.iload_n 3, 1) := by decide +kernel
theorem dJ8_newLength_cabcc_14 : decode bJ8_newLength_cabcc 14 = .ok (.ldc 200, 2) := by decide +kernel
theorem dJ8_newLength_cabcc_16 : decode bJ8_newLength_cabcc 16 = .ok (.if_icmp .gt 5, 3) := by decide +kernel
theorem dJ8_newLength_cabcc_19 : decode bJ8_newLength_cabcc 19 = .ok (.iload_n 3, 1) := by decide +kernel
theorem dJ8_newLength_cabcc_20 : decode bJ8_newLength_cabcc 20 = .ok (.ireturn, 1) := by decide +kernel
theorem dJ8_newLength_cabcc_21 : decode bJ8_newLength_cabcc 21 = .ok (.iload_n 0, 1) := by decide +kernel
theorem dJ8_newLength_cabcc_22 : decode bJ8_newLength_cabcc 22 = .ok (.iload_n 1, 1) := by decide +kernel
theorem dJ8_newLength_cabcc_23 : decode bJ8_newLength_cabcc 23 = .ok (.invokestatic 201, 3) := by decide +kernel
theorem dJ8_newLength_cabcc_26 : decode bJ8_newLength_cabcc 26 = .ok (.ireturn, 1) := by decide +kernel
abbrev bJ3_checkIndex_8e157 : ByteArray := prog_28_method_11_code
def yJ3_checkIndex_8e157 : MethodName := ⟨"jdk/internal/util/Preconditions", "checkIndex", "(IILjava/util/function/BiFunction;)I"⟩
theorem wJ3_checkIndex_8e157 : YS yJ3_checkIndex_8e157 bJ3_checkIndex_8e157 3 (some .int) 3 := ⟨LW_i 275 (by decide +kernel) (by decide +kernel), LW_i 36 (by decide +kernel) (by decide +kernel), LW_i 276 (by decide +kernel) (by decide +kernel), by decide +kernel, by decide +kernel⟩
theorem dJ3_checkIndex_8e157_0 : decode bJ3_checkIndex_8e157 0 = .ok (.iload_n 0, 1) := by decide +kernel
theorem dJ3_checkIndex_8e157_1 : decode bJ3_checkIndex_8e157 1 = .ok (.ifCond .lt 8, 3) := by decide +kernel
theorem dJ3_checkIndex_8e157_4 : decode bJ3_checkIndex_8e157 4 = .ok (.iload_n 0, 1) := by decide +kernel
theorem dJ3_checkIndex_8e157_5 : decode bJ3_checkIndex_8e157 5 = .ok (.iload_n 1, 1) := by decide +kernel
theorem dJ3_checkIndex_8e157_6 : decode bJ3_checkIndex_8e157 6 = .ok (.if_icmp .lt 10, 3) := by decide +kernel
theorem dJ3_checkIndex_8e157_9 : decode bJ3_checkIndex_8e157 9 = .ok (.aload_n 2, 1) := by decide +kernel
theorem dJ3_checkIndex_8e157_10 : decode bJ3_checkIndex_8e157 10 = .ok (.iload_n 0, 1) := by decide +kernel
theorem dJ3_checkIndex_8e157_11 : decode bJ3_checkIndex_8e157 11 = .ok (.iload_n 1, 1) := by decide +kernel
theorem dJ3_checkIndex_8e157_12 : decode bJ3_checkIndex_8e157 12 = .ok (.invokestatic 95, 3) := by decide +kernel
theorem dJ3_checkIndex_8e157_15 : decode bJ3_checkIndex_8e157 15 = .ok (.athrow, 1) := by decide +kernel
theorem dJ3_checkIndex_8e157_16 : decode bJ3_checkIndex_8e157 16 = .ok (.iload_n 0, 1) := by decide +kernel
theorem dJ3_checkIndex_8e157_17 : decode bJ3_checkIndex_8e157 17 = .ok (.ireturn, 1) := by decide +kernel
abbrev bJ3_checkFromToIndex_8c36e : ByteArray := prog_28_method_12_code
def yJ3_checkFromToIndex_8c36e : MethodName := ⟨"jdk/internal/util/Preconditions", "checkFromToIndex", "(IIILjava/util/function/BiFunction;)I"⟩
theorem wJ3_checkFromToIndex_8c36e : YS yJ3_checkFromToIndex_8c36e bJ3_checkFromToIndex_8c36e 4 (some .int) 4 := ⟨LW_i 920 (by decide +kernel) (by decide +kernel), LW_i 36 (by decide +kernel) (by decide +kernel), LW_i 921 (by decide +kernel) (by decide +kernel), by decide +kernel, by decide +kernel⟩
theorem dJ3_checkFromToIndex_8c36e_0 : decode bJ3_checkFromToIndex_8c36e 0 = .ok (.iload_n 0, 1) := by decide +kernel
theorem dJ3_checkFromToIndex_8c36e_1 : decode bJ3_checkFromToIndex_8c36e 1 = .ok (.ifCond .lt 13, 3) := by decide +kernel
theorem dJ3_checkFromToIndex_8c36e_4 : decode bJ3_checkFromToIndex_8c36e 4 = .ok (.iload_n 0, 1) := by decide +kernel
theorem dJ3_checkFromToIndex_8c36e_5 : decode bJ3_checkFromToIndex_8c36e 5 = .ok (.iload_n 1, 1) := by decide +kernel
theorem dJ3_checkFromToIndex_8c36e_6 : decode bJ3_checkFromToIndex_8c36e 6 = .ok (.if_icmp .gt 8, 3) := by decide +kernel
theorem dJ3_checkFromToIndex_8c36e_9 : decode bJ3_checkFromToIndex_8c36e 9 = .ok (.iload_n 1, 1) := by decide +kernel
theorem dJ3_checkFromToIndex_8c36e_10 : decode bJ3_checkFromToIndex_8c36e 10 = .ok (.iload_n 2, 1) := by decide +kernel
theorem dJ3_checkFromToIndex_8c36e_11 : decode bJ3_checkFromToIndex_8c36e 11 = .ok (.if_icmp .le 11, 3) := by decide +kernel
theorem dJ3_checkFromToIndex_8c36e_14 : decode bJ3_checkFromToIndex_8c36e 14 = .ok (.aload_n 3, 1) := by decide +kernel
theorem dJ3_checkFromToIndex_8c36e_15 : decode bJ3_checkFromToIndex_8c36e 15 = .ok (.iload_n 0, 1) := by decide +kernel
theorem dJ3_checkFromToIndex_8c36e_16 : decode bJ3_checkFromToIndex_8c36e 16 = .ok (.iload_n 1, 1) := by decide +kernel
theorem dJ3_checkFromToIndex_8c36e_17 : decode bJ3_checkFromToIndex_8c36e 17 = .ok (.iload_n 2, 1) := by decide +kernel
theorem dJ3_checkFromToIndex_8c36e_18 : decode bJ3_checkFromToIndex_8c36e 18 = .ok (.invokestatic 99, 3) := by decide +kernel
theorem dJ3_checkFromToIndex_8c36e_21 : decode bJ3_checkFromToIndex_8c36e 21 = .ok (.athrow, 1) := by decide +kernel
theorem dJ3_checkFromToIndex_8c36e_22 : decode bJ3_checkFromToIndex_8c36e 22 = .ok (.iload_n 0, 1) := by decide +kernel
theorem dJ3_checkFromToIndex_8c36e_23 : decode bJ3_checkFromToIndex_8c36e 23 = .ok (.ireturn, 1) := by decide +kernel
abbrev bJ3_checkFromIndexSize_8c36e : ByteArray := prog_28_method_13_code
def yJ3_checkFromIndexSize_8c36e : MethodName := ⟨"jdk/internal/util/Preconditions", "checkFromIndexSize", "(IIILjava/util/function/BiFunction;)I"⟩
theorem wJ3_checkFromIndexSize_8c36e : YS yJ3_checkFromIndexSize_8c36e bJ3_checkFromIndexSize_8c36e 4 (some .int) 4 := ⟨LW_i 950 (by decide +kernel) (by decide +kernel), LW_i 36 (by decide +kernel) (by decide +kernel), LW_i 951 (by decide +kernel) (by decide +kernel), by decide +kernel, by decide +kernel⟩
theorem dJ3_checkFromIndexSize_8c36e_0 : decode bJ3_checkFromIndexSize_8c36e 0 = .ok (.iload_n 2, 1) := by decide +kernel
theorem dJ3_checkFromIndexSize_8c36e_1 : decode bJ3_checkFromIndexSize_8c36e 1 = .ok (.iload_n 0, 1) := by decide +kernel
theorem dJ3_checkFromIndexSize_8c36e_2 : decode bJ3_checkFromIndexSize_8c36e 2 = .ok (.ior, 1) := by decide +kernel
theorem dJ3_checkFromIndexSize_8c36e_3 : decode bJ3_checkFromIndexSize_8c36e 3 = .ok (.iload_n 1, 1) := by decide +kernel
theorem dJ3_checkFromIndexSize_8c36e_4 : decode bJ3_checkFromIndexSize_8c36e 4 = .ok (.ior, 1) := by decide +kernel
theorem dJ3_checkFromIndexSize_8c36e_5 : decode bJ3_checkFromIndexSize_8c36e 5 = .ok (.ifCond .lt 10, 3) := by decide +kernel
theorem dJ3_checkFromIndexSize_8c36e_8 : decode bJ3_checkFromIndexSize_8c36e 8 = .ok (.iload_n 1, 1) := by decide +kernel
theorem dJ3_checkFromIndexSize_8c36e_9 : decode bJ3_checkFromIndexSize_8c36e 9 = .ok (.iload_n 2, 1) := by decide +kernel
theorem dJ3_checkFromIndexSize_8c36e_10 : decode bJ3_checkFromIndexSize_8c36e 10 = .ok (.iload_n 0, 1) := by decide +kernel
theorem dJ3_checkFromIndexSize_8c36e_11 : decode bJ3_checkFromIndexSize_8c36e 11 = .ok (.isub, 1) := by decide +kernel
theorem dJ3_checkFromIndexSize_8c36e_12 : decode bJ3_checkFromIndexSize_8c36e 12 = .ok (.if_icmp .le 11, 3) := by decide +kernel
theorem dJ3_checkFromIndexSize_8c36e_15 : decode bJ3_checkFromIndexSize_8c36e 15 = .ok (.aload_n 3, 1) := by decide +kernel
theorem dJ3_checkFromIndexSize_8c36e_16 : decode bJ3_checkFromIndexSize_8c36e 16 = .ok (.iload_n 0, 1) := by decide +kernel
theorem dJ3_checkFromIndexSize_8c36e_17 : decode bJ3_checkFromIndexSize_8c36e 17 = .ok (.iload_n 1, 1) := by decide +kernel
theorem dJ3_checkFromIndexSize_8c36e_18 : decode bJ3_checkFromIndexSize_8c36e 18 = .ok (.iload_n 2, 1) := by decide +kernel
theorem dJ3_checkFromIndexSize_8c36e_19 : decode bJ3_checkFromIndexSize_8c36e 19 = .ok (.invokestatic 103, 3) := by decide +kernel
theorem dJ3_checkFromIndexSize_8c36e_22 : decode bJ3_checkFromIndexSize_8c36e 22 = .ok (.athrow, 1) := by decide +kernel
theorem dJ3_checkFromIndexSize_8c36e_23 : decode bJ3_checkFromIndexSize_8c36e 23 = .ok (.iload_n 0, 1) := by decide +kernel
theorem dJ3_checkFromIndexSize_8c36e_24 : decode bJ3_checkFromIndexSize_8c36e 24 = .ok (.ireturn, 1) := by decide +kernel
theorem lJ5_3 : .methodLink "java/lang/AbstractStringBuilder" 3 ⟨"java/lang/Object", "<init>", "()V"⟩ ∈ LW := LW_i 841 (by decide +kernel) (by decide +kernel)
theorem lJ5_26 : .methodLink "java/lang/AbstractStringBuilder" 26 ⟨"java/lang/StringUTF16", "newBytesFor", "(I)[B"⟩ ∈ LW := LW_i 846 (by decide +kernel) (by decide +kernel)
theorem lJ5_32 : .methodLink "java/lang/AbstractStringBuilder" 32 ⟨"java/lang/String", "length", "()I"⟩ ∈ LW := LW_i 842 (by decide +kernel) (by decide +kernel)
theorem lJ5_40 : .methodLink "java/lang/AbstractStringBuilder" 40 ⟨"java/lang/String", "coder", "()B"⟩ ∈ LW := LW_i 845 (by decide +kernel) (by decide +kernel)
theorem lJ5_43 : .methodLink "java/lang/AbstractStringBuilder" 43 ⟨"java/lang/AbstractStringBuilder", "append", "(Ljava/lang/String;)Ljava/lang/AbstractStringBuilder;"⟩ ∈ LW := LW_i 853 (by decide +kernel) (by decide +kernel)
theorem lJ5_83 : .methodLink "java/lang/AbstractStringBuilder" 83 ⟨"java/lang/AbstractStringBuilder", "isLatin1", "()Z"⟩ ∈ LW := LW_i 904 (by decide +kernel) (by decide +kernel)
theorem lJ5_100 : .methodLink "java/lang/AbstractStringBuilder" 100 ⟨"java/lang/AbstractStringBuilder", "ensureCapacityInternal", "(I)V"⟩ ∈ LW := LW_i 870 (by decide +kernel) (by decide +kernel)
theorem lJ5_104 : .methodLink "java/lang/AbstractStringBuilder" 104 ⟨"java/lang/AbstractStringBuilder", "newCapacity", "(I)I"⟩ ∈ LW := LW_i 874 (by decide +kernel) (by decide +kernel)
theorem lJ5_108 : .methodLink "java/lang/AbstractStringBuilder" 108 ⟨"java/util/Arrays", "copyOf", "([BI)[B"⟩ ∈ LW := LW_i 888 (by decide +kernel) (by decide +kernel)
theorem lJ5_114 : .methodLink "java/lang/AbstractStringBuilder" 114 ⟨"jdk/internal/util/ArraysSupport", "newLength", "(III)I"⟩ ∈ LW := LW_i 878 (by decide +kernel) (by decide +kernel)
theorem lJ5_125 : .methodLink "java/lang/AbstractStringBuilder" 125 ⟨"java/lang/StringLatin1", "inflate", "([BI[BII)V"⟩ ∈ LW := LW_i 937 (by decide +kernel) (by decide +kernel)
theorem lJ5_191 : .methodLink "java/lang/AbstractStringBuilder" 191 ⟨"java/lang/StringLatin1", "canEncode", "(C)Z"⟩ ∈ LW := LW_i 1002 (by decide +kernel) (by decide +kernel)
theorem lJ5_195 : .methodLink "java/lang/AbstractStringBuilder" 195 ⟨"java/lang/AbstractStringBuilder", "inflate", "()V"⟩ ∈ LW := LW_i 933 (by decide +kernel) (by decide +kernel)
theorem lJ5_197 : .methodLink "java/lang/AbstractStringBuilder" 197 ⟨"java/lang/StringUTF16", "putCharSB", "([BII)V"⟩ ∈ LW := LW_i 1005 (by decide +kernel) (by decide +kernel)
theorem lJ5_204 : .methodLink "java/lang/AbstractStringBuilder" 204 ⟨"java/lang/AbstractStringBuilder", "appendNull", "()Ljava/lang/AbstractStringBuilder;"⟩ ∈ LW := LW_i 866 (by decide +kernel) (by decide +kernel)
theorem lJ5_208 : .methodLink "java/lang/AbstractStringBuilder" 208 ⟨"java/lang/AbstractStringBuilder", "putStringAt", "(ILjava/lang/String;)V"⟩ ∈ LW := LW_i 925 (by decide +kernel) (by decide +kernel)
theorem lJ5_226 : .methodLink "java/lang/AbstractStringBuilder" 226 ⟨"java/lang/StringUTF16", "putCharsAt", "([BICCCC)I"⟩ ∈ LW := LW_i 910 (by decide +kernel) (by decide +kernel)
theorem lJ5_245 : .methodLink "java/lang/AbstractStringBuilder" 245 ⟨"java/lang/Integer", "stringSize", "(I)I"⟩ ∈ LW := LW_i 977 (by decide +kernel) (by decide +kernel)
theorem lJ5_248 : .methodLink "java/lang/AbstractStringBuilder" 248 ⟨"java/lang/Integer", "getChars", "(II[B)I"⟩ ∈ LW := LW_i 980 (by decide +kernel) (by decide +kernel)
theorem lJ5_251 : .methodLink "java/lang/AbstractStringBuilder" 251 ⟨"java/lang/StringUTF16", "getChars", "(III[B)I"⟩ ∈ LW := LW_i 987 (by decide +kernel) (by decide +kernel)
theorem lJ5_397 : .methodLink "java/lang/AbstractStringBuilder" 397 ⟨"java/lang/AbstractStringBuilder", "inflateIfNeededFor", "(Ljava/lang/String;)V"⟩ ∈ LW := LW_i 929 (by decide +kernel) (by decide +kernel)
theorem lJ5_399 : .methodLink "java/lang/AbstractStringBuilder" 399 ⟨"java/lang/String", "getBytes", "([BIB)V"⟩ ∈ LW := LW_i 952 (by decide +kernel) (by decide +kernel)
theorem lJ0_1 : .methodLink "java/lang/String" 1 ⟨"java/lang/Object", "<init>", "()V"⟩ ∈ LW := LW_i 1023 (by decide +kernel) (by decide +kernel)
theorem lJ0_47 : .methodLink "java/lang/String" 47 ⟨"java/lang/StringUTF16", "coderFromArrayLen", "([BI)B"⟩ ∈ LW := LW_i 1054 (by decide +kernel) (by decide +kernel)
theorem lJ0_54 : .methodLink "java/lang/String" 54 ⟨"java/util/Arrays", "copyOfRange", "([BII)[B"⟩ ∈ LW := LW_i 1038 (by decide +kernel) (by decide +kernel)
theorem lJ0_106 : .methodLink "java/lang/String" 106 ⟨"java/lang/StringLatin1", "inflate", "([BI[BII)V"⟩ ∈ LW := LW_i 957 (by decide +kernel) (by decide +kernel)
theorem lJ0_212 : .methodLink "java/lang/String" 212 ⟨"java/lang/System", "arraycopy", "(Ljava/lang/Object;ILjava/lang/Object;II)V"⟩ ∈ LW := LW_i 956 (by decide +kernel) (by decide +kernel)
theorem lJ0_335 : .methodLink "java/lang/String" 335 ⟨"java/lang/String", "coder", "()B"⟩ ∈ LW := LW_i 252 (by decide +kernel) (by decide +kernel)
theorem lJ0_489 : .methodLink "java/lang/String" 489 ⟨"java/lang/String", "<init>", "(Ljava/lang/AbstractStringBuilder;Ljava/lang/Void;)V"⟩ ∈ LW := LW_i 1020 (by decide +kernel) (by decide +kernel)
theorem lJ0_492 : .methodLink "java/lang/String" 492 ⟨"java/lang/String", "isLatin1", "()Z"⟩ ∈ LW := LW_i 262 (by decide +kernel) (by decide +kernel)
theorem lJ0_495 : .methodLink "java/lang/String" 495 ⟨"java/lang/StringLatin1", "charAt", "([BI)C"⟩ ∈ LW := LW_i 266 (by decide +kernel) (by decide +kernel)
theorem lJ0_498 : .methodLink "java/lang/String" 498 ⟨"java/lang/StringUTF16", "charAt", "([BI)C"⟩ ∈ LW := LW_i 277 (by decide +kernel) (by decide +kernel)
theorem lJ0_549 : .methodLink "java/lang/String" 549 ⟨"java/lang/AbstractStringBuilder", "length", "()I"⟩ ∈ LW := LW_i 1029 (by decide +kernel) (by decide +kernel)
theorem lJ0_552 : .methodLink "java/lang/String" 552 ⟨"java/lang/AbstractStringBuilder", "getValue", "()[B"⟩ ∈ LW := LW_i 1024 (by decide +kernel) (by decide +kernel)
theorem lJ0_1047 : .methodLink "java/lang/String" 1047 ⟨"java/lang/AbstractStringBuilder", "isLatin1", "()Z"⟩ ∈ LW := LW_i 1037 (by decide +kernel) (by decide +kernel)
theorem lJ0_1051 : .methodLink "java/lang/String" 1051 ⟨"java/lang/StringUTF16", "compress", "([BII)[B"⟩ ∈ LW := LW_i 1047 (by decide +kernel) (by decide +kernel)
theorem lJ0_1059 : .methodLink "java/lang/String" 1059 ⟨"jdk/internal/util/Preconditions", "checkIndex", "(IILjava/util/function/BiFunction;)I"⟩ ∈ LW := LW_i 274 (by decide +kernel) (by decide +kernel)
theorem lJ0_1062 : .methodLink "java/lang/String" 1062 ⟨"jdk/internal/util/Preconditions", "checkFromToIndex", "(IIILjava/util/function/BiFunction;)I"⟩ ∈ LW := LW_i 919 (by decide +kernel) (by decide +kernel)
theorem lJ0_1065 : .methodLink "java/lang/String" 1065 ⟨"jdk/internal/util/Preconditions", "checkFromIndexSize", "(IIILjava/util/function/BiFunction;)I"⟩ ∈ LW := LW_i 949 (by decide +kernel) (by decide +kernel)
theorem lJ4_7 : .methodLink "java/lang/StringBuilder" 7 ⟨"java/lang/AbstractStringBuilder", "<init>", "(Ljava/lang/String;)V"⟩ ∈ LW := LW_i 838 (by decide +kernel) (by decide +kernel)
theorem lJ4_23 : .methodLink "java/lang/StringBuilder" 23 ⟨"java/lang/StringBuilder", "append", "(Ljava/lang/String;)Ljava/lang/StringBuilder;"⟩ ∈ LW := LW_i 859 (by decide +kernel) (by decide +kernel)
theorem lJ4_29 : .methodLink "java/lang/StringBuilder" 29 ⟨"java/lang/AbstractStringBuilder", "append", "(Ljava/lang/String;)Ljava/lang/AbstractStringBuilder;"⟩ ∈ LW := LW_i 863 (by decide +kernel) (by decide +kernel)
theorem lJ4_50 : .methodLink "java/lang/StringBuilder" 50 ⟨"java/lang/AbstractStringBuilder", "append", "(C)Ljava/lang/AbstractStringBuilder;"⟩ ∈ LW := LW_i 999 (by decide +kernel) (by decide +kernel)
theorem lJ4_53 : .methodLink "java/lang/StringBuilder" 53 ⟨"java/lang/AbstractStringBuilder", "append", "(I)Ljava/lang/AbstractStringBuilder;"⟩ ∈ LW := LW_i 974 (by decide +kernel) (by decide +kernel)
theorem lJ4_137 : .methodLink "java/lang/StringBuilder" 137 ⟨"java/lang/String", "<init>", "(Ljava/lang/StringBuilder;)V"⟩ ∈ LW := LW_i 1017 (by decide +kernel) (by decide +kernel)
theorem lJ4_343 : .methodLink "java/lang/StringBuilder" 343 ⟨"java/lang/AbstractStringBuilder", "length", "()I"⟩ ∈ LW := LW_i 1035 (by decide +kernel) (by decide +kernel)
theorem lJ1_9 : .methodLink "java/lang/StringLatin1" 9 ⟨"java/lang/String", "checkIndex", "(II)V"⟩ ∈ LW := LW_i 269 (by decide +kernel) (by decide +kernel)
theorem lJ1_240 : .methodLink "java/lang/StringLatin1" 240 ⟨"java/lang/StringUTF16", "inflate", "([BI[BII)V"⟩ ∈ LW := LW_i 940 (by decide +kernel) (by decide +kernel)
theorem lJ2_11 : .methodLink "java/lang/StringUTF16" 11 ⟨"java/lang/StringUTF16", "newBytesLength", "(I)I"⟩ ∈ LW := LW_i 849 (by decide +kernel) (by decide +kernel)
theorem lJ2_48 : .methodLink "java/lang/StringUTF16" 48 ⟨"java/lang/StringUTF16", "length", "([B)I"⟩ ∈ LW := LW_i 283 (by decide +kernel) (by decide +kernel)
theorem lJ2_67 : .methodLink "java/lang/StringUTF16" 67 ⟨"java/lang/StringUTF16", "checkIndex", "(I[B)V"⟩ ∈ LW := LW_i 280 (by decide +kernel) (by decide +kernel)
theorem lJ2_71 : .methodLink "java/lang/StringUTF16" 71 ⟨"java/lang/StringUTF16", "getChar", "([BI)C"⟩ ∈ LW := LW_i 287 (by decide +kernel) (by decide +kernel)
theorem lJ2_96 : .methodLink "java/lang/StringUTF16" 96 ⟨"java/lang/StringUTF16", "checkBoundsBeginEnd", "(II[B)V"⟩ ∈ LW := LW_i 913 (by decide +kernel) (by decide +kernel)
theorem lJ2_111 : .methodLink "java/lang/StringUTF16" 111 ⟨"java/lang/StringUTF16", "putChar", "([BII)V"⟩ ∈ LW := LW_i 922 (by decide +kernel) (by decide +kernel)
theorem lJ2_123 : .methodLink "java/lang/StringUTF16" 123 ⟨"java/lang/StringUTF16", "compress", "([BI[BII)I"⟩ ∈ LW := LW_i 1050 (by decide +kernel) (by decide +kernel)
theorem lJ2_126 : .methodLink "java/lang/StringUTF16" 126 ⟨"java/util/Arrays", "copyOfRange", "([BII)[B"⟩ ∈ LW := LW_i 1053 (by decide +kernel) (by decide +kernel)
theorem lJ2_173 : .methodLink "java/lang/StringUTF16" 173 ⟨"java/lang/StringUTF16", "checkBoundsOffCount", "(II[B)V"⟩ ∈ LW := LW_i 943 (by decide +kernel) (by decide +kernel)
theorem lJ2_241 : .methodLink "java/lang/StringUTF16" 241 ⟨"java/lang/String", "checkBoundsBeginEnd", "(III)V"⟩ ∈ LW := LW_i 916 (by decide +kernel) (by decide +kernel)
theorem lJ2_393 : .methodLink "java/lang/StringUTF16" 393 ⟨"java/lang/StringUTF16", "getChars", "(II[B)I"⟩ ∈ LW := LW_i 990 (by decide +kernel) (by decide +kernel)
theorem lJ2_414 : .methodLink "java/lang/StringUTF16" 414 ⟨"java/lang/String", "checkIndex", "(II)V"⟩ ∈ LW := LW_i 286 (by decide +kernel) (by decide +kernel)
theorem lJ2_419 : .methodLink "java/lang/StringUTF16" 419 ⟨"java/lang/String", "checkBoundsOffCount", "(III)I"⟩ ∈ LW := LW_i 946 (by decide +kernel) (by decide +kernel)
theorem lJ7_150 : .methodLink "java/util/Arrays" 150 ⟨"java/lang/System", "arraycopy", "(Ljava/lang/Object;ILjava/lang/Object;II)V"⟩ ∈ LW := LW_i 901 (by decide +kernel) (by decide +kernel)
theorem lJ7_304 : .methodLink "java/util/Arrays" 304 ⟨"java/lang/Math", "min", "(II)I"⟩ ∈ LW := LW_i 898 (by decide +kernel) (by decide +kernel)
theorem lJ7_310 : .methodLink "java/util/Arrays" 310 ⟨"[B", "clone", "()Ljava/lang/Object;"⟩ ∈ LW := LW_i 891 (by decide +kernel) (by decide +kernel)
theorem lJ7_339 : .methodLink "java/util/Arrays" 339 ⟨"java/util/Arrays", "copyOfRangeByte", "([BII)[B"⟩ ∈ LW := LW_i 1041 (by decide +kernel) (by decide +kernel)
theorem lJ7_343 : .methodLink "java/util/Arrays" 343 ⟨"java/util/Arrays", "checkLength", "(II)V"⟩ ∈ LW := LW_i 1044 (by decide +kernel) (by decide +kernel)
theorem lJ8_194 : .methodLink "jdk/internal/util/ArraysSupport" 194 ⟨"java/lang/Math", "max", "(II)I"⟩ ∈ LW := LW_i 881 (by decide +kernel) (by decide +kernel)
theorem lJ8_201 : .methodLink "jdk/internal/util/ArraysSupport" 201 ⟨"jdk/internal/util/ArraysSupport", "hugeLength", "(II)I"⟩ ∈ LW := LW_i 885 (by decide +kernel) (by decide +kernel)
theorem fJ5_15 : .fieldLink "java/lang/AbstractStringBuilder" 15 "java/lang/AbstractStringBuilder" "value" "[B" ∈ LW := LW_i 958 (by decide +kernel) (by decide +kernel)
theorem fJ5_18 : .fieldLink "java/lang/AbstractStringBuilder" 18 "java/lang/String" "COMPACT_STRINGS" "Z" ∈ LW := LW_i 909 (by decide +kernel) (by decide +kernel)
theorem fJ5_22 : .fieldLink "java/lang/AbstractStringBuilder" 22 "java/lang/AbstractStringBuilder" "coder" "B" ∈ LW := LW_i 959 (by decide +kernel) (by decide +kernel)
theorem fJ5_79 : .fieldLink "java/lang/AbstractStringBuilder" 79 "java/lang/AbstractStringBuilder" "count" "I" ∈ LW := LW_i 961 (by decide +kernel) (by decide +kernel)
theorem fJ6_83 : .fieldLink "java/lang/Integer" 83 "java/lang/Integer" "DigitOnes" "[B" ∈ LW := LW_i 983 (by decide +kernel) (by decide +kernel)
theorem fJ6_87 : .fieldLink "java/lang/Integer" 87 "java/lang/Integer" "DigitTens" "[B" ∈ LW := LW_i 985 (by decide +kernel) (by decide +kernel)
theorem fJ0_9 : .fieldLink "java/lang/String" 9 "java/lang/String" "value" "[B" ∈ LW := LW_i 1057 (by decide +kernel) (by decide +kernel)
theorem fJ0_15 : .fieldLink "java/lang/String" 15 "java/lang/String" "coder" "B" ∈ LW := LW_i 1058 (by decide +kernel) (by decide +kernel)
theorem fJ0_38 : .fieldLink "java/lang/String" 38 "java/lang/String" "COMPACT_STRINGS" "Z" ∈ LW := LW_i 256 (by decide +kernel) (by decide +kernel)
theorem fJ0_1048 : .fieldLink "java/lang/String" 1048 "java/lang/AbstractStringBuilder" "maybeLatin1" "Z" ∈ LW := LW_i 960 (by decide +kernel) (by decide +kernel)
theorem fJ0_1053 : .fieldLink "java/lang/String" 1053 "jdk/internal/util/Preconditions" "SIOOBE_FORMATTER" "Ljava/util/function/BiFunction;" ∈ LW := LW_i 272 (by decide +kernel) (by decide +kernel)
theorem fJ2_44 : .fieldLink "java/lang/StringUTF16" 44 "java/lang/StringUTF16" "$assertionsDisabled" "Z" ∈ LW := LW_i 290 (by decide +kernel) (by decide +kernel)
theorem fJ2_59 : .fieldLink "java/lang/StringUTF16" 59 "java/lang/StringUTF16" "HI_BYTE_SHIFT" "I" ∈ LW := LW_i 292 (by decide +kernel) (by decide +kernel)
theorem fJ2_63 : .fieldLink "java/lang/StringUTF16" 63 "java/lang/StringUTF16" "LO_BYTE_SHIFT" "I" ∈ LW := LW_i 294 (by decide +kernel) (by decide +kernel)
theorem fJ2_403 : .fieldLink "java/lang/StringUTF16" 403 "java/lang/Integer" "DigitOnes" "[B" ∈ LW := LW_i 993 (by decide +kernel) (by decide +kernel)
theorem fJ2_407 : .fieldLink "java/lang/StringUTF16" 407 "java/lang/Integer" "DigitTens" "[B" ∈ LW := LW_i 994 (by decide +kernel) (by decide +kernel)
theorem kkJ5_38 : .constant "java/lang/AbstractStringBuilder" 38 2147483631 ∈ LW := LW_i 843 (by decide +kernel) (by decide +kernel)
theorem kkJ5_39 : .constant "java/lang/AbstractStringBuilder" 39 2147483647 ∈ LW := LW_i 844 (by decide +kernel) (by decide +kernel)
theorem kkJ2_20 : .constant "java/lang/StringUTF16" 20 1073741823 ∈ LW := LW_i 852 (by decide +kernel) (by decide +kernel)
theorem kkJ8_200 : .constant "jdk/internal/util/ArraysSupport" 200 2147483639 ∈ LW := LW_i 884 (by decide +kernel) (by decide +kernel)
end
section
/-! names of the law and of its own class -/
abbrev b6_init : ByteArray := prog_8_method_1_code
def y6_init : MethodName := ⟨"ChannelScheduleLaw$Own", "<init>", "(LChannelSchedule;)V"⟩
theorem w6_init : YI y6_init b6_init 2 1 := ⟨LW_i 671 (by decide +kernel) (by decide +kernel), LW_i 51 (by decide +kernel) (by decide +kernel), LW_i 672 (by decide +kernel) (by decide +kernel), by decide +kernel, by decide +kernel, rfl⟩
theorem d6_init_0 : decode b6_init 0 = .ok (.aload_n 0, 1) := by decide +kernel
theorem d6_init_1 : decode b6_init 1 = .ok (.invokespecial 1, 3) := by decide +kernel
theorem d6_init_4 : decode b6_init 4 = .ok (.aload_n 0, 1) := by decide +kernel
theorem d6_init_5 : decode b6_init 5 = .ok (.bipush 20, 2) := by decide +kernel
theorem d6_init_7 : decode b6_init 7 = .ok (.newarray .int, 2) := by decide +kernel
theorem d6_init_9 : decode b6_init 9 = .ok (.putfield 7, 3) := by decide +kernel
theorem d6_init_12 : decode b6_init 12 = .ok (.aload_n 0, 1) := by decide +kernel
theorem d6_init_13 : decode b6_init 13 = .ok (.bipush 20, 2) := by decide +kernel
theorem d6_init_15 : decode b6_init 15 = .ok (.newarray .boolean, 2) := by decide +kernel
theorem d6_init_17 : decode b6_init 17 = .ok (.putfield 13, 3) := by decide +kernel
theorem d6_init_20 : decode b6_init 20 = .ok (.aload_n 0, 1) := by decide +kernel
theorem d6_init_21 : decode b6_init 21 = .ok (.bipush 20, 2) := by decide +kernel
theorem d6_init_23 : decode b6_init 23 = .ok (.newarray .int, 2) := by decide +kernel
theorem d6_init_25 : decode b6_init 25 = .ok (.putfield 17, 3) := by decide +kernel
theorem d6_init_28 : decode b6_init 28 = .ok (.aload_n 0, 1) := by decide +kernel
theorem d6_init_29 : decode b6_init 29 = .ok (.bipush 20, 2) := by decide +kernel
theorem d6_init_31 : decode b6_init 31 = .ok (.newarray .int, 2) := by decide +kernel
theorem d6_init_33 : decode b6_init 33 = .ok (.putfield 20, 3) := by decide +kernel
theorem d6_init_36 : decode b6_init 36 = .ok (.aload_n 0, 1) := by decide +kernel
theorem d6_init_37 : decode b6_init 37 = .ok (.bipush 8, 2) := by decide +kernel
theorem d6_init_39 : decode b6_init 39 = .ok (.newarray .int, 2) := by decide +kernel
theorem d6_init_41 : decode b6_init 41 = .ok (.putfield 23, 3) := by decide +kernel
theorem d6_init_44 : decode b6_init 44 = .ok (.aload_n 0, 1) := by decide +kernel
theorem d6_init_45 : decode b6_init 45 = .ok (.bipush 8, 2) := by decide +kernel
theorem d6_init_47 : decode b6_init 47 = .ok (.newarray .boolean, 2) := by decide +kernel
theorem d6_init_49 : decode b6_init 49 = .ok (.putfield 26, 3) := by decide +kernel
theorem d6_init_52 : decode b6_init 52 = .ok (.aload_n 0, 1) := by decide +kernel
theorem d6_init_53 : decode b6_init 53 = .ok (.bipush 8, 2) := by decide +kernel
theorem d6_init_55 : decode b6_init 55 = .ok (.newarray .int, 2) := by decide +kernel
theorem d6_init_57 : decode b6_init 57 = .ok (.putfield 29, 3) := by decide +kernel
theorem d6_init_60 : decode b6_init 60 = .ok (.aload_n 0, 1) := by decide +kernel
theorem d6_init_61 : decode b6_init 61 = .ok (.bipush 8, 2) := by decide +kernel
theorem d6_init_63 : decode b6_init 63 = .ok (.newarray .int, 2) := by decide +kernel
theorem d6_init_65 : decode b6_init 65 = .ok (.putfield 32, 3) := by decide +kernel
theorem d6_init_68 : decode b6_init 68 = .ok (.aload_n 0, 1) := by decide +kernel
theorem d6_init_69 : decode b6_init 69 = .ok (.aload_n 1, 1) := by decide +kernel
theorem d6_init_70 : decode b6_init 70 = .ok (.putfield 35, 3) := by decide +kernel
theorem d6_init_73 : decode b6_init 73 = .ok (.return_, 1) := by decide +kernel
abbrev b6_read : ByteArray := prog_8_method_2_code
def y6_read : MethodName := ⟨"ChannelScheduleLaw$Own", "read", "()V"⟩
theorem w6_read : YV y6_read b6_read 2 none 0 := ⟨LW_i 718 (by decide +kernel) (by decide +kernel), LW_i 719 (by decide +kernel) (by decide +kernel), LW_i 51 (by decide +kernel) (by decide +kernel), LW_i 720 (by decide +kernel) (by decide +kernel), by decide +kernel, by decide +kernel⟩
theorem d6_read_0 : decode b6_read 0 = .ok (.aload_n 0, 1) := by decide +kernel
theorem d6_read_1 : decode b6_read 1 = .ok (.aload_n 0, 1) := by decide +kernel
theorem d6_read_2 : decode b6_read 2 = .ok (.getfield 35, 3) := by decide +kernel
theorem d6_read_5 : decode b6_read 5 = .ok (.invokevirtual 39, 3) := by decide +kernel
theorem d6_read_8 : decode b6_read 8 = .ok (.putfield 45, 3) := by decide +kernel
theorem d6_read_11 : decode b6_read 11 = .ok (.aload_n 0, 1) := by decide +kernel
theorem d6_read_12 : decode b6_read 12 = .ok (.aload_n 0, 1) := by decide +kernel
theorem d6_read_13 : decode b6_read 13 = .ok (.getfield 35, 3) := by decide +kernel
theorem d6_read_16 : decode b6_read 16 = .ok (.invokevirtual 49, 3) := by decide +kernel
theorem d6_read_19 : decode b6_read 19 = .ok (.putfield 52, 3) := by decide +kernel
theorem d6_read_22 : decode b6_read 22 = .ok (.iconst 0, 1) := by decide +kernel
theorem d6_read_23 : decode b6_read 23 = .ok (.istore_n 1, 1) := by decide +kernel
theorem d6_read_24 : decode b6_read 24 = .ok (.iload_n 1, 1) := by decide +kernel
theorem d6_read_25 : decode b6_read 25 = .ok (.aload_n 0, 1) := by decide +kernel
theorem d6_read_26 : decode b6_read 26 = .ok (.getfield 45, 3) := by decide +kernel
theorem d6_read_29 : decode b6_read 29 = .ok (.if_icmp .ge 65, 3) := by decide +kernel
theorem d6_read_32 : decode b6_read 32 = .ok (.aload_n 0, 1) := by decide +kernel
theorem d6_read_33 : decode b6_read 33 = .ok (.getfield 7, 3) := by decide +kernel
theorem d6_read_36 : decode b6_read 36 = .ok (.iload_n 1, 1) := by decide +kernel
theorem d6_read_37 : decode b6_read 37 = .ok (.aload_n 0, 1) := by decide +kernel
theorem d6_read_38 : decode b6_read 38 = .ok (.getfield 35, 3) := by decide +kernel
theorem d6_read_41 : decode b6_read 41 = .ok (.iload_n 1, 1) := by decide +kernel
theorem d6_read_42 : decode b6_read 42 = .ok (.invokevirtual 55, 3) := by decide +kernel
theorem d6_read_45 : decode b6_read 45 = .ok (.iastore, 1) := by decide +kernel
theorem d6_read_46 : decode b6_read 46 = .ok (.aload_n 0, 1) := by decide +kernel
theorem d6_read_47 : decode b6_read 47 = .ok (.getfield 13, 3) := by decide +kernel
theorem d6_read_50 : decode b6_read 50 = .ok (.iload_n 1, 1) := by decide +kernel
theorem d6_read_51 : decode b6_read 51 = .ok (.aload_n 0, 1) := by decide +kernel
theorem d6_read_52 : decode b6_read 52 = .ok (.getfield 35, 3) := by decide +kernel
theorem d6_read_55 : decode b6_read 55 = .ok (.iload_n 1, 1) := by decide +kernel
theorem d6_read_56 : decode b6_read 56 = .ok (.invokevirtual 59, 3) := by decide +kernel
theorem d6_read_59 : decode b6_read 59 = .ok (.bastore, 1) := by decide +kernel
theorem d6_read_60 : decode b6_read 60 = .ok (.aload_n 0, 1) := by decide +kernel
theorem d6_read_61 : decode b6_read 61 = .ok (.getfield 17, 3) := by decide +kernel
theorem d6_read_64 : decode b6_read 64 = .ok (.iload_n 1, 1) := by decide +kernel
theorem d6_read_65 : decode b6_read 65 = .ok (.aload_n 0, 1) := by decide +kernel
theorem d6_read_66 : decode b6_read 66 = .ok (.getfield 35, 3) := by decide +kernel
theorem d6_read_69 : decode b6_read 69 = .ok (.iload_n 1, 1) := by decide +kernel
theorem d6_read_70 : decode b6_read 70 = .ok (.invokevirtual 63, 3) := by decide +kernel
theorem d6_read_73 : decode b6_read 73 = .ok (.iastore, 1) := by decide +kernel
theorem d6_read_74 : decode b6_read 74 = .ok (.aload_n 0, 1) := by decide +kernel
theorem d6_read_75 : decode b6_read 75 = .ok (.getfield 20, 3) := by decide +kernel
theorem d6_read_78 : decode b6_read 78 = .ok (.iload_n 1, 1) := by decide +kernel
theorem d6_read_79 : decode b6_read 79 = .ok (.aload_n 0, 1) := by decide +kernel
theorem d6_read_80 : decode b6_read 80 = .ok (.getfield 35, 3) := by decide +kernel
theorem d6_read_83 : decode b6_read 83 = .ok (.iload_n 1, 1) := by decide +kernel
theorem d6_read_84 : decode b6_read 84 = .ok (.invokevirtual 66, 3) := by decide +kernel
theorem d6_read_87 : decode b6_read 87 = .ok (.iastore, 1) := by decide +kernel
theorem d6_read_88 : decode b6_read 88 = .ok (.iinc 1 1, 3) := by decide +kernel
theorem d6_read_91 : decode b6_read 91 = .ok (.goto (-67), 3) := by decide +kernel
theorem d6_read_94 : decode b6_read 94 = .ok (.aload_n 0, 1) := by decide +kernel
theorem d6_read_95 : decode b6_read 95 = .ok (.aload_n 0, 1) := by decide +kernel
theorem d6_read_96 : decode b6_read 96 = .ok (.getfield 35, 3) := by decide +kernel
theorem d6_read_99 : decode b6_read 99 = .ok (.invokevirtual 69, 3) := by decide +kernel
theorem d6_read_102 : decode b6_read 102 = .ok (.putfield 72, 3) := by decide +kernel
theorem d6_read_105 : decode b6_read 105 = .ok (.iconst 0, 1) := by decide +kernel
theorem d6_read_106 : decode b6_read 106 = .ok (.istore_n 1, 1) := by decide +kernel
theorem d6_read_107 : decode b6_read 107 = .ok (.iload_n 1, 1) := by decide +kernel
theorem d6_read_108 : decode b6_read 108 = .ok (.aload_n 0, 1) := by decide +kernel
theorem d6_read_109 : decode b6_read 109 = .ok (.getfield 72, 3) := by decide +kernel
theorem d6_read_112 : decode b6_read 112 = .ok (.if_icmp .ge 65, 3) := by decide +kernel
theorem d6_read_115 : decode b6_read 115 = .ok (.aload_n 0, 1) := by decide +kernel
theorem d6_read_116 : decode b6_read 116 = .ok (.getfield 23, 3) := by decide +kernel
theorem d6_read_119 : decode b6_read 119 = .ok (.iload_n 1, 1) := by decide +kernel
theorem d6_read_120 : decode b6_read 120 = .ok (.aload_n 0, 1) := by decide +kernel
theorem d6_read_121 : decode b6_read 121 = .ok (.getfield 35, 3) := by decide +kernel
theorem d6_read_124 : decode b6_read 124 = .ok (.iload_n 1, 1) := by decide +kernel
theorem d6_read_125 : decode b6_read 125 = .ok (.invokevirtual 75, 3) := by decide +kernel
theorem d6_read_128 : decode b6_read 128 = .ok (.iastore, 1) := by decide +kernel
theorem d6_read_129 : decode b6_read 129 = .ok (.aload_n 0, 1) := by decide +kernel
theorem d6_read_130 : decode b6_read 130 = .ok (.getfield 26, 3) := by decide +kernel
theorem d6_read_133 : decode b6_read 133 = .ok (.iload_n 1, 1) := by decide +kernel
theorem d6_read_134 : decode b6_read 134 = .ok (.aload_n 0, 1) := by decide +kernel
theorem d6_read_135 : decode b6_read 135 = .ok (.getfield 35, 3) := by decide +kernel
theorem d6_read_138 : decode b6_read 138 = .ok (.iload_n 1, 1) := by decide +kernel
theorem d6_read_139 : decode b6_read 139 = .ok (.invokevirtual 78, 3) := by decide +kernel
theorem d6_read_142 : decode b6_read 142 = .ok (.bastore, 1) := by decide +kernel
theorem d6_read_143 : decode b6_read 143 = .ok (.aload_n 0, 1) := by decide +kernel
theorem d6_read_144 : decode b6_read 144 = .ok (.getfield 29, 3) := by decide +kernel
theorem d6_read_147 : decode b6_read 147 = .ok (.iload_n 1, 1) := by decide +kernel
theorem d6_read_148 : decode b6_read 148 = .ok (.aload_n 0, 1) := by decide +kernel
theorem d6_read_149 : decode b6_read 149 = .ok (.getfield 35, 3) := by decide +kernel
theorem d6_read_152 : decode b6_read 152 = .ok (.iload_n 1, 1) := by decide +kernel
theorem d6_read_153 : decode b6_read 153 = .ok (.invokevirtual 81, 3) := by decide +kernel
theorem d6_read_156 : decode b6_read 156 = .ok (.iastore, 1) := by decide +kernel
theorem d6_read_157 : decode b6_read 157 = .ok (.aload_n 0, 1) := by decide +kernel
theorem d6_read_158 : decode b6_read 158 = .ok (.getfield 32, 3) := by decide +kernel
theorem d6_read_161 : decode b6_read 161 = .ok (.iload_n 1, 1) := by decide +kernel
theorem d6_read_162 : decode b6_read 162 = .ok (.aload_n 0, 1) := by decide +kernel
theorem d6_read_163 : decode b6_read 163 = .ok (.getfield 35, 3) := by decide +kernel
theorem d6_read_166 : decode b6_read 166 = .ok (.iload_n 1, 1) := by decide +kernel
theorem d6_read_167 : decode b6_read 167 = .ok (.invokevirtual 84, 3) := by decide +kernel
theorem d6_read_170 : decode b6_read 170 = .ok (.iastore, 1) := by decide +kernel
theorem d6_read_171 : decode b6_read 171 = .ok (.iinc 1 1, 3) := by decide +kernel
theorem d6_read_174 : decode b6_read 174 = .ok (.goto (-67), 3) := by decide +kernel
theorem d6_read_177 : decode b6_read 177 = .ok (.return_, 1) := by decide +kernel
abbrev b6_isFree : ByteArray := prog_8_method_3_code
def y6_isFree : MethodName := ⟨"ChannelScheduleLaw$Own", "isFree", "(ZII)Z"⟩
theorem w6_isFree : YV y6_isFree b6_isFree 5 (some .boolean) 3 := ⟨LW_i 764 (by decide +kernel) (by decide +kernel), LW_i 765 (by decide +kernel) (by decide +kernel), LW_i 51 (by decide +kernel) (by decide +kernel), LW_i 766 (by decide +kernel) (by decide +kernel), by decide +kernel, by decide +kernel⟩
theorem d6_isFree_0 : decode b6_isFree 0 = .ok (.iconst 0, 1) := by decide +kernel
theorem d6_isFree_1 : decode b6_isFree 1 = .ok (.istore 4, 2) := by decide +kernel
theorem d6_isFree_3 : decode b6_isFree 3 = .ok (.iload 4, 2) := by decide +kernel
theorem d6_isFree_5 : decode b6_isFree 5 = .ok (.aload_n 0, 1) := by decide +kernel
theorem d6_isFree_6 : decode b6_isFree 6 = .ok (.getfield 45, 3) := by decide +kernel
theorem d6_isFree_9 : decode b6_isFree 9 = .ok (.if_icmp .ge 45, 3) := by decide +kernel
theorem d6_isFree_12 : decode b6_isFree 12 = .ok (.aload_n 0, 1) := by decide +kernel
theorem d6_isFree_13 : decode b6_isFree 13 = .ok (.getfield 35, 3) := by decide +kernel
theorem d6_isFree_16 : decode b6_isFree 16 = .ok (.aload_n 0, 1) := by decide +kernel
theorem d6_isFree_17 : decode b6_isFree 17 = .ok (.getfield 13, 3) := by decide +kernel
theorem d6_isFree_20 : decode b6_isFree 20 = .ok (.iload 4, 2) := by decide +kernel
theorem d6_isFree_22 : decode b6_isFree 22 = .ok (.baload, 1) := by decide +kernel
theorem d6_isFree_23 : decode b6_isFree 23 = .ok (.aload_n 0, 1) := by decide +kernel
theorem d6_isFree_24 : decode b6_isFree 24 = .ok (.getfield 17, 3) := by decide +kernel
theorem d6_isFree_27 : decode b6_isFree 27 = .ok (.iload 4, 2) := by decide +kernel
theorem d6_isFree_29 : decode b6_isFree 29 = .ok (.iaload, 1) := by decide +kernel
theorem d6_isFree_30 : decode b6_isFree 30 = .ok (.aload_n 0, 1) := by decide +kernel
theorem d6_isFree_31 : decode b6_isFree 31 = .ok (.getfield 20, 3) := by decide +kernel
theorem d6_isFree_34 : decode b6_isFree 34 = .ok (.iload 4, 2) := by decide +kernel
theorem d6_isFree_36 : decode b6_isFree 36 = .ok (.iaload, 1) := by decide +kernel
theorem d6_isFree_37 : decode b6_isFree 37 = .ok (.iload_n 1, 1) := by decide +kernel
theorem d6_isFree_38 : decode b6_isFree 38 = .ok (.iload_n 2, 1) := by decide +kernel
theorem d6_isFree_39 : decode b6_isFree 39 = .ok (.iload_n 3, 1) := by decide +kernel
theorem d6_isFree_40 : decode b6_isFree 40 = .ok (.invokestatic 87, 3) := by decide +kernel
theorem d6_isFree_43 : decode b6_isFree 43 = .ok (.ifCond .eq 5, 3) := by decide +kernel
theorem d6_isFree_46 : decode b6_isFree 46 = .ok (.iconst 0, 1) := by decide +kernel
theorem d6_isFree_47 : decode b6_isFree 47 = .ok (.ireturn, 1) := by decide +kernel
theorem d6_isFree_48 : decode b6_isFree 48 = .ok (.iinc 4 1, 3) := by decide +kernel
theorem d6_isFree_51 : decode b6_isFree 51 = .ok (.goto (-48), 3) := by decide +kernel
theorem d6_isFree_54 : decode b6_isFree 54 = .ok (.iconst 1, 1) := by decide +kernel
theorem d6_isFree_55 : decode b6_isFree 55 = .ok (.ireturn, 1) := by decide +kernel
abbrev b6_find : ByteArray := prog_8_method_4_code
def y6_find : MethodName := ⟨"ChannelScheduleLaw$Own", "find", "(IZII)I"⟩
theorem w6_find : YV y6_find b6_find 6 (some .int) 4 := ⟨LW_i 779 (by decide +kernel) (by decide +kernel), LW_i 780 (by decide +kernel) (by decide +kernel), LW_i 51 (by decide +kernel) (by decide +kernel), LW_i 781 (by decide +kernel) (by decide +kernel), by decide +kernel, by decide +kernel⟩
theorem d6_find_0 : decode b6_find 0 = .ok (.iload_n 3, 1) := by decide +kernel
theorem d6_find_1 : decode b6_find 1 = .ok (.istore 5, 2) := by decide +kernel
theorem d6_find_3 : decode b6_find 3 = .ok (.iload 5, 2) := by decide +kernel
theorem d6_find_5 : decode b6_find 5 = .ok (.iload 4, 2) := by decide +kernel
theorem d6_find_7 : decode b6_find 7 = .ok (.if_icmp .gt 54, 3) := by decide +kernel
theorem d6_find_10 : decode b6_find 10 = .ok (.aload_n 0, 1) := by decide +kernel
theorem d6_find_11 : decode b6_find 11 = .ok (.getfield 45, 3) := by decide +kernel
theorem d6_find_14 : decode b6_find 14 = .ok (.bipush 20, 2) := by decide +kernel
theorem d6_find_16 : decode b6_find 16 = .ok (.if_icmp .ge 45, 3) := by decide +kernel
theorem d6_find_19 : decode b6_find 19 = .ok (.iload 5, 2) := by decide +kernel
theorem d6_find_21 : decode b6_find 21 = .ok (.aload_n 0, 1) := by decide +kernel
theorem d6_find_22 : decode b6_find 22 = .ok (.getfield 35, 3) := by decide +kernel
theorem d6_find_25 : decode b6_find 25 = .ok (.invokevirtual 93, 3) := by decide +kernel
theorem d6_find_28 : decode b6_find 28 = .ok (.if_icmp .lt 27, 3) := by decide +kernel
theorem d6_find_31 : decode b6_find 31 = .ok (.aload_n 0, 1) := by decide +kernel
theorem d6_find_32 : decode b6_find 32 = .ok (.iload_n 2, 1) := by decide +kernel
theorem d6_find_33 : decode b6_find 33 = .ok (.iload 5, 2) := by decide +kernel
theorem d6_find_35 : decode b6_find 35 = .ok (.iload 5, 2) := by decide +kernel
theorem d6_find_37 : decode b6_find 37 = .ok (.aload_n 0, 1) := by decide +kernel
theorem d6_find_38 : decode b6_find 38 = .ok (.getfield 35, 3) := by decide +kernel
theorem d6_find_41 : decode b6_find 41 = .ok (.iload_n 1, 1) := by decide +kernel
theorem d6_find_42 : decode b6_find 42 = .ok (.invokevirtual 96, 3) := by decide +kernel
theorem d6_find_45 : decode b6_find 45 = .ok (.iadd, 1) := by decide +kernel
theorem d6_find_46 : decode b6_find 46 = .ok (.invokevirtual 99, 3) := by decide +kernel
theorem d6_find_49 : decode b6_find 49 = .ok (.ifCond .eq 6, 3) := by decide +kernel
theorem d6_find_52 : decode b6_find 52 = .ok (.iload 5, 2) := by decide +kernel
theorem d6_find_54 : decode b6_find 54 = .ok (.ireturn, 1) := by decide +kernel
theorem d6_find_55 : decode b6_find 55 = .ok (.iinc 5 1, 3) := by decide +kernel
theorem d6_find_58 : decode b6_find 58 = .ok (.goto (-55), 3) := by decide +kernel
theorem d6_find_61 : decode b6_find 61 = .ok (.iconst (-1), 1) := by decide +kernel
theorem d6_find_62 : decode b6_find 62 = .ok (.ireturn, 1) := by decide +kernel
abbrev b6_add : ByteArray := prog_8_method_5_code
def y6_add : MethodName := ⟨"ChannelScheduleLaw$Own", "add", "(IZI)V"⟩
theorem w6_add : YV y6_add b6_add 4 none 3 := ⟨LW_i 786 (by decide +kernel) (by decide +kernel), LW_i 787 (by decide +kernel) (by decide +kernel), LW_i 51 (by decide +kernel) (by decide +kernel), LW_i 788 (by decide +kernel) (by decide +kernel), by decide +kernel, by decide +kernel⟩
theorem d6_add_0 : decode b6_add 0 = .ok (.aload_n 0, 1) := by decide +kernel
theorem d6_add_1 : decode b6_add 1 = .ok (.getfield 7, 3) := by decide +kernel
theorem d6_add_4 : decode b6_add 4 = .ok (.aload_n 0, 1) := by decide +kernel
theorem d6_add_5 : decode b6_add 5 = .ok (.getfield 45, 3) := by decide +kernel
theorem d6_add_8 : decode b6_add 8 = .ok (.iload_n 1, 1) := by decide +kernel
theorem d6_add_9 : decode b6_add 9 = .ok (.iastore, 1) := by decide +kernel
theorem d6_add_10 : decode b6_add 10 = .ok (.aload_n 0, 1) := by decide +kernel
theorem d6_add_11 : decode b6_add 11 = .ok (.getfield 13, 3) := by decide +kernel
theorem d6_add_14 : decode b6_add 14 = .ok (.aload_n 0, 1) := by decide +kernel
theorem d6_add_15 : decode b6_add 15 = .ok (.getfield 45, 3) := by decide +kernel
theorem d6_add_18 : decode b6_add 18 = .ok (.iload_n 2, 1) := by decide +kernel
theorem d6_add_19 : decode b6_add 19 = .ok (.bastore, 1) := by decide +kernel
theorem d6_add_20 : decode b6_add 20 = .ok (.aload_n 0, 1) := by decide +kernel
theorem d6_add_21 : decode b6_add 21 = .ok (.getfield 17, 3) := by decide +kernel
theorem d6_add_24 : decode b6_add 24 = .ok (.aload_n 0, 1) := by decide +kernel
theorem d6_add_25 : decode b6_add 25 = .ok (.getfield 45, 3) := by decide +kernel
theorem d6_add_28 : decode b6_add 28 = .ok (.iload_n 3, 1) := by decide +kernel
theorem d6_add_29 : decode b6_add 29 = .ok (.iastore, 1) := by decide +kernel
theorem d6_add_30 : decode b6_add 30 = .ok (.aload_n 0, 1) := by decide +kernel
theorem d6_add_31 : decode b6_add 31 = .ok (.getfield 20, 3) := by decide +kernel
theorem d6_add_34 : decode b6_add 34 = .ok (.aload_n 0, 1) := by decide +kernel
theorem d6_add_35 : decode b6_add 35 = .ok (.getfield 45, 3) := by decide +kernel
theorem d6_add_38 : decode b6_add 38 = .ok (.iload_n 3, 1) := by decide +kernel
theorem d6_add_39 : decode b6_add 39 = .ok (.aload_n 0, 1) := by decide +kernel
theorem d6_add_40 : decode b6_add 40 = .ok (.getfield 35, 3) := by decide +kernel
theorem d6_add_43 : decode b6_add 43 = .ok (.iload_n 1, 1) := by decide +kernel
theorem d6_add_44 : decode b6_add 44 = .ok (.invokevirtual 96, 3) := by decide +kernel
theorem d6_add_47 : decode b6_add 47 = .ok (.iadd, 1) := by decide +kernel
theorem d6_add_48 : decode b6_add 48 = .ok (.iastore, 1) := by decide +kernel
theorem d6_add_49 : decode b6_add 49 = .ok (.aload_n 0, 1) := by decide +kernel
theorem d6_add_50 : decode b6_add 50 = .ok (.dup, 1) := by decide +kernel
theorem d6_add_51 : decode b6_add 51 = .ok (.getfield 45, 3) := by decide +kernel
theorem d6_add_54 : decode b6_add 54 = .ok (.iconst 1, 1) := by decide +kernel
theorem d6_add_55 : decode b6_add 55 = .ok (.iadd, 1) := by decide +kernel
theorem d6_add_56 : decode b6_add 56 = .ok (.putfield 45, 3) := by decide +kernel
theorem d6_add_59 : decode b6_add 59 = .ok (.return_, 1) := by decide +kernel
abbrev b6_process : ByteArray := prog_8_method_6_code
def y6_process : MethodName := ⟨"ChannelScheduleLaw$Own", "process", "()I"⟩
theorem w6_process : YV y6_process b6_process 5 (some .int) 0 := ⟨LW_i 790 (by decide +kernel) (by decide +kernel), LW_i 791 (by decide +kernel) (by decide +kernel), LW_i 51 (by decide +kernel) (by decide +kernel), LW_i 792 (by decide +kernel) (by decide +kernel), by decide +kernel, by decide +kernel⟩
theorem d6_process_0 : decode b6_process 0 = .ok (.iconst 0, 1) := by decide +kernel
theorem d6_process_1 : decode b6_process 1 = .ok (.istore_n 1, 1) := by decide +kernel
theorem d6_process_2 : decode b6_process 2 = .ok (.iconst 0, 1) := by decide +kernel
theorem d6_process_3 : decode b6_process 3 = .ok (.istore_n 2, 1) := by decide +kernel
theorem d6_process_4 : decode b6_process 4 = .ok (.iconst 0, 1) := by decide +kernel
theorem d6_process_5 : decode b6_process 5 = .ok (.istore_n 3, 1) := by decide +kernel
theorem d6_process_6 : decode b6_process 6 = .ok (.iload_n 3, 1) := by decide +kernel
theorem d6_process_7 : decode b6_process 7 = .ok (.aload_n 0, 1) := by decide +kernel
theorem d6_process_8 : decode b6_process 8 = .ok (.getfield 72, 3) := by decide +kernel
theorem d6_process_11 : decode b6_process 11 = .ok (.if_icmp .ge 119, 3) := by decide +kernel
theorem d6_process_14 : decode b6_process 14 = .ok (.aload_n 0, 1) := by decide +kernel
theorem d6_process_15 : decode b6_process 15 = .ok (.aload_n 0, 1) := by decide +kernel
theorem d6_process_16 : decode b6_process 16 = .ok (.getfield 23, 3) := by decide +kernel
theorem d6_process_19 : decode b6_process 19 = .ok (.iload_n 3, 1) := by decide +kernel
theorem d6_process_20 : decode b6_process 20 = .ok (.iaload, 1) := by decide +kernel
theorem d6_process_21 : decode b6_process 21 = .ok (.aload_n 0, 1) := by decide +kernel
theorem d6_process_22 : decode b6_process 22 = .ok (.getfield 26, 3) := by decide +kernel
theorem d6_process_25 : decode b6_process 25 = .ok (.iload_n 3, 1) := by decide +kernel
theorem d6_process_26 : decode b6_process 26 = .ok (.baload, 1) := by decide +kernel
theorem d6_process_27 : decode b6_process 27 = .ok (.aload_n 0, 1) := by decide +kernel
theorem d6_process_28 : decode b6_process 28 = .ok (.getfield 29, 3) := by decide +kernel
theorem d6_process_31 : decode b6_process 31 = .ok (.iload_n 3, 1) := by decide +kernel
theorem d6_process_32 : decode b6_process 32 = .ok (.iaload, 1) := by decide +kernel
theorem d6_process_33 : decode b6_process 33 = .ok (.aload_n 0, 1) := by decide +kernel
theorem d6_process_34 : decode b6_process 34 = .ok (.getfield 32, 3) := by decide +kernel
theorem d6_process_37 : decode b6_process 37 = .ok (.iload_n 3, 1) := by decide +kernel
theorem d6_process_38 : decode b6_process 38 = .ok (.iaload, 1) := by decide +kernel
theorem d6_process_39 : decode b6_process 39 = .ok (.invokevirtual 103, 3) := by decide +kernel
theorem d6_process_42 : decode b6_process 42 = .ok (.istore 4, 2) := by decide +kernel
theorem d6_process_44 : decode b6_process 44 = .ok (.iload 4, 2) := by decide +kernel
theorem d6_process_46 : decode b6_process 46 = .ok (.ifCond .lt 27, 3) := by decide +kernel
theorem d6_process_49 : decode b6_process 49 = .ok (.aload_n 0, 1) := by decide +kernel
theorem d6_process_50 : decode b6_process 50 = .ok (.aload_n 0, 1) := by decide +kernel
theorem d6_process_51 : decode b6_process 51 = .ok (.getfield 23, 3) := by decide +kernel
theorem d6_process_54 : decode b6_process 54 = .ok (.iload_n 3, 1) := by decide +kernel
theorem d6_process_55 : decode b6_process 55 = .ok (.iaload, 1) := by decide +kernel
theorem d6_process_56 : decode b6_process 56 = .ok (.aload_n 0, 1) := by decide +kernel
theorem d6_process_57 : decode b6_process 57 = .ok (.getfield 26, 3) := by decide +kernel
theorem d6_process_60 : decode b6_process 60 = .ok (.iload_n 3, 1) := by decide +kernel
theorem d6_process_61 : decode b6_process 61 = .ok (.baload, 1) := by decide +kernel
theorem d6_process_62 : decode b6_process 62 = .ok (.iload 4, 2) := by decide +kernel
theorem d6_process_64 : decode b6_process 64 = .ok (.invokevirtual 107, 3) := by decide +kernel
theorem d6_process_67 : decode b6_process 67 = .ok (.iinc 1 1, 3) := by decide +kernel
theorem d6_process_70 : decode b6_process 70 = .ok (.goto 54, 3) := by decide +kernel
theorem d6_process_73 : decode b6_process 73 = .ok (.aload_n 0, 1) := by decide +kernel
theorem d6_process_74 : decode b6_process 74 = .ok (.getfield 23, 3) := by decide +kernel
theorem d6_process_77 : decode b6_process 77 = .ok (.iload_n 2, 1) := by decide +kernel
theorem d6_process_78 : decode b6_process 78 = .ok (.aload_n 0, 1) := by decide +kernel
theorem d6_process_79 : decode b6_process 79 = .ok (.getfield 23, 3) := by decide +kernel
theorem d6_process_82 : decode b6_process 82 = .ok (.iload_n 3, 1) := by decide +kernel
theorem d6_process_83 : decode b6_process 83 = .ok (.iaload, 1) := by decide +kernel
theorem d6_process_84 : decode b6_process 84 = .ok (.iastore, 1) := by decide +kernel
theorem d6_process_85 : decode b6_process 85 = .ok (.aload_n 0, 1) := by decide +kernel
theorem d6_process_86 : decode b6_process 86 = .ok (.getfield 26, 3) := by decide +kernel
theorem d6_process_89 : decode b6_process 89 = .ok (.iload_n 2, 1) := by decide +kernel
theorem d6_process_90 : decode b6_process 90 = .ok (.aload_n 0, 1) := by decide +kernel
theorem d6_process_91 : decode b6_process 91 = .ok (.getfield 26, 3) := by decide +kernel
theorem d6_process_94 : decode b6_process 94 = .ok (.iload_n 3, 1) := by decide +kernel
theorem d6_process_95 : decode b6_process 95 = .ok (.baload, 1) := by decide +kernel
theorem d6_process_96 : decode b6_process 96 = .ok (.bastore, 1) := by decide +kernel
theorem d6_process_97 : decode b6_process 97 = .ok (.aload_n 0, 1) := by decide +kernel
theorem d6_process_98 : decode b6_process 98 = .ok (.getfield 29, 3) := by decide +kernel
theorem d6_process_101 : decode b6_process 101 = .ok (.iload_n 2, 1) := by decide +kernel
theorem d6_process_102 : decode b6_process 102 = .ok (.aload_n 0, 1) := by decide +kernel
theorem d6_process_103 : decode b6_process 103 = .ok (.getfield 29, 3) := by decide +kernel
theorem d6_process_106 : decode b6_process 106 = .ok (.iload_n 3, 1) := by decide +kernel
theorem d6_process_107 : decode b6_process 107 = .ok (.iaload, 1) := by decide +kernel
theorem d6_process_108 : decode b6_process 108 = .ok (.iastore, 1) := by decide +kernel
theorem d6_process_109 : decode b6_process 109 = .ok (.aload_n 0, 1) := by decide +kernel
theorem d6_process_110 : decode b6_process 110 = .ok (.getfield 32, 3) := by decide +kernel
theorem d6_process_113 : decode b6_process 113 = .ok (.iload_n 2, 1) := by decide +kernel
theorem d6_process_114 : decode b6_process 114 = .ok (.aload_n 0, 1) := by decide +kernel
theorem d6_process_115 : decode b6_process 115 = .ok (.getfield 32, 3) := by decide +kernel
theorem d6_process_118 : decode b6_process 118 = .ok (.iload_n 3, 1) := by decide +kernel
theorem d6_process_119 : decode b6_process 119 = .ok (.iaload, 1) := by decide +kernel
theorem d6_process_120 : decode b6_process 120 = .ok (.iastore, 1) := by decide +kernel
theorem d6_process_121 : decode b6_process 121 = .ok (.iinc 2 1, 3) := by decide +kernel
theorem d6_process_124 : decode b6_process 124 = .ok (.iinc 3 1, 3) := by decide +kernel
theorem d6_process_127 : decode b6_process 127 = .ok (.goto (-121), 3) := by decide +kernel
theorem d6_process_130 : decode b6_process 130 = .ok (.aload_n 0, 1) := by decide +kernel
theorem d6_process_131 : decode b6_process 131 = .ok (.iload_n 2, 1) := by decide +kernel
theorem d6_process_132 : decode b6_process 132 = .ok (.putfield 72, 3) := by decide +kernel
theorem d6_process_135 : decode b6_process 135 = .ok (.aload_n 0, 1) := by decide +kernel
theorem d6_process_136 : decode b6_process 136 = .ok (.dup, 1) := by decide +kernel
theorem d6_process_137 : decode b6_process 137 = .ok (.getfield 52, 3) := by decide +kernel
theorem d6_process_140 : decode b6_process 140 = .ok (.iload_n 1, 1) := by decide +kernel
theorem d6_process_141 : decode b6_process 141 = .ok (.iadd, 1) := by decide +kernel
theorem d6_process_142 : decode b6_process 142 = .ok (.putfield 52, 3) := by decide +kernel
theorem d6_process_145 : decode b6_process 145 = .ok (.iload_n 1, 1) := by decide +kernel
theorem d6_process_146 : decode b6_process 146 = .ok (.ireturn, 1) := by decide +kernel
abbrev b6_remove : ByteArray := prog_8_method_7_code
def y6_remove : MethodName := ⟨"ChannelScheduleLaw$Own", "remove", "(I)V"⟩
theorem w6_remove : YV y6_remove b6_remove 3 none 1 := ⟨LW_i 796 (by decide +kernel) (by decide +kernel), LW_i 797 (by decide +kernel) (by decide +kernel), LW_i 51 (by decide +kernel) (by decide +kernel), LW_i 798 (by decide +kernel) (by decide +kernel), by decide +kernel, by decide +kernel⟩
theorem d6_remove_0 : decode b6_remove 0 = .ok (.aload_n 0, 1) := by decide +kernel
theorem d6_remove_1 : decode b6_remove 1 = .ok (.dup, 1) := by decide +kernel
theorem d6_remove_2 : decode b6_remove 2 = .ok (.getfield 45, 3) := by decide +kernel
theorem d6_remove_5 : decode b6_remove 5 = .ok (.iconst 1, 1) := by decide +kernel
theorem d6_remove_6 : decode b6_remove 6 = .ok (.isub, 1) := by decide +kernel
theorem d6_remove_7 : decode b6_remove 7 = .ok (.putfield 45, 3) := by decide +kernel
theorem d6_remove_10 : decode b6_remove 10 = .ok (.iload_n 1, 1) := by decide +kernel
theorem d6_remove_11 : decode b6_remove 11 = .ok (.istore_n 2, 1) := by decide +kernel
theorem d6_remove_12 : decode b6_remove 12 = .ok (.iload_n 2, 1) := by decide +kernel
theorem d6_remove_13 : decode b6_remove 13 = .ok (.aload_n 0, 1) := by decide +kernel
theorem d6_remove_14 : decode b6_remove 14 = .ok (.getfield 45, 3) := by decide +kernel
theorem d6_remove_17 : decode b6_remove 17 = .ok (.if_icmp .ge 65, 3) := by decide +kernel
theorem d6_remove_20 : decode b6_remove 20 = .ok (.aload_n 0, 1) := by decide +kernel
theorem d6_remove_21 : decode b6_remove 21 = .ok (.getfield 7, 3) := by decide +kernel
theorem d6_remove_24 : decode b6_remove 24 = .ok (.iload_n 2, 1) := by decide +kernel
theorem d6_remove_25 : decode b6_remove 25 = .ok (.aload_n 0, 1) := by decide +kernel
theorem d6_remove_26 : decode b6_remove 26 = .ok (.getfield 7, 3) := by decide +kernel
theorem d6_remove_29 : decode b6_remove 29 = .ok (.iload_n 2, 1) := by decide +kernel
theorem d6_remove_30 : decode b6_remove 30 = .ok (.iconst 1, 1) := by decide +kernel
theorem d6_remove_31 : decode b6_remove 31 = .ok (.iadd, 1) := by decide +kernel
theorem d6_remove_32 : decode b6_remove 32 = .ok (.iaload, 1) := by decide +kernel
theorem d6_remove_33 : decode b6_remove 33 = .ok (.iastore, 1) := by decide +kernel
theorem d6_remove_34 : decode b6_remove 34 = .ok (.aload_n 0, 1) := by decide +kernel
theorem d6_remove_35 : decode b6_remove 35 = .ok (.getfield 13, 3) := by decide +kernel
theorem d6_remove_38 : decode b6_remove 38 = .ok (.iload_n 2, 1) := by decide +kernel
theorem d6_remove_39 : decode b6_remove 39 = .ok (.aload_n 0, 1) := by decide +kernel
theorem d6_remove_40 : decode b6_remove 40 = .ok (.getfield 13, 3) := by decide +kernel
theorem d6_remove_43 : decode b6_remove 43 = .ok (.iload_n 2, 1) := by decide +kernel
theorem d6_remove_44 : decode b6_remove 44 = .ok (.iconst 1, 1) := by decide +kernel
theorem d6_remove_45 : decode b6_remove 45 = .ok (.iadd, 1) := by decide +kernel
theorem d6_remove_46 : decode b6_remove 46 = .ok (.baload, 1) := by decide +kernel
theorem d6_remove_47 : decode b6_remove 47 = .ok (.bastore, 1) := by decide +kernel
theorem d6_remove_48 : decode b6_remove 48 = .ok (.aload_n 0, 1) := by decide +kernel
theorem d6_remove_49 : decode b6_remove 49 = .ok (.getfield 17, 3) := by decide +kernel
theorem d6_remove_52 : decode b6_remove 52 = .ok (.iload_n 2, 1) := by decide +kernel
theorem d6_remove_53 : decode b6_remove 53 = .ok (.aload_n 0, 1) := by decide +kernel
theorem d6_remove_54 : decode b6_remove 54 = .ok (.getfield 17, 3) := by decide +kernel
theorem d6_remove_57 : decode b6_remove 57 = .ok (.iload_n 2, 1) := by decide +kernel
theorem d6_remove_58 : decode b6_remove 58 = .ok (.iconst 1, 1) := by decide +kernel
theorem d6_remove_59 : decode b6_remove 59 = .ok (.iadd, 1) := by decide +kernel
theorem d6_remove_60 : decode b6_remove 60 = .ok (.iaload, 1) := by decide +kernel
theorem d6_remove_61 : decode b6_remove 61 = .ok (.iastore, 1) := by decide +kernel
theorem d6_remove_62 : decode b6_remove 62 = .ok (.aload_n 0, 1) := by decide +kernel
theorem d6_remove_63 : decode b6_remove 63 = .ok (.getfield 20, 3) := by decide +kernel
theorem d6_remove_66 : decode b6_remove 66 = .ok (.iload_n 2, 1) := by decide +kernel
theorem d6_remove_67 : decode b6_remove 67 = .ok (.aload_n 0, 1) := by decide +kernel
theorem d6_remove_68 : decode b6_remove 68 = .ok (.getfield 20, 3) := by decide +kernel
theorem d6_remove_71 : decode b6_remove 71 = .ok (.iload_n 2, 1) := by decide +kernel
theorem d6_remove_72 : decode b6_remove 72 = .ok (.iconst 1, 1) := by decide +kernel
theorem d6_remove_73 : decode b6_remove 73 = .ok (.iadd, 1) := by decide +kernel
theorem d6_remove_74 : decode b6_remove 74 = .ok (.iaload, 1) := by decide +kernel
theorem d6_remove_75 : decode b6_remove 75 = .ok (.iastore, 1) := by decide +kernel
theorem d6_remove_76 : decode b6_remove 76 = .ok (.iinc 2 1, 3) := by decide +kernel
theorem d6_remove_79 : decode b6_remove 79 = .ok (.goto (-67), 3) := by decide +kernel
theorem d6_remove_82 : decode b6_remove 82 = .ok (.return_, 1) := by decide +kernel
abbrev b6_agrees : ByteArray := prog_8_method_8_code
def y6_agrees : MethodName := ⟨"ChannelScheduleLaw$Own", "agrees", "()Z"⟩
theorem w6_agrees : YV y6_agrees b6_agrees 4 (some .boolean) 0 := ⟨LW_i 800 (by decide +kernel) (by decide +kernel), LW_i 801 (by decide +kernel) (by decide +kernel), LW_i 51 (by decide +kernel) (by decide +kernel), LW_i 802 (by decide +kernel) (by decide +kernel), by decide +kernel, by decide +kernel⟩
theorem d6_agrees_0 : decode b6_agrees 0 = .ok (.aload_n 0, 1) := by decide +kernel
theorem d6_agrees_1 : decode b6_agrees 1 = .ok (.getfield 35, 3) := by decide +kernel
theorem d6_agrees_4 : decode b6_agrees 4 = .ok (.invokevirtual 39, 3) := by decide +kernel
theorem d6_agrees_7 : decode b6_agrees 7 = .ok (.aload_n 0, 1) := by decide +kernel
theorem d6_agrees_8 : decode b6_agrees 8 = .ok (.getfield 45, 3) := by decide +kernel
theorem d6_agrees_11 : decode b6_agrees 11 = .ok (.if_icmp .ne 31, 3) := by decide +kernel
theorem d6_agrees_14 : decode b6_agrees 14 = .ok (.aload_n 0, 1) := by decide +kernel
theorem d6_agrees_15 : decode b6_agrees 15 = .ok (.getfield 35, 3) := by decide +kernel
theorem d6_agrees_18 : decode b6_agrees 18 = .ok (.invokevirtual 69, 3) := by decide +kernel
theorem d6_agrees_21 : decode b6_agrees 21 = .ok (.aload_n 0, 1) := by decide +kernel
theorem d6_agrees_22 : decode b6_agrees 22 = .ok (.getfield 72, 3) := by decide +kernel
theorem d6_agrees_25 : decode b6_agrees 25 = .ok (.if_icmp .ne 17, 3) := by decide +kernel
theorem d6_agrees_28 : decode b6_agrees 28 = .ok (.aload_n 0, 1) := by decide +kernel
theorem d6_agrees_29 : decode b6_agrees 29 = .ok (.getfield 35, 3) := by decide +kernel
theorem d6_agrees_32 : decode b6_agrees 32 = .ok (.invokevirtual 49, 3) := by decide +kernel
theorem d6_agrees_35 : decode b6_agrees 35 = .ok (.aload_n 0, 1) := by decide +kernel
theorem d6_agrees_36 : decode b6_agrees 36 = .ok (.getfield 52, 3) := by decide +kernel
theorem d6_agrees_39 : decode b6_agrees 39 = .ok (.if_icmp .eq 5, 3) := by decide +kernel
theorem d6_agrees_42 : decode b6_agrees 42 = .ok (.iconst 0, 1) := by decide +kernel
theorem d6_agrees_43 : decode b6_agrees 43 = .ok (.ireturn, 1) := by decide +kernel
theorem d6_agrees_44 : decode b6_agrees 44 = .ok (.iconst 0, 1) := by decide +kernel
theorem d6_agrees_45 : decode b6_agrees 45 = .ok (.istore_n 1, 1) := by decide +kernel
theorem d6_agrees_46 : decode b6_agrees 46 = .ok (.iload_n 1, 1) := by decide +kernel
theorem d6_agrees_47 : decode b6_agrees 47 = .ok (.aload_n 0, 1) := by decide +kernel
theorem d6_agrees_48 : decode b6_agrees 48 = .ok (.getfield 45, 3) := by decide +kernel
theorem d6_agrees_51 : decode b6_agrees 51 = .ok (.if_icmp .ge 272, 3) := by decide +kernel
theorem d6_agrees_54 : decode b6_agrees 54 = .ok (.iconst 0, 1) := by decide +kernel
theorem d6_agrees_55 : decode b6_agrees 55 = .ok (.istore_n 2, 1) := by decide +kernel
theorem d6_agrees_56 : decode b6_agrees 56 = .ok (.iconst 0, 1) := by decide +kernel
theorem d6_agrees_57 : decode b6_agrees 57 = .ok (.istore_n 3, 1) := by decide +kernel
theorem d6_agrees_58 : decode b6_agrees 58 = .ok (.iload_n 3, 1) := by decide +kernel
theorem d6_agrees_59 : decode b6_agrees 59 = .ok (.aload_n 0, 1) := by decide +kernel
theorem d6_agrees_60 : decode b6_agrees 60 = .ok (.getfield 45, 3) := by decide +kernel
theorem d6_agrees_63 : decode b6_agrees 63 = .ok (.if_icmp .ge 184, 3) := by decide +kernel
theorem d6_agrees_66 : decode b6_agrees 66 = .ok (.iload_n 2, 1) := by decide +kernel
theorem d6_agrees_67 : decode b6_agrees 67 = .ok (.aload_n 0, 1) := by decide +kernel
theorem d6_agrees_68 : decode b6_agrees 68 = .ok (.getfield 17, 3) := by decide +kernel
theorem d6_agrees_71 : decode b6_agrees 71 = .ok (.iload_n 3, 1) := by decide +kernel
theorem d6_agrees_72 : decode b6_agrees 72 = .ok (.iaload, 1) := by decide +kernel
theorem d6_agrees_73 : decode b6_agrees 73 = .ok (.aload_n 0, 1) := by decide +kernel
theorem d6_agrees_74 : decode b6_agrees 74 = .ok (.getfield 17, 3) := by decide +kernel
theorem d6_agrees_77 : decode b6_agrees 77 = .ok (.iload_n 1, 1) := by decide +kernel
theorem d6_agrees_78 : decode b6_agrees 78 = .ok (.iaload, 1) := by decide +kernel
theorem d6_agrees_79 : decode b6_agrees 79 = .ok (.if_icmp .ge 7, 3) := by decide +kernel
theorem d6_agrees_82 : decode b6_agrees 82 = .ok (.iconst 1, 1) := by decide +kernel
theorem d6_agrees_83 : decode b6_agrees 83 = .ok (.goto 4, 3) := by decide +kernel
theorem d6_agrees_86 : decode b6_agrees 86 = .ok (.iconst 0, 1) := by decide +kernel
theorem d6_agrees_87 : decode b6_agrees 87 = .ok (.iadd, 1) := by decide +kernel
theorem d6_agrees_88 : decode b6_agrees 88 = .ok (.istore_n 2, 1) := by decide +kernel
theorem d6_agrees_89 : decode b6_agrees 89 = .ok (.iload_n 3, 1) := by decide +kernel
theorem d6_agrees_90 : decode b6_agrees 90 = .ok (.iload_n 1, 1) := by decide +kernel
theorem d6_agrees_91 : decode b6_agrees 91 = .ok (.if_icmp .eq 51, 3) := by decide +kernel
theorem d6_agrees_94 : decode b6_agrees 94 = .ok (.aload_n 0, 1) := by decide +kernel
theorem d6_agrees_95 : decode b6_agrees 95 = .ok (.getfield 35, 3) := by decide +kernel
theorem d6_agrees_98 : decode b6_agrees 98 = .ok (.aload_n 0, 1) := by decide +kernel
theorem d6_agrees_99 : decode b6_agrees 99 = .ok (.getfield 13, 3) := by decide +kernel
theorem d6_agrees_102 : decode b6_agrees 102 = .ok (.iload_n 3, 1) := by decide +kernel
theorem d6_agrees_103 : decode b6_agrees 103 = .ok (.baload, 1) := by decide +kernel
theorem d6_agrees_104 : decode b6_agrees 104 = .ok (.aload_n 0, 1) := by decide +kernel
theorem d6_agrees_105 : decode b6_agrees 105 = .ok (.getfield 17, 3) := by decide +kernel
theorem d6_agrees_108 : decode b6_agrees 108 = .ok (.iload_n 3, 1) := by decide +kernel
theorem d6_agrees_109 : decode b6_agrees 109 = .ok (.iaload, 1) := by decide +kernel
theorem d6_agrees_110 : decode b6_agrees 110 = .ok (.aload_n 0, 1) := by decide +kernel
theorem d6_agrees_111 : decode b6_agrees 111 = .ok (.getfield 20, 3) := by decide +kernel
theorem d6_agrees_114 : decode b6_agrees 114 = .ok (.iload_n 3, 1) := by decide +kernel
theorem d6_agrees_115 : decode b6_agrees 115 = .ok (.iaload, 1) := by decide +kernel
theorem d6_agrees_116 : decode b6_agrees 116 = .ok (.aload_n 0, 1) := by decide +kernel
theorem d6_agrees_117 : decode b6_agrees 117 = .ok (.getfield 13, 3) := by decide +kernel
theorem d6_agrees_120 : decode b6_agrees 120 = .ok (.iload_n 1, 1) := by decide +kernel
theorem d6_agrees_121 : decode b6_agrees 121 = .ok (.baload, 1) := by decide +kernel
theorem d6_agrees_122 : decode b6_agrees 122 = .ok (.aload_n 0, 1) := by decide +kernel
theorem d6_agrees_123 : decode b6_agrees 123 = .ok (.getfield 17, 3) := by decide +kernel
theorem d6_agrees_126 : decode b6_agrees 126 = .ok (.iload_n 1, 1) := by decide +kernel
theorem d6_agrees_127 : decode b6_agrees 127 = .ok (.iaload, 1) := by decide +kernel
theorem d6_agrees_128 : decode b6_agrees 128 = .ok (.aload_n 0, 1) := by decide +kernel
theorem d6_agrees_129 : decode b6_agrees 129 = .ok (.getfield 20, 3) := by decide +kernel
theorem d6_agrees_132 : decode b6_agrees 132 = .ok (.iload_n 1, 1) := by decide +kernel
theorem d6_agrees_133 : decode b6_agrees 133 = .ok (.iaload, 1) := by decide +kernel
theorem d6_agrees_134 : decode b6_agrees 134 = .ok (.invokestatic 87, 3) := by decide +kernel
theorem d6_agrees_137 : decode b6_agrees 137 = .ok (.ifCond .eq 5, 3) := by decide +kernel
theorem d6_agrees_140 : decode b6_agrees 140 = .ok (.iconst 0, 1) := by decide +kernel
theorem d6_agrees_141 : decode b6_agrees 141 = .ok (.ireturn, 1) := by decide +kernel
theorem d6_agrees_142 : decode b6_agrees 142 = .ok (.iload_n 3, 1) := by decide +kernel
theorem d6_agrees_143 : decode b6_agrees 143 = .ok (.iload_n 1, 1) := by decide +kernel
theorem d6_agrees_144 : decode b6_agrees 144 = .ok (.if_icmp .eq 50, 3) := by decide +kernel
theorem d6_agrees_147 : decode b6_agrees 147 = .ok (.aload_n 0, 1) := by decide +kernel
theorem d6_agrees_148 : decode b6_agrees 148 = .ok (.getfield 13, 3) := by decide +kernel
theorem d6_agrees_151 : decode b6_agrees 151 = .ok (.iload_n 3, 1) := by decide +kernel
theorem d6_agrees_152 : decode b6_agrees 152 = .ok (.baload, 1) := by decide +kernel
theorem d6_agrees_153 : decode b6_agrees 153 = .ok (.aload_n 0, 1) := by decide +kernel
theorem d6_agrees_154 : decode b6_agrees 154 = .ok (.getfield 13, 3) := by decide +kernel
theorem d6_agrees_157 : decode b6_agrees 157 = .ok (.iload_n 1, 1) := by decide +kernel
theorem d6_agrees_158 : decode b6_agrees 158 = .ok (.baload, 1) := by decide +kernel
theorem d6_agrees_159 : decode b6_agrees 159 = .ok (.if_icmp .eq 35, 3) := by decide +kernel
theorem d6_agrees_162 : decode b6_agrees 162 = .ok (.aload_n 0, 1) := by decide +kernel
theorem d6_agrees_163 : decode b6_agrees 163 = .ok (.getfield 17, 3) := by decide +kernel
theorem d6_agrees_166 : decode b6_agrees 166 = .ok (.iload_n 3, 1) := by decide +kernel
theorem d6_agrees_167 : decode b6_agrees 167 = .ok (.iaload, 1) := by decide +kernel
theorem d6_agrees_168 : decode b6_agrees 168 = .ok (.aload_n 0, 1) := by decide +kernel
theorem d6_agrees_169 : decode b6_agrees 169 = .ok (.getfield 20, 3) := by decide +kernel
theorem d6_agrees_172 : decode b6_agrees 172 = .ok (.iload_n 1, 1) := by decide +kernel
theorem d6_agrees_173 : decode b6_agrees 173 = .ok (.iaload, 1) := by decide +kernel
theorem d6_agrees_174 : decode b6_agrees 174 = .ok (.if_icmp .ge 20, 3) := by decide +kernel
theorem d6_agrees_177 : decode b6_agrees 177 = .ok (.aload_n 0, 1) := by decide +kernel
theorem d6_agrees_178 : decode b6_agrees 178 = .ok (.getfield 17, 3) := by decide +kernel
theorem d6_agrees_181 : decode b6_agrees 181 = .ok (.iload_n 1, 1) := by decide +kernel
theorem d6_agrees_182 : decode b6_agrees 182 = .ok (.iaload, 1) := by decide +kernel
theorem d6_agrees_183 : decode b6_agrees 183 = .ok (.aload_n 0, 1) := by decide +kernel
theorem d6_agrees_184 : decode b6_agrees 184 = .ok (.getfield 20, 3) := by decide +kernel
theorem d6_agrees_187 : decode b6_agrees 187 = .ok (.iload_n 3, 1) := by decide +kernel
theorem d6_agrees_188 : decode b6_agrees 188 = .ok (.iaload, 1) := by decide +kernel
theorem d6_agrees_189 : decode b6_agrees 189 = .ok (.if_icmp .ge 5, 3) := by decide +kernel
theorem d6_agrees_192 : decode b6_agrees 192 = .ok (.iconst 0, 1) := by decide +kernel
theorem d6_agrees_193 : decode b6_agrees 193 = .ok (.ireturn, 1) := by decide +kernel
theorem d6_agrees_194 : decode b6_agrees 194 = .ok (.aload_n 0, 1) := by decide +kernel
theorem d6_agrees_195 : decode b6_agrees 195 = .ok (.getfield 13, 3) := by decide +kernel
theorem d6_agrees_198 : decode b6_agrees 198 = .ok (.iload_n 3, 1) := by decide +kernel
theorem d6_agrees_199 : decode b6_agrees 199 = .ok (.baload, 1) := by decide +kernel
theorem d6_agrees_200 : decode b6_agrees 200 = .ok (.aload_n 0, 1) := by decide +kernel
theorem d6_agrees_201 : decode b6_agrees 201 = .ok (.getfield 13, 3) := by decide +kernel
theorem d6_agrees_204 : decode b6_agrees 204 = .ok (.iload_n 1, 1) := by decide +kernel
theorem d6_agrees_205 : decode b6_agrees 205 = .ok (.baload, 1) := by decide +kernel
theorem d6_agrees_206 : decode b6_agrees 206 = .ok (.if_icmp .ne 35, 3) := by decide +kernel
theorem d6_agrees_209 : decode b6_agrees 209 = .ok (.aload_n 0, 1) := by decide +kernel
theorem d6_agrees_210 : decode b6_agrees 210 = .ok (.getfield 17, 3) := by decide +kernel
theorem d6_agrees_213 : decode b6_agrees 213 = .ok (.iload_n 3, 1) := by decide +kernel
theorem d6_agrees_214 : decode b6_agrees 214 = .ok (.iaload, 1) := by decide +kernel
theorem d6_agrees_215 : decode b6_agrees 215 = .ok (.aload_n 0, 1) := by decide +kernel
theorem d6_agrees_216 : decode b6_agrees 216 = .ok (.getfield 17, 3) := by decide +kernel
theorem d6_agrees_219 : decode b6_agrees 219 = .ok (.iload_n 1, 1) := by decide +kernel
theorem d6_agrees_220 : decode b6_agrees 220 = .ok (.iaload, 1) := by decide +kernel
theorem d6_agrees_221 : decode b6_agrees 221 = .ok (.if_icmp .ge 20, 3) := by decide +kernel
theorem d6_agrees_224 : decode b6_agrees 224 = .ok (.aload_n 0, 1) := by decide +kernel
theorem d6_agrees_225 : decode b6_agrees 225 = .ok (.getfield 20, 3) := by decide +kernel
theorem d6_agrees_228 : decode b6_agrees 228 = .ok (.iload_n 3, 1) := by decide +kernel
theorem d6_agrees_229 : decode b6_agrees 229 = .ok (.iaload, 1) := by decide +kernel
theorem d6_agrees_230 : decode b6_agrees 230 = .ok (.aload_n 0, 1) := by decide +kernel
theorem d6_agrees_231 : decode b6_agrees 231 = .ok (.getfield 20, 3) := by decide +kernel
theorem d6_agrees_234 : decode b6_agrees 234 = .ok (.iload_n 1, 1) := by decide +kernel
theorem d6_agrees_235 : decode b6_agrees 235 = .ok (.iaload, 1) := by decide +kernel
theorem d6_agrees_236 : decode b6_agrees 236 = .ok (.if_icmp .le 5, 3) := by decide +kernel
theorem d6_agrees_239 : decode b6_agrees 239 = .ok (.iconst 0, 1) := by decide +kernel
theorem d6_agrees_240 : decode b6_agrees 240 = .ok (.ireturn, 1) := by decide +kernel
theorem d6_agrees_241 : decode b6_agrees 241 = .ok (.iinc 3 1, 3) := by decide +kernel
theorem d6_agrees_244 : decode b6_agrees 244 = .ok (.goto (-186), 3) := by decide +kernel
theorem d6_agrees_247 : decode b6_agrees 247 = .ok (.aload_n 0, 1) := by decide +kernel
theorem d6_agrees_248 : decode b6_agrees 248 = .ok (.getfield 35, 3) := by decide +kernel
theorem d6_agrees_251 : decode b6_agrees 251 = .ok (.iload_n 2, 1) := by decide +kernel
theorem d6_agrees_252 : decode b6_agrees 252 = .ok (.invokevirtual 55, 3) := by decide +kernel
theorem d6_agrees_255 : decode b6_agrees 255 = .ok (.aload_n 0, 1) := by decide +kernel
theorem d6_agrees_256 : decode b6_agrees 256 = .ok (.getfield 7, 3) := by decide +kernel
theorem d6_agrees_259 : decode b6_agrees 259 = .ok (.iload_n 1, 1) := by decide +kernel
theorem d6_agrees_260 : decode b6_agrees 260 = .ok (.iaload, 1) := by decide +kernel
theorem d6_agrees_261 : decode b6_agrees 261 = .ok (.if_icmp .ne 54, 3) := by decide +kernel
theorem d6_agrees_264 : decode b6_agrees 264 = .ok (.aload_n 0, 1) := by decide +kernel
theorem d6_agrees_265 : decode b6_agrees 265 = .ok (.getfield 35, 3) := by decide +kernel
theorem d6_agrees_268 : decode b6_agrees 268 = .ok (.iload_n 2, 1) := by decide +kernel
theorem d6_agrees_269 : decode b6_agrees 269 = .ok (.invokevirtual 59, 3) := by decide +kernel
theorem d6_agrees_272 : decode b6_agrees 272 = .ok (.aload_n 0, 1) := by decide +kernel
theorem d6_agrees_273 : decode b6_agrees 273 = .ok (.getfield 13, 3) := by decide +kernel
theorem d6_agrees_276 : decode b6_agrees 276 = .ok (.iload_n 1, 1) := by decide +kernel
theorem d6_agrees_277 : decode b6_agrees 277 = .ok (.baload, 1) := by decide +kernel
theorem d6_agrees_278 : decode b6_agrees 278 = .ok (.if_icmp .ne 37, 3) := by decide +kernel
theorem d6_agrees_281 : decode b6_agrees 281 = .ok (.aload_n 0, 1) := by decide +kernel
theorem d6_agrees_282 : decode b6_agrees 282 = .ok (.getfield 35, 3) := by decide +kernel
theorem d6_agrees_285 : decode b6_agrees 285 = .ok (.iload_n 2, 1) := by decide +kernel
theorem d6_agrees_286 : decode b6_agrees 286 = .ok (.invokevirtual 63, 3) := by decide +kernel
theorem d6_agrees_289 : decode b6_agrees 289 = .ok (.aload_n 0, 1) := by decide +kernel
theorem d6_agrees_290 : decode b6_agrees 290 = .ok (.getfield 17, 3) := by decide +kernel
theorem d6_agrees_293 : decode b6_agrees 293 = .ok (.iload_n 1, 1) := by decide +kernel
theorem d6_agrees_294 : decode b6_agrees 294 = .ok (.iaload, 1) := by decide +kernel
theorem d6_agrees_295 : decode b6_agrees 295 = .ok (.if_icmp .ne 20, 3) := by decide +kernel
theorem d6_agrees_298 : decode b6_agrees 298 = .ok (.aload_n 0, 1) := by decide +kernel
theorem d6_agrees_299 : decode b6_agrees 299 = .ok (.getfield 35, 3) := by decide +kernel
theorem d6_agrees_302 : decode b6_agrees 302 = .ok (.iload_n 2, 1) := by decide +kernel
theorem d6_agrees_303 : decode b6_agrees 303 = .ok (.invokevirtual 66, 3) := by decide +kernel
theorem d6_agrees_306 : decode b6_agrees 306 = .ok (.aload_n 0, 1) := by decide +kernel
theorem d6_agrees_307 : decode b6_agrees 307 = .ok (.getfield 20, 3) := by decide +kernel
theorem d6_agrees_310 : decode b6_agrees 310 = .ok (.iload_n 1, 1) := by decide +kernel
theorem d6_agrees_311 : decode b6_agrees 311 = .ok (.iaload, 1) := by decide +kernel
theorem d6_agrees_312 : decode b6_agrees 312 = .ok (.if_icmp .eq 5, 3) := by decide +kernel
theorem d6_agrees_315 : decode b6_agrees 315 = .ok (.iconst 0, 1) := by decide +kernel
theorem d6_agrees_316 : decode b6_agrees 316 = .ok (.ireturn, 1) := by decide +kernel
theorem d6_agrees_317 : decode b6_agrees 317 = .ok (.iinc 1 1, 3) := by decide +kernel
theorem d6_agrees_320 : decode b6_agrees 320 = .ok (.goto (-274), 3) := by decide +kernel
theorem d6_agrees_323 : decode b6_agrees 323 = .ok (.iconst 0, 1) := by decide +kernel
theorem d6_agrees_324 : decode b6_agrees 324 = .ok (.istore_n 1, 1) := by decide +kernel
theorem d6_agrees_325 : decode b6_agrees 325 = .ok (.iload_n 1, 1) := by decide +kernel
theorem d6_agrees_326 : decode b6_agrees 326 = .ok (.aload_n 0, 1) := by decide +kernel
theorem d6_agrees_327 : decode b6_agrees 327 = .ok (.getfield 72, 3) := by decide +kernel
theorem d6_agrees_330 : decode b6_agrees 330 = .ok (.if_icmp .ge 79, 3) := by decide +kernel
theorem d6_agrees_333 : decode b6_agrees 333 = .ok (.aload_n 0, 1) := by decide +kernel
theorem d6_agrees_334 : decode b6_agrees 334 = .ok (.getfield 35, 3) := by decide +kernel
theorem d6_agrees_337 : decode b6_agrees 337 = .ok (.iload_n 1, 1) := by decide +kernel
theorem d6_agrees_338 : decode b6_agrees 338 = .ok (.invokevirtual 75, 3) := by decide +kernel
theorem d6_agrees_341 : decode b6_agrees 341 = .ok (.aload_n 0, 1) := by decide +kernel
theorem d6_agrees_342 : decode b6_agrees 342 = .ok (.getfield 23, 3) := by decide +kernel
theorem d6_agrees_345 : decode b6_agrees 345 = .ok (.iload_n 1, 1) := by decide +kernel
theorem d6_agrees_346 : decode b6_agrees 346 = .ok (.iaload, 1) := by decide +kernel
theorem d6_agrees_347 : decode b6_agrees 347 = .ok (.if_icmp .ne 54, 3) := by decide +kernel
theorem d6_agrees_350 : decode b6_agrees 350 = .ok (.aload_n 0, 1) := by decide +kernel
theorem d6_agrees_351 : decode b6_agrees 351 = .ok (.getfield 35, 3) := by decide +kernel
theorem d6_agrees_354 : decode b6_agrees 354 = .ok (.iload_n 1, 1) := by decide +kernel
theorem d6_agrees_355 : decode b6_agrees 355 = .ok (.invokevirtual 78, 3) := by decide +kernel
theorem d6_agrees_358 : decode b6_agrees 358 = .ok (.aload_n 0, 1) := by decide +kernel
theorem d6_agrees_359 : decode b6_agrees 359 = .ok (.getfield 26, 3) := by decide +kernel
theorem d6_agrees_362 : decode b6_agrees 362 = .ok (.iload_n 1, 1) := by decide +kernel
theorem d6_agrees_363 : decode b6_agrees 363 = .ok (.baload, 1) := by decide +kernel
theorem d6_agrees_364 : decode b6_agrees 364 = .ok (.if_icmp .ne 37, 3) := by decide +kernel
theorem d6_agrees_367 : decode b6_agrees 367 = .ok (.aload_n 0, 1) := by decide +kernel
theorem d6_agrees_368 : decode b6_agrees 368 = .ok (.getfield 35, 3) := by decide +kernel
theorem d6_agrees_371 : decode b6_agrees 371 = .ok (.iload_n 1, 1) := by decide +kernel
theorem d6_agrees_372 : decode b6_agrees 372 = .ok (.invokevirtual 81, 3) := by decide +kernel
theorem d6_agrees_375 : decode b6_agrees 375 = .ok (.aload_n 0, 1) := by decide +kernel
theorem d6_agrees_376 : decode b6_agrees 376 = .ok (.getfield 29, 3) := by decide +kernel
theorem d6_agrees_379 : decode b6_agrees 379 = .ok (.iload_n 1, 1) := by decide +kernel
theorem d6_agrees_380 : decode b6_agrees 380 = .ok (.iaload, 1) := by decide +kernel
theorem d6_agrees_381 : decode b6_agrees 381 = .ok (.if_icmp .ne 20, 3) := by decide +kernel
theorem d6_agrees_384 : decode b6_agrees 384 = .ok (.aload_n 0, 1) := by decide +kernel
theorem d6_agrees_385 : decode b6_agrees 385 = .ok (.getfield 35, 3) := by decide +kernel
theorem d6_agrees_388 : decode b6_agrees 388 = .ok (.iload_n 1, 1) := by decide +kernel
theorem d6_agrees_389 : decode b6_agrees 389 = .ok (.invokevirtual 84, 3) := by decide +kernel
theorem d6_agrees_392 : decode b6_agrees 392 = .ok (.aload_n 0, 1) := by decide +kernel
theorem d6_agrees_393 : decode b6_agrees 393 = .ok (.getfield 32, 3) := by decide +kernel
theorem d6_agrees_396 : decode b6_agrees 396 = .ok (.iload_n 1, 1) := by decide +kernel
theorem d6_agrees_397 : decode b6_agrees 397 = .ok (.iaload, 1) := by decide +kernel
theorem d6_agrees_398 : decode b6_agrees 398 = .ok (.if_icmp .eq 5, 3) := by decide +kernel
theorem d6_agrees_401 : decode b6_agrees 401 = .ok (.iconst 0, 1) := by decide +kernel
theorem d6_agrees_402 : decode b6_agrees 402 = .ok (.ireturn, 1) := by decide +kernel
theorem d6_agrees_403 : decode b6_agrees 403 = .ok (.iinc 1 1, 3) := by decide +kernel
theorem d6_agrees_406 : decode b6_agrees 406 = .ok (.goto (-81), 3) := by decide +kernel
theorem d6_agrees_409 : decode b6_agrees 409 = .ok (.aload_n 0, 1) := by decide +kernel
theorem d6_agrees_410 : decode b6_agrees 410 = .ok (.getfield 35, 3) := by decide +kernel
theorem d6_agrees_413 : decode b6_agrees 413 = .ok (.invokevirtual 111, 3) := by decide +kernel
theorem d6_agrees_416 : decode b6_agrees 416 = .ok (.ifCond .ne 7, 3) := by decide +kernel
theorem d6_agrees_419 : decode b6_agrees 419 = .ok (.iconst 1, 1) := by decide +kernel
theorem d6_agrees_420 : decode b6_agrees 420 = .ok (.goto 4, 3) := by decide +kernel
theorem d6_agrees_423 : decode b6_agrees 423 = .ok (.iconst 0, 1) := by decide +kernel
theorem d6_agrees_424 : decode b6_agrees 424 = .ok (.ireturn, 1) := by decide +kernel
abbrev bL_pick : ByteArray := method_2_code
def yL_pick : MethodName := ⟨"ChannelScheduleLaw", "pick", "([III)I"⟩
theorem wL_pick : YS yL_pick bL_pick 3 (some .int) 3 := ⟨LW_i 805 (by decide +kernel) (by decide +kernel), LW_i 27 (by decide +kernel) (by decide +kernel), LW_i 806 (by decide +kernel) (by decide +kernel), by decide +kernel, by decide +kernel⟩
theorem dL_pick_0 : decode bL_pick 0 = .ok (.iload_n 1, 1) := by decide +kernel
theorem dL_pick_1 : decode bL_pick 1 = .ok (.aload_n 0, 1) := by decide +kernel
theorem dL_pick_2 : decode bL_pick 2 = .ok (.arraylength, 1) := by decide +kernel
theorem dL_pick_3 : decode bL_pick 3 = .ok (.if_icmp .ge 14, 3) := by decide +kernel
theorem dL_pick_6 : decode bL_pick 6 = .ok (.aload_n 0, 1) := by decide +kernel
theorem dL_pick_7 : decode bL_pick 7 = .ok (.iload_n 1, 1) := by decide +kernel
theorem dL_pick_8 : decode bL_pick 8 = .ok (.iaload, 1) := by decide +kernel
theorem dL_pick_9 : decode bL_pick 9 = .ok (.ldc 7, 2) := by decide +kernel
theorem dL_pick_11 : decode bL_pick 11 = .ok (.iand, 1) := by decide +kernel
theorem dL_pick_12 : decode bL_pick 12 = .ok (.iload_n 2, 1) := by decide +kernel
theorem dL_pick_13 : decode bL_pick 13 = .ok (.irem, 1) := by decide +kernel
theorem dL_pick_14 : decode bL_pick 14 = .ok (.goto 4, 3) := by decide +kernel
theorem dL_pick_17 : decode bL_pick 17 = .ok (.iconst 0, 1) := by decide +kernel
theorem dL_pick_18 : decode bL_pick 18 = .ok (.ireturn, 1) := by decide +kernel
abbrev bL_word : ByteArray := method_3_code
def yL_word : MethodName := ⟨"ChannelScheduleLaw", "word", "(Ljava/lang/String;I)I"⟩
theorem wL_word : YS yL_word bL_word 4 (some .int) 2 := ⟨LW_i 817 (by decide +kernel) (by decide +kernel), LW_i 27 (by decide +kernel) (by decide +kernel), LW_i 818 (by decide +kernel) (by decide +kernel), by decide +kernel, by decide +kernel⟩
theorem dL_word_0 : decode bL_word 0 = .ok (.iconst 0, 1) := by decide +kernel
theorem dL_word_1 : decode bL_word 1 = .ok (.istore_n 2, 1) := by decide +kernel
theorem dL_word_2 : decode bL_word 2 = .ok (.iload_n 1, 1) := by decide +kernel
theorem dL_word_3 : decode bL_word 3 = .ok (.istore_n 3, 1) := by decide +kernel
theorem dL_word_4 : decode bL_word 4 = .ok (.iload_n 3, 1) := by decide +kernel
theorem dL_word_5 : decode bL_word 5 = .ok (.iload_n 1, 1) := by decide +kernel
theorem dL_word_6 : decode bL_word 6 = .ok (.iconst 4, 1) := by decide +kernel
theorem dL_word_7 : decode bL_word 7 = .ok (.iadd, 1) := by decide +kernel
theorem dL_word_8 : decode bL_word 8 = .ok (.if_icmp .ge 33, 3) := by decide +kernel
theorem dL_word_11 : decode bL_word 11 = .ok (.iload_n 2, 1) := by decide +kernel
theorem dL_word_12 : decode bL_word 12 = .ok (.bipush 8, 2) := by decide +kernel
theorem dL_word_14 : decode bL_word 14 = .ok (.ishl, 1) := by decide +kernel
theorem dL_word_15 : decode bL_word 15 = .ok (.iload_n 3, 1) := by decide +kernel
theorem dL_word_16 : decode bL_word 16 = .ok (.aload_n 0, 1) := by decide +kernel
theorem dL_word_17 : decode bL_word 17 = .ok (.invokevirtual 8, 3) := by decide +kernel
theorem dL_word_20 : decode bL_word 20 = .ok (.if_icmp .ge 11, 3) := by decide +kernel
theorem dL_word_23 : decode bL_word 23 = .ok (.aload_n 0, 1) := by decide +kernel
theorem dL_word_24 : decode bL_word 24 = .ok (.iload_n 3, 1) := by decide +kernel
theorem dL_word_25 : decode bL_word 25 = .ok (.invokevirtual 14, 3) := by decide +kernel
theorem dL_word_28 : decode bL_word 28 = .ok (.goto 5, 3) := by decide +kernel
theorem dL_word_31 : decode bL_word 31 = .ok (.bipush 32, 2) := by decide +kernel
theorem dL_word_33 : decode bL_word 33 = .ok (.ior, 1) := by decide +kernel
theorem dL_word_34 : decode bL_word 34 = .ok (.istore_n 2, 1) := by decide +kernel
theorem dL_word_35 : decode bL_word 35 = .ok (.iinc 3 1, 3) := by decide +kernel
theorem dL_word_38 : decode bL_word 38 = .ok (.goto (-34), 3) := by decide +kernel
theorem dL_word_41 : decode bL_word 41 = .ok (.iload_n 2, 1) := by decide +kernel
theorem dL_word_42 : decode bL_word 42 = .ok (.ireturn, 1) := by decide +kernel
abbrev bL_say : ByteArray := method_4_code
def yL_say : MethodName := ⟨"ChannelScheduleLaw", "say", "(LChannelSchedule;Ljava/lang/String;)Z"⟩
theorem wL_say : YS yL_say bL_say 3 (some .boolean) 2 := ⟨LW_i 809 (by decide +kernel) (by decide +kernel), LW_i 27 (by decide +kernel) (by decide +kernel), LW_i 810 (by decide +kernel) (by decide +kernel), by decide +kernel, by decide +kernel⟩
theorem dL_say_0 : decode bL_say 0 = .ok (.aload_n 0, 1) := by decide +kernel
theorem dL_say_1 : decode bL_say 1 = .ok (.iconst 0, 1) := by decide +kernel
theorem dL_say_2 : decode bL_say 2 = .ok (.invokevirtual 18, 3) := by decide +kernel
theorem dL_say_5 : decode bL_say 5 = .ok (.pop, 1) := by decide +kernel
theorem dL_say_6 : decode bL_say 6 = .ok (.iconst 0, 1) := by decide +kernel
theorem dL_say_7 : decode bL_say 7 = .ok (.istore_n 2, 1) := by decide +kernel
theorem dL_say_8 : decode bL_say 8 = .ok (.iload_n 2, 1) := by decide +kernel
theorem dL_say_9 : decode bL_say 9 = .ok (.aload_n 1, 1) := by decide +kernel
theorem dL_say_10 : decode bL_say 10 = .ok (.invokevirtual 8, 3) := by decide +kernel
theorem dL_say_13 : decode bL_say 13 = .ok (.if_icmp .ge 50, 3) := by decide +kernel
theorem dL_say_16 : decode bL_say 16 = .ok (.aload_n 0, 1) := by decide +kernel
theorem dL_say_17 : decode bL_say 17 = .ok (.aload_n 1, 1) := by decide +kernel
theorem dL_say_18 : decode bL_say 18 = .ok (.iload_n 2, 1) := by decide +kernel
theorem dL_say_19 : decode bL_say 19 = .ok (.invokestatic 24, 3) := by decide +kernel
theorem dL_say_22 : decode bL_say 22 = .ok (.aload_n 1, 1) := by decide +kernel
theorem dL_say_23 : decode bL_say 23 = .ok (.iload_n 2, 1) := by decide +kernel
theorem dL_say_24 : decode bL_say 24 = .ok (.iconst 4, 1) := by decide +kernel
theorem dL_say_25 : decode bL_say 25 = .ok (.iadd, 1) := by decide +kernel
theorem dL_say_26 : decode bL_say 26 = .ok (.invokestatic 24, 3) := by decide +kernel
theorem dL_say_29 : decode bL_say 29 = .ok (.aload_n 1, 1) := by decide +kernel
theorem dL_say_30 : decode bL_say 30 = .ok (.iload_n 2, 1) := by decide +kernel
theorem dL_say_31 : decode bL_say 31 = .ok (.bipush 8, 2) := by decide +kernel
theorem dL_say_33 : decode bL_say 33 = .ok (.iadd, 1) := by decide +kernel
theorem dL_say_34 : decode bL_say 34 = .ok (.invokestatic 24, 3) := by decide +kernel
theorem dL_say_37 : decode bL_say 37 = .ok (.aload_n 1, 1) := by decide +kernel
theorem dL_say_38 : decode bL_say 38 = .ok (.iload_n 2, 1) := by decide +kernel
theorem dL_say_39 : decode bL_say 39 = .ok (.bipush 12, 2) := by decide +kernel
theorem dL_say_41 : decode bL_say 41 = .ok (.iadd, 1) := by decide +kernel
theorem dL_say_42 : decode bL_say 42 = .ok (.invokestatic 24, 3) := by decide +kernel
theorem dL_say_45 : decode bL_say 45 = .ok (.aload_n 1, 1) := by decide +kernel
theorem dL_say_46 : decode bL_say 46 = .ok (.iload_n 2, 1) := by decide +kernel
theorem dL_say_47 : decode bL_say 47 = .ok (.bipush 16, 2) := by decide +kernel
theorem dL_say_49 : decode bL_say 49 = .ok (.iadd, 1) := by decide +kernel
theorem dL_say_50 : decode bL_say 50 = .ok (.invokestatic 24, 3) := by decide +kernel
theorem dL_say_53 : decode bL_say 53 = .ok (.invokevirtual 30, 3) := by decide +kernel
theorem dL_say_56 : decode bL_say 56 = .ok (.pop, 1) := by decide +kernel
theorem dL_say_57 : decode bL_say 57 = .ok (.iinc 2 20, 3) := by decide +kernel
theorem dL_say_60 : decode bL_say 60 = .ok (.goto (-52), 3) := by decide +kernel
theorem dL_say_63 : decode bL_say 63 = .ok (.aload_n 0, 1) := by decide +kernel
theorem dL_say_64 : decode bL_say 64 = .ok (.aload_n 1, 1) := by decide +kernel
theorem dL_say_65 : decode bL_say 65 = .ok (.invokevirtual 8, 3) := by decide +kernel
theorem dL_say_68 : decode bL_say 68 = .ok (.invokevirtual 18, 3) := by decide +kernel
theorem dL_say_71 : decode bL_say 71 = .ok (.aload_n 1, 1) := by decide +kernel
theorem dL_say_72 : decode bL_say 72 = .ok (.invokevirtual 8, 3) := by decide +kernel
theorem dL_say_75 : decode bL_say 75 = .ok (.if_icmp .ne 7, 3) := by decide +kernel
theorem dL_say_78 : decode bL_say 78 = .ok (.iconst 1, 1) := by decide +kernel
theorem dL_say_79 : decode bL_say 79 = .ok (.goto 4, 3) := by decide +kernel
theorem dL_say_82 : decode bL_say 82 = .ok (.iconst 0, 1) := by decide +kernel
theorem dL_say_83 : decode bL_say 83 = .ok (.ireturn, 1) := by decide +kernel
abbrev bL_setup : ByteArray := method_5_code
def yL_setup : MethodName := ⟨"ChannelScheduleLaw", "setup", "([II)Ljava/lang/String;"⟩
theorem wL_setup : YS yL_setup bL_setup 5 (some (.object "java/lang/String")) 2 := ⟨LW_i 830 (by decide +kernel) (by decide +kernel), LW_i 27 (by decide +kernel) (by decide +kernel), LW_i 831 (by decide +kernel) (by decide +kernel), by decide +kernel, by decide +kernel⟩
theorem dL_setup_0 : decode bL_setup 0 = .ok (.new 34, 3) := by decide +kernel
theorem dL_setup_3 : decode bL_setup 3 = .ok (.dup, 1) := by decide +kernel
theorem dL_setup_4 : decode bL_setup 4 = .ok (.ldc 36, 2) := by decide +kernel
theorem dL_setup_6 : decode bL_setup 6 = .ok (.invokespecial 38, 3) := by decide +kernel
theorem dL_setup_9 : decode bL_setup 9 = .ok (.aload_n 0, 1) := by decide +kernel
theorem dL_setup_10 : decode bL_setup 10 = .ok (.iconst 1, 1) := by decide +kernel
theorem dL_setup_11 : decode bL_setup 11 = .ok (.bipush 8, 2) := by decide +kernel
theorem dL_setup_13 : decode bL_setup 13 = .ok (.invokestatic 41, 3) := by decide +kernel
theorem dL_setup_16 : decode bL_setup 16 = .ok (.invokevirtual 45, 3) := by decide +kernel
theorem dL_setup_19 : decode bL_setup 19 = .ok (.bipush 32, 2) := by decide +kernel
theorem dL_setup_21 : decode bL_setup 21 = .ok (.invokevirtual 48, 3) := by decide +kernel
theorem dL_setup_24 : decode bL_setup 24 = .ok (.aload_n 0, 1) := by decide +kernel
theorem dL_setup_25 : decode bL_setup 25 = .ok (.iconst 2, 1) := by decide +kernel
theorem dL_setup_26 : decode bL_setup 26 = .ok (.bipush 8, 2) := by decide +kernel
theorem dL_setup_28 : decode bL_setup 28 = .ok (.invokestatic 41, 3) := by decide +kernel
theorem dL_setup_31 : decode bL_setup 31 = .ok (.invokevirtual 45, 3) := by decide +kernel
theorem dL_setup_34 : decode bL_setup 34 = .ok (.bipush 32, 2) := by decide +kernel
theorem dL_setup_36 : decode bL_setup 36 = .ok (.invokevirtual 48, 3) := by decide +kernel
theorem dL_setup_39 : decode bL_setup 39 = .ok (.aload_n 0, 1) := by decide +kernel
theorem dL_setup_40 : decode bL_setup 40 = .ok (.iconst 3, 1) := by decide +kernel
theorem dL_setup_41 : decode bL_setup 41 = .ok (.bipush 6, 2) := by decide +kernel
theorem dL_setup_43 : decode bL_setup 43 = .ok (.invokestatic 41, 3) := by decide +kernel
theorem dL_setup_46 : decode bL_setup 46 = .ok (.invokevirtual 45, 3) := by decide +kernel
theorem dL_setup_49 : decode bL_setup 49 = .ok (.bipush 59, 2) := by decide +kernel
theorem dL_setup_51 : decode bL_setup 51 = .ok (.invokevirtual 48, 3) := by decide +kernel
theorem dL_setup_54 : decode bL_setup 54 = .ok (.astore_n 2, 1) := by decide +kernel
theorem dL_setup_55 : decode bL_setup 55 = .ok (.iconst 0, 1) := by decide +kernel
theorem dL_setup_56 : decode bL_setup 56 = .ok (.istore_n 3, 1) := by decide +kernel
theorem dL_setup_57 : decode bL_setup 57 = .ok (.iload_n 3, 1) := by decide +kernel
theorem dL_setup_58 : decode bL_setup 58 = .ok (.iload_n 1, 1) := by decide +kernel
theorem dL_setup_59 : decode bL_setup 59 = .ok (.if_icmp .ge 90, 3) := by decide +kernel
theorem dL_setup_62 : decode bL_setup 62 = .ok (.aload_n 0, 1) := by decide +kernel
theorem dL_setup_63 : decode bL_setup 63 = .ok (.iconst 4, 1) := by decide +kernel
theorem dL_setup_64 : decode bL_setup 64 = .ok (.iload_n 3, 1) := by decide +kernel
theorem dL_setup_65 : decode bL_setup 65 = .ok (.iadd, 1) := by decide +kernel
theorem dL_setup_66 : decode bL_setup 66 = .ok (.ldc 51, 2) := by decide +kernel
theorem dL_setup_68 : decode bL_setup 68 = .ok (.invokestatic 41, 3) := by decide +kernel
theorem dL_setup_71 : decode bL_setup 71 = .ok (.istore 4, 2) := by decide +kernel
theorem dL_setup_73 : decode bL_setup 73 = .ok (.aload_n 2, 1) := by decide +kernel
theorem dL_setup_74 : decode bL_setup 74 = .ok (.ldc 52, 2) := by decide +kernel
theorem dL_setup_76 : decode bL_setup 76 = .ok (.invokevirtual 54, 3) := by decide +kernel
theorem dL_setup_79 : decode bL_setup 79 = .ok (.bipush 97, 2) := by decide +kernel
theorem dL_setup_81 : decode bL_setup 81 = .ok (.iload_n 3, 1) := by decide +kernel
theorem dL_setup_82 : decode bL_setup 82 = .ok (.iadd, 1) := by decide +kernel
theorem dL_setup_83 : decode bL_setup 83 = .ok (.i2c, 1) := by decide +kernel
theorem dL_setup_84 : decode bL_setup 84 = .ok (.invokevirtual 48, 3) := by decide +kernel
theorem dL_setup_87 : decode bL_setup 87 = .ok (.bipush 32, 2) := by decide +kernel
theorem dL_setup_89 : decode bL_setup 89 = .ok (.invokevirtual 48, 3) := by decide +kernel
theorem dL_setup_92 : decode bL_setup 92 = .ok (.iconst 1, 1) := by decide +kernel
theorem dL_setup_93 : decode bL_setup 93 = .ok (.iload 4, 2) := by decide +kernel
theorem dL_setup_95 : decode bL_setup 95 = .ok (.bipush 25, 2) := by decide +kernel
theorem dL_setup_97 : decode bL_setup 97 = .ok (.irem, 1) := by decide +kernel
theorem dL_setup_98 : decode bL_setup 98 = .ok (.iadd, 1) := by decide +kernel
theorem dL_setup_99 : decode bL_setup 99 = .ok (.invokevirtual 45, 3) := by decide +kernel
theorem dL_setup_102 : decode bL_setup 102 = .ok (.bipush 32, 2) := by decide +kernel
theorem dL_setup_104 : decode bL_setup 104 = .ok (.invokevirtual 48, 3) := by decide +kernel
theorem dL_setup_107 : decode bL_setup 107 = .ok (.iload 4, 2) := by decide +kernel
theorem dL_setup_109 : decode bL_setup 109 = .ok (.bipush 32, 2) := by decide +kernel
theorem dL_setup_111 : decode bL_setup 111 = .ok (.idiv, 1) := by decide +kernel
theorem dL_setup_112 : decode bL_setup 112 = .ok (.bipush 6, 2) := by decide +kernel
theorem dL_setup_114 : decode bL_setup 114 = .ok (.irem, 1) := by decide +kernel
theorem dL_setup_115 : decode bL_setup 115 = .ok (.invokevirtual 45, 3) := by decide +kernel
theorem dL_setup_118 : decode bL_setup 118 = .ok (.bipush 32, 2) := by decide +kernel
theorem dL_setup_120 : decode bL_setup 120 = .ok (.invokevirtual 48, 3) := by decide +kernel
theorem dL_setup_123 : decode bL_setup 123 = .ok (.iconst 1, 1) := by decide +kernel
theorem dL_setup_124 : decode bL_setup 124 = .ok (.iload 4, 2) := by decide +kernel
theorem dL_setup_126 : decode bL_setup 126 = .ok (.sipush 256, 3) := by decide +kernel
theorem dL_setup_129 : decode bL_setup 129 = .ok (.idiv, 1) := by decide +kernel
theorem dL_setup_130 : decode bL_setup 130 = .ok (.bipush 12, 2) := by decide +kernel
theorem dL_setup_132 : decode bL_setup 132 = .ok (.irem, 1) := by decide +kernel
theorem dL_setup_133 : decode bL_setup 133 = .ok (.iadd, 1) := by decide +kernel
theorem dL_setup_134 : decode bL_setup 134 = .ok (.invokevirtual 45, 3) := by decide +kernel
theorem dL_setup_137 : decode bL_setup 137 = .ok (.bipush 59, 2) := by decide +kernel
theorem dL_setup_139 : decode bL_setup 139 = .ok (.invokevirtual 48, 3) := by decide +kernel
theorem dL_setup_142 : decode bL_setup 142 = .ok (.pop, 1) := by decide +kernel
theorem dL_setup_143 : decode bL_setup 143 = .ok (.iinc 3 1, 3) := by decide +kernel
theorem dL_setup_146 : decode bL_setup 146 = .ok (.goto (-89), 3) := by decide +kernel
theorem dL_setup_149 : decode bL_setup 149 = .ok (.aload_n 2, 1) := by decide +kernel
theorem dL_setup_150 : decode bL_setup 150 = .ok (.invokevirtual 57, 3) := by decide +kernel
theorem dL_setup_153 : decode bL_setup 153 = .ok (.areturn, 1) := by decide +kernel
abbrev bL_conflict : ByteArray := method_6_code
def yL_conflict : MethodName := ⟨"ChannelScheduleLaw", "conflict", "(LChannelSchedule;ZIIZII)Z"⟩
theorem wL_conflict : YS yL_conflict bL_conflict 10 (some .boolean) 7 := ⟨LW_i 768 (by decide +kernel) (by decide +kernel), LW_i 27 (by decide +kernel) (by decide +kernel), LW_i 769 (by decide +kernel) (by decide +kernel), by decide +kernel, by decide +kernel⟩
theorem dL_conflict_0 : decode bL_conflict 0 = .ok (.iload_n 2, 1) := by decide +kernel
theorem dL_conflict_1 : decode bL_conflict 1 = .ok (.iload 5, 2) := by decide +kernel
theorem dL_conflict_3 : decode bL_conflict 3 = .ok (.if_icmp .ge 7, 3) := by decide +kernel
theorem dL_conflict_6 : decode bL_conflict 6 = .ok (.iconst 1, 1) := by decide +kernel
theorem dL_conflict_7 : decode bL_conflict 7 = .ok (.goto 4, 3) := by decide +kernel
theorem dL_conflict_10 : decode bL_conflict 10 = .ok (.iconst 0, 1) := by decide +kernel
theorem dL_conflict_11 : decode bL_conflict 11 = .ok (.istore 7, 2) := by decide +kernel
theorem dL_conflict_13 : decode bL_conflict 13 = .ok (.iload 7, 2) := by decide +kernel
theorem dL_conflict_15 : decode bL_conflict 15 = .ok (.ifCond .eq 10, 3) := by decide +kernel
theorem dL_conflict_18 : decode bL_conflict 18 = .ok (.iload 5, 2) := by decide +kernel
theorem dL_conflict_20 : decode bL_conflict 20 = .ok (.iload_n 2, 1) := by decide +kernel
theorem dL_conflict_21 : decode bL_conflict 21 = .ok (.isub, 1) := by decide +kernel
theorem dL_conflict_22 : decode bL_conflict 22 = .ok (.goto 7, 3) := by decide +kernel
theorem dL_conflict_25 : decode bL_conflict 25 = .ok (.iload_n 2, 1) := by decide +kernel
theorem dL_conflict_26 : decode bL_conflict 26 = .ok (.iload 5, 2) := by decide +kernel
theorem dL_conflict_28 : decode bL_conflict 28 = .ok (.isub, 1) := by decide +kernel
theorem dL_conflict_29 : decode bL_conflict 29 = .ok (.istore 8, 2) := by decide +kernel
theorem dL_conflict_31 : decode bL_conflict 31 = .ok (.iload 8, 2) := by decide +kernel
theorem dL_conflict_33 : decode bL_conflict 33 = .ok (.ifCond .ne 5, 3) := by decide +kernel
theorem dL_conflict_36 : decode bL_conflict 36 = .ok (.iconst 1, 1) := by decide +kernel
theorem dL_conflict_37 : decode bL_conflict 37 = .ok (.ireturn, 1) := by decide +kernel
theorem dL_conflict_38 : decode bL_conflict 38 = .ok (.iload_n 1, 1) := by decide +kernel
theorem dL_conflict_39 : decode bL_conflict 39 = .ok (.iload 4, 2) := by decide +kernel
theorem dL_conflict_41 : decode bL_conflict 41 = .ok (.if_icmp .ne 45, 3) := by decide +kernel
theorem dL_conflict_44 : decode bL_conflict 44 = .ok (.iload 7, 2) := by decide +kernel
theorem dL_conflict_46 : decode bL_conflict 46 = .ok (.ifCond .eq 10, 3) := by decide +kernel
theorem dL_conflict_49 : decode bL_conflict 49 = .ok (.iload 6, 2) := by decide +kernel
theorem dL_conflict_51 : decode bL_conflict 51 = .ok (.iload_n 3, 1) := by decide +kernel
theorem dL_conflict_52 : decode bL_conflict 52 = .ok (.isub, 1) := by decide +kernel
theorem dL_conflict_53 : decode bL_conflict 53 = .ok (.goto 7, 3) := by decide +kernel
theorem dL_conflict_56 : decode bL_conflict 56 = .ok (.iload_n 3, 1) := by decide +kernel
theorem dL_conflict_57 : decode bL_conflict 57 = .ok (.iload 6, 2) := by decide +kernel
theorem dL_conflict_59 : decode bL_conflict 59 = .ok (.isub, 1) := by decide +kernel
theorem dL_conflict_60 : decode bL_conflict 60 = .ok (.istore 9, 2) := by decide +kernel
theorem dL_conflict_62 : decode bL_conflict 62 = .ok (.iload 8, 2) := by decide +kernel
theorem dL_conflict_64 : decode bL_conflict 64 = .ok (.aload_n 0, 1) := by decide +kernel
theorem dL_conflict_65 : decode bL_conflict 65 = .ok (.invokevirtual 61, 3) := by decide +kernel
theorem dL_conflict_68 : decode bL_conflict 68 = .ok (.if_icmp .lt 12, 3) := by decide +kernel
theorem dL_conflict_71 : decode bL_conflict 71 = .ok (.iload 9, 2) := by decide +kernel
theorem dL_conflict_73 : decode bL_conflict 73 = .ok (.aload_n 0, 1) := by decide +kernel
theorem dL_conflict_74 : decode bL_conflict 74 = .ok (.invokevirtual 61, 3) := by decide +kernel
theorem dL_conflict_77 : decode bL_conflict 77 = .ok (.if_icmp .ge 7, 3) := by decide +kernel
theorem dL_conflict_80 : decode bL_conflict 80 = .ok (.iconst 1, 1) := by decide +kernel
theorem dL_conflict_81 : decode bL_conflict 81 = .ok (.goto 4, 3) := by decide +kernel
theorem dL_conflict_84 : decode bL_conflict 84 = .ok (.iconst 0, 1) := by decide +kernel
theorem dL_conflict_85 : decode bL_conflict 85 = .ok (.ireturn, 1) := by decide +kernel
theorem dL_conflict_86 : decode bL_conflict 86 = .ok (.iload 7, 2) := by decide +kernel
theorem dL_conflict_88 : decode bL_conflict 88 = .ok (.ifCond .eq 10, 3) := by decide +kernel
theorem dL_conflict_91 : decode bL_conflict 91 = .ok (.iload 5, 2) := by decide +kernel
theorem dL_conflict_93 : decode bL_conflict 93 = .ok (.iload_n 3, 1) := by decide +kernel
theorem dL_conflict_94 : decode bL_conflict 94 = .ok (.isub, 1) := by decide +kernel
theorem dL_conflict_95 : decode bL_conflict 95 = .ok (.goto 7, 3) := by decide +kernel
theorem dL_conflict_98 : decode bL_conflict 98 = .ok (.iload_n 2, 1) := by decide +kernel
theorem dL_conflict_99 : decode bL_conflict 99 = .ok (.iload 6, 2) := by decide +kernel
theorem dL_conflict_101 : decode bL_conflict 101 = .ok (.isub, 1) := by decide +kernel
theorem dL_conflict_102 : decode bL_conflict 102 = .ok (.aload_n 0, 1) := by decide +kernel
theorem dL_conflict_103 : decode bL_conflict 103 = .ok (.invokevirtual 64, 3) := by decide +kernel
theorem dL_conflict_106 : decode bL_conflict 106 = .ok (.if_icmp .ge 7, 3) := by decide +kernel
theorem dL_conflict_109 : decode bL_conflict 109 = .ok (.iconst 1, 1) := by decide +kernel
theorem dL_conflict_110 : decode bL_conflict 110 = .ok (.goto 4, 3) := by decide +kernel
theorem dL_conflict_113 : decode bL_conflict 113 = .ok (.iconst 0, 1) := by decide +kernel
theorem dL_conflict_114 : decode bL_conflict 114 = .ok (.ireturn, 1) := by decide +kernel
abbrev bL_act : ByteArray := method_7_code
def yL_act : MethodName := ⟨"ChannelScheduleLaw", "act", "(LChannelSchedule;I)V"⟩
theorem wL_act : YS yL_act bL_act 6 none 2 := ⟨LW_i 1069 (by decide +kernel) (by decide +kernel), LW_i 27 (by decide +kernel) (by decide +kernel), LW_i 1070 (by decide +kernel) (by decide +kernel), by decide +kernel, by decide +kernel⟩
theorem dL_act_0 : decode bL_act 0 = .ok (.iload_n 1, 1) := by decide +kernel
theorem dL_act_1 : decode bL_act 1 = .ok (.bipush 16, 2) := by decide +kernel
theorem dL_act_3 : decode bL_act 3 = .ok (.idiv, 1) := by decide +kernel
theorem dL_act_4 : decode bL_act 4 = .ok (.aload_n 0, 1) := by decide +kernel
theorem dL_act_5 : decode bL_act 5 = .ok (.invokevirtual 67, 3) := by decide +kernel
theorem dL_act_8 : decode bL_act 8 = .ok (.irem, 1) := by decide +kernel
theorem dL_act_9 : decode bL_act 9 = .ok (.istore_n 2, 1) := by decide +kernel
theorem dL_act_10 : decode bL_act 10 = .ok (.iload_n 1, 1) := by decide +kernel
theorem dL_act_11 : decode bL_act 11 = .ok (.sipush 256, 3) := by decide +kernel
theorem dL_act_14 : decode bL_act 14 = .ok (.idiv, 1) := by decide +kernel
theorem dL_act_15 : decode bL_act 15 = .ok (.iconst 2, 1) := by decide +kernel
theorem dL_act_16 : decode bL_act 16 = .ok (.irem, 1) := by decide +kernel
theorem dL_act_17 : decode bL_act 17 = .ok (.ifCond .ne 7, 3) := by decide +kernel
theorem dL_act_20 : decode bL_act 20 = .ok (.iconst 1, 1) := by decide +kernel
theorem dL_act_21 : decode bL_act 21 = .ok (.goto 4, 3) := by decide +kernel
theorem dL_act_24 : decode bL_act 24 = .ok (.iconst 0, 1) := by decide +kernel
theorem dL_act_25 : decode bL_act 25 = .ok (.istore_n 3, 1) := by decide +kernel
theorem dL_act_26 : decode bL_act 26 = .ok (.iload_n 1, 1) := by decide +kernel
theorem dL_act_27 : decode bL_act 27 = .ok (.sipush 512, 3) := by decide +kernel
theorem dL_act_30 : decode bL_act 30 = .ok (.idiv, 1) := by decide +kernel
theorem dL_act_31 : decode bL_act 31 = .ok (.sipush 160, 3) := by decide +kernel
theorem dL_act_34 : decode bL_act 34 = .ok (.irem, 1) := by decide +kernel
theorem dL_act_35 : decode bL_act 35 = .ok (.istore 4, 2) := by decide +kernel
theorem dL_act_37 : decode bL_act 37 = .ok (.iload_n 1, 1) := by decide +kernel
theorem dL_act_38 : decode bL_act 38 = .ok (.bipush 12, 2) := by decide +kernel
theorem dL_act_40 : decode bL_act 40 = .ok (.irem, 1) := by decide +kernel
theorem dL_act_41 : decode bL_act 41 = .ok (.tableswitch 181 0 6 #[43, 43, 43, 84, 125, 149, 164], 43) := by decide +kernel
theorem dL_act_84 : decode bL_act 84 = .ok (.iload 4, 2) := by decide +kernel
theorem dL_act_86 : decode bL_act 86 = .ok (.aload_n 0, 1) := by decide +kernel
theorem dL_act_87 : decode bL_act 87 = .ok (.invokevirtual 70, 3) := by decide +kernel
theorem dL_act_90 : decode bL_act 90 = .ok (.if_icmp .lt 160, 3) := by decide +kernel
theorem dL_act_93 : decode bL_act 93 = .ok (.aload_n 0, 1) := by decide +kernel
theorem dL_act_94 : decode bL_act 94 = .ok (.invokevirtual 73, 3) := by decide +kernel
theorem dL_act_97 : decode bL_act 97 = .ok (.bipush 20, 2) := by decide +kernel
theorem dL_act_99 : decode bL_act 99 = .ok (.if_icmp .ge 151, 3) := by decide +kernel
theorem dL_act_102 : decode bL_act 102 = .ok (.aload_n 0, 1) := by decide +kernel
theorem dL_act_103 : decode bL_act 103 = .ok (.iload_n 2, 1) := by decide +kernel
theorem dL_act_104 : decode bL_act 104 = .ok (.iload_n 3, 1) := by decide +kernel
theorem dL_act_105 : decode bL_act 105 = .ok (.iload 4, 2) := by decide +kernel
theorem dL_act_107 : decode bL_act 107 = .ok (.invokevirtual 76, 3) := by decide +kernel
theorem dL_act_110 : decode bL_act 110 = .ok (.ifCond .ne 140, 3) := by decide +kernel
theorem dL_act_113 : decode bL_act 113 = .ok (.aload_n 0, 1) := by decide +kernel
theorem dL_act_114 : decode bL_act 114 = .ok (.iload_n 2, 1) := by decide +kernel
theorem dL_act_115 : decode bL_act 115 = .ok (.iload_n 3, 1) := by decide +kernel
theorem dL_act_116 : decode bL_act 116 = .ok (.iload 4, 2) := by decide +kernel
theorem dL_act_118 : decode bL_act 118 = .ok (.invokevirtual 80, 3) := by decide +kernel
theorem dL_act_121 : decode bL_act 121 = .ok (.pop, 1) := by decide +kernel
theorem dL_act_122 : decode bL_act 122 = .ok (.goto 128, 3) := by decide +kernel
theorem dL_act_125 : decode bL_act 125 = .ok (.aload_n 0, 1) := by decide +kernel
theorem dL_act_126 : decode bL_act 126 = .ok (.invokevirtual 73, 3) := by decide +kernel
theorem dL_act_129 : decode bL_act 129 = .ok (.ifCond .le 121, 3) := by decide +kernel
theorem dL_act_132 : decode bL_act 132 = .ok (.iload_n 1, 1) := by decide +kernel
theorem dL_act_133 : decode bL_act 133 = .ok (.ldc 83, 2) := by decide +kernel
theorem dL_act_135 : decode bL_act 135 = .ok (.idiv, 1) := by decide +kernel
theorem dL_act_136 : decode bL_act 136 = .ok (.aload_n 0, 1) := by decide +kernel
theorem dL_act_137 : decode bL_act 137 = .ok (.invokevirtual 73, 3) := by decide +kernel
theorem dL_act_140 : decode bL_act 140 = .ok (.irem, 1) := by decide +kernel
theorem dL_act_141 : decode bL_act 141 = .ok (.istore 5, 2) := by decide +kernel
theorem dL_act_143 : decode bL_act 143 = .ok (.aload_n 0, 1) := by decide +kernel
theorem dL_act_144 : decode bL_act 144 = .ok (.iload 5, 2) := by decide +kernel
theorem dL_act_146 : decode bL_act 146 = .ok (.invokevirtual 84, 3) := by decide +kernel
theorem dL_act_149 : decode bL_act 149 = .ok (.aload_n 0, 1) := by decide +kernel
theorem dL_act_150 : decode bL_act 150 = .ok (.invokevirtual 70, 3) := by decide +kernel
theorem dL_act_153 : decode bL_act 153 = .ok (.if_icmp .le 10, 3) := by decide +kernel
theorem dL_act_156 : decode bL_act 156 = .ok (.aload_n 0, 1) := by decide +kernel
theorem dL_act_157 : decode bL_act 157 = .ok (.iload 5, 2) := by decide +kernel
theorem dL_act_159 : decode bL_act 159 = .ok (.invokevirtual 87, 3) := by decide +kernel
theorem dL_act_162 : decode bL_act 162 = .ok (.pop, 1) := by decide +kernel
theorem dL_act_163 : decode bL_act 163 = .ok (.goto 87, 3) := by decide +kernel
theorem dL_act_166 : decode bL_act 166 = .ok (.aload_n 0, 1) := by decide +kernel
theorem dL_act_167 : decode bL_act 167 = .ok (.invokevirtual 90, 3) := by decide +kernel
theorem dL_act_170 : decode bL_act 170 = .ok (.ifCond .le 80, 3) := by decide +kernel
theorem dL_act_173 : decode bL_act 173 = .ok (.aload_n 0, 1) := by decide +kernel
theorem dL_act_174 : decode bL_act 174 = .ok (.iload_n 1, 1) := by decide +kernel
theorem dL_act_175 : decode bL_act 175 = .ok (.ldc 83, 2) := by decide +kernel
theorem dL_act_177 : decode bL_act 177 = .ok (.idiv, 1) := by decide +kernel
theorem dL_act_178 : decode bL_act 178 = .ok (.aload_n 0, 1) := by decide +kernel
theorem dL_act_179 : decode bL_act 179 = .ok (.invokevirtual 90, 3) := by decide +kernel
theorem dL_act_182 : decode bL_act 182 = .ok (.irem, 1) := by decide +kernel
theorem dL_act_183 : decode bL_act 183 = .ok (.invokevirtual 93, 3) := by decide +kernel
theorem dL_act_186 : decode bL_act 186 = .ok (.pop, 1) := by decide +kernel
theorem dL_act_187 : decode bL_act 187 = .ok (.goto 63, 3) := by decide +kernel
theorem dL_act_190 : decode bL_act 190 = .ok (.aload_n 0, 1) := by decide +kernel
theorem dL_act_191 : decode bL_act 191 = .ok (.iload_n 1, 1) := by decide +kernel
theorem dL_act_192 : decode bL_act 192 = .ok (.ldc 83, 2) := by decide +kernel
theorem dL_act_194 : decode bL_act 194 = .ok (.idiv, 1) := by decide +kernel
theorem dL_act_195 : decode bL_act 195 = .ok (.bipush 10, 2) := by decide +kernel
theorem dL_act_197 : decode bL_act 197 = .ok (.irem, 1) := by decide +kernel
theorem dL_act_198 : decode bL_act 198 = .ok (.invokevirtual 96, 3) := by decide +kernel
theorem dL_act_201 : decode bL_act 201 = .ok (.pop, 1) := by decide +kernel
theorem dL_act_202 : decode bL_act 202 = .ok (.goto 48, 3) := by decide +kernel
theorem dL_act_205 : decode bL_act 205 = .ok (.aload_n 0, 1) := by decide +kernel
theorem dL_act_206 : decode bL_act 206 = .ok (.iconst 1, 1) := by decide +kernel
theorem dL_act_207 : decode bL_act 207 = .ok (.iload_n 1, 1) := by decide +kernel
theorem dL_act_208 : decode bL_act 208 = .ok (.ldc 83, 2) := by decide +kernel
theorem dL_act_210 : decode bL_act 210 = .ok (.idiv, 1) := by decide +kernel
theorem dL_act_211 : decode bL_act 211 = .ok (.bipush 12, 2) := by decide +kernel
theorem dL_act_213 : decode bL_act 213 = .ok (.irem, 1) := by decide +kernel
theorem dL_act_214 : decode bL_act 214 = .ok (.iadd, 1) := by decide +kernel
theorem dL_act_215 : decode bL_act 215 = .ok (.invokevirtual 99, 3) := by decide +kernel
theorem dL_act_218 : decode bL_act 218 = .ok (.pop, 1) := by decide +kernel
theorem dL_act_219 : decode bL_act 219 = .ok (.goto 31, 3) := by decide +kernel
theorem dL_act_222 : decode bL_act 222 = .ok (.aload_n 0, 1) := by decide +kernel
theorem dL_act_223 : decode bL_act 223 = .ok (.invokevirtual 90, 3) := by decide +kernel
theorem dL_act_226 : decode bL_act 226 = .ok (.bipush 8, 2) := by decide +kernel
theorem dL_act_228 : decode bL_act 228 = .ok (.if_icmp .ge 22, 3) := by decide +kernel
theorem dL_act_231 : decode bL_act 231 = .ok (.aload_n 0, 1) := by decide +kernel
theorem dL_act_232 : decode bL_act 232 = .ok (.iload_n 2, 1) := by decide +kernel
theorem dL_act_233 : decode bL_act 233 = .ok (.iload_n 3, 1) := by decide +kernel
theorem dL_act_234 : decode bL_act 234 = .ok (.iload 4, 2) := by decide +kernel
theorem dL_act_236 : decode bL_act 236 = .ok (.iload 4, 2) := by decide +kernel
theorem dL_act_238 : decode bL_act 238 = .ok (.iload_n 1, 1) := by decide +kernel
theorem dL_act_239 : decode bL_act 239 = .ok (.ldc 83, 2) := by decide +kernel
theorem dL_act_241 : decode bL_act 241 = .ok (.idiv, 1) := by decide +kernel
theorem dL_act_242 : decode bL_act 242 = .ok (.bipush 25, 2) := by decide +kernel
theorem dL_act_244 : decode bL_act 244 = .ok (.irem, 1) := by decide +kernel
theorem dL_act_245 : decode bL_act 245 = .ok (.iadd, 1) := by decide +kernel
theorem dL_act_246 : decode bL_act 246 = .ok (.invokevirtual 102, 3) := by decide +kernel
theorem dL_act_249 : decode bL_act 249 = .ok (.pop, 1) := by decide +kernel
theorem dL_act_250 : decode bL_act 250 = .ok (.return_, 1) := by decide +kernel
theorem lL_8 : .methodLink "ChannelScheduleLaw" 8 ⟨"java/lang/String", "length", "()I"⟩ ∈ LW := LW_i 815 (by decide +kernel) (by decide +kernel)
theorem lL_14 : .methodLink "ChannelScheduleLaw" 14 ⟨"java/lang/String", "charAt", "(I)C"⟩ ∈ LW := LW_i 819 (by decide +kernel) (by decide +kernel)
theorem lL_18 : .methodLink "ChannelScheduleLaw" 18 y5_truncate ∈ LW := LW_i 811 (by decide +kernel) (by decide +kernel)
theorem lL_24 : .methodLink "ChannelScheduleLaw" 24 yL_word ∈ LW := LW_i 816 (by decide +kernel) (by decide +kernel)
theorem lL_30 : .methodLink "ChannelScheduleLaw" 30 y5_append ∈ LW := LW_i 820 (by decide +kernel) (by decide +kernel)
theorem lL_38 : .methodLink "ChannelScheduleLaw" 38 ⟨"java/lang/StringBuilder", "<init>", "(Ljava/lang/String;)V"⟩ ∈ LW := LW_i 835 (by decide +kernel) (by decide +kernel)
theorem lL_41 : .methodLink "ChannelScheduleLaw" 41 yL_pick ∈ LW := LW_i 804 (by decide +kernel) (by decide +kernel)
theorem lL_45 : .methodLink "ChannelScheduleLaw" 45 ⟨"java/lang/StringBuilder", "append", "(I)Ljava/lang/StringBuilder;"⟩ ∈ LW := LW_i 970 (by decide +kernel) (by decide +kernel)
theorem lL_48 : .methodLink "ChannelScheduleLaw" 48 ⟨"java/lang/StringBuilder", "append", "(C)Ljava/lang/StringBuilder;"⟩ ∈ LW := LW_i 995 (by decide +kernel) (by decide +kernel)
theorem lL_54 : .methodLink "ChannelScheduleLaw" 54 ⟨"java/lang/StringBuilder", "append", "(Ljava/lang/String;)Ljava/lang/StringBuilder;"⟩ ∈ LW := LW_i 1010 (by decide +kernel) (by decide +kernel)
theorem lL_57 : .methodLink "ChannelScheduleLaw" 57 ⟨"java/lang/StringBuilder", "toString", "()Ljava/lang/String;"⟩ ∈ LW := LW_i 1011 (by decide +kernel) (by decide +kernel)
theorem lL_61 : .methodLink "ChannelScheduleLaw" 61 y5_headway ∈ LW := LW_i 770 (by decide +kernel) (by decide +kernel)
theorem lL_64 : .methodLink "ChannelScheduleLaw" 64 y5_clearance ∈ LW := LW_i 774 (by decide +kernel) (by decide +kernel)
theorem lL_67 : .methodLink "ChannelScheduleLaw" 67 y5_shipCount ∈ LW := LW_i 1071 (by decide +kernel) (by decide +kernel)
theorem lL_70 : .methodLink "ChannelScheduleLaw" 70 y5_minute ∈ LW := LW_i 491 (by decide +kernel) (by decide +kernel)
theorem lL_73 : .methodLink "ChannelScheduleLaw" 73 y5_bookingCount ∈ LW := LW_i 528 (by decide +kernel) (by decide +kernel)
theorem lL_76 : .methodLink "ChannelScheduleLaw" 76 y5_conflictCount ∈ LW := LW_i 540 (by decide +kernel) (by decide +kernel)
theorem lL_80 : .methodLink "ChannelScheduleLaw" 80 y5_book ∈ LW := LW_i 563 (by decide +kernel) (by decide +kernel)
theorem lL_84 : .methodLink "ChannelScheduleLaw" 84 y5_startMinute ∈ LW := LW_i 532 (by decide +kernel) (by decide +kernel)
theorem lL_87 : .methodLink "ChannelScheduleLaw" 87 y5_cancel ∈ LW := LW_i 644 (by decide +kernel) (by decide +kernel)
theorem lL_90 : .methodLink "ChannelScheduleLaw" 90 y5_requestCount ∈ LW := LW_i 1076 (by decide +kernel) (by decide +kernel)
theorem lL_93 : .methodLink "ChannelScheduleLaw" 93 y5_withdraw ∈ LW := LW_i 1077 (by decide +kernel) (by decide +kernel)
theorem lL_96 : .methodLink "ChannelScheduleLaw" 96 y5_setThickness ∈ LW := LW_i 1081 (by decide +kernel) (by decide +kernel)
theorem lL_99 : .methodLink "ChannelScheduleLaw" 99 y5_advance ∈ LW := LW_i 1089 (by decide +kernel) (by decide +kernel)
theorem lL_102 : .methodLink "ChannelScheduleLaw" 102 y5_request ∈ LW := LW_i 620 (by decide +kernel) (by decide +kernel)
theorem lL_106 : .methodLink "ChannelScheduleLaw" 106 y5_init ∈ LW := LW_i 55 (by decide +kernel) (by decide +kernel)
theorem lL_107 : .methodLink "ChannelScheduleLaw" 107 yL_setup ∈ LW := LW_i 829 (by decide +kernel) (by decide +kernel)
theorem lL_111 : .methodLink "ChannelScheduleLaw" 111 yL_say ∈ LW := LW_i 808 (by decide +kernel) (by decide +kernel)
theorem lL_115 : .methodLink "ChannelScheduleLaw" 115 y5_load ∈ LW := LW_i 421 (by decide +kernel) (by decide +kernel)
theorem lL_120 : .methodLink "ChannelScheduleLaw" 120 y6_init ∈ LW := LW_i 670 (by decide +kernel) (by decide +kernel)
theorem lL_124 : .methodLink "ChannelScheduleLaw" 124 y6_read ∈ LW := LW_i 717 (by decide +kernel) (by decide +kernel)
theorem lL_127 : .methodLink "ChannelScheduleLaw" 127 y6_agrees ∈ LW := LW_i 799 (by decide +kernel) (by decide +kernel)
theorem lL_136 : .methodLink "ChannelScheduleLaw" 136 y6_find ∈ LW := LW_i 778 (by decide +kernel) (by decide +kernel)
theorem lL_139 : .methodLink "ChannelScheduleLaw" 139 y6_add ∈ LW := LW_i 785 (by decide +kernel) (by decide +kernel)
theorem lL_161 : .methodLink "ChannelScheduleLaw" 161 y6_remove ∈ LW := LW_i 795 (by decide +kernel) (by decide +kernel)
theorem lL_165 : .methodLink "ChannelScheduleLaw" 165 y6_process ∈ LW := LW_i 789 (by decide +kernel) (by decide +kernel)
theorem lL_168 : .methodLink "ChannelScheduleLaw" 168 y5_transitTime ∈ LW := LW_i 495 (by decide +kernel) (by decide +kernel)
theorem lL_171 : .methodLink "ChannelScheduleLaw" 171 y6_isFree ∈ LW := LW_i 763 (by decide +kernel) (by decide +kernel)
theorem lL_175 : .methodLink "ChannelScheduleLaw" 175 yL_act ∈ LW := LW_i 1068 (by decide +kernel) (by decide +kernel)
theorem lL_179 : .methodLink "ChannelScheduleLaw" 179 y5_inconsistencies ∈ LW := LW_i 559 (by decide +kernel) (by decide +kernel)
theorem l6_1 : .methodLink "ChannelScheduleLaw$Own" 1 ⟨"java/lang/Object", "<init>", "()V"⟩ ∈ LW := LW_i 673 (by decide +kernel) (by decide +kernel)
theorem l6_39 : .methodLink "ChannelScheduleLaw$Own" 39 y5_bookingCount ∈ LW := LW_i 721 (by decide +kernel) (by decide +kernel)
theorem l6_49 : .methodLink "ChannelScheduleLaw$Own" 49 y5_requestsServed ∈ LW := LW_i 722 (by decide +kernel) (by decide +kernel)
theorem l6_55 : .methodLink "ChannelScheduleLaw$Own" 55 y5_bookedShip ∈ LW := LW_i 726 (by decide +kernel) (by decide +kernel)
theorem l6_59 : .methodLink "ChannelScheduleLaw$Own" 59 y5_isInbound ∈ LW := LW_i 730 (by decide +kernel) (by decide +kernel)
theorem l6_63 : .methodLink "ChannelScheduleLaw$Own" 63 y5_startMinute ∈ LW := LW_i 734 (by decide +kernel) (by decide +kernel)
theorem l6_66 : .methodLink "ChannelScheduleLaw$Own" 66 y5_endMinute ∈ LW := LW_i 735 (by decide +kernel) (by decide +kernel)
theorem l6_69 : .methodLink "ChannelScheduleLaw$Own" 69 y5_requestCount ∈ LW := LW_i 739 (by decide +kernel) (by decide +kernel)
theorem l6_75 : .methodLink "ChannelScheduleLaw$Own" 75 y5_requestedShip ∈ LW := LW_i 743 (by decide +kernel) (by decide +kernel)
theorem l6_78 : .methodLink "ChannelScheduleLaw$Own" 78 y5_isRequestInbound ∈ LW := LW_i 751 (by decide +kernel) (by decide +kernel)
theorem l6_81 : .methodLink "ChannelScheduleLaw$Own" 81 y5_earliestRequested ∈ LW := LW_i 755 (by decide +kernel) (by decide +kernel)
theorem l6_84 : .methodLink "ChannelScheduleLaw$Own" 84 y5_latestRequested ∈ LW := LW_i 759 (by decide +kernel) (by decide +kernel)
theorem l6_93 : .methodLink "ChannelScheduleLaw$Own" 93 y5_minute ∈ LW := LW_i 782 (by decide +kernel) (by decide +kernel)
theorem l6_96 : .methodLink "ChannelScheduleLaw$Own" 96 y5_transitTime ∈ LW := LW_i 783 (by decide +kernel) (by decide +kernel)
theorem l6_99 : .methodLink "ChannelScheduleLaw$Own" 99 y6_isFree ∈ LW := LW_i 784 (by decide +kernel) (by decide +kernel)
theorem l6_103 : .methodLink "ChannelScheduleLaw$Own" 103 y6_find ∈ LW := LW_i 793 (by decide +kernel) (by decide +kernel)
theorem l6_107 : .methodLink "ChannelScheduleLaw$Own" 107 y6_add ∈ LW := LW_i 794 (by decide +kernel) (by decide +kernel)
theorem l6_111 : .methodLink "ChannelScheduleLaw$Own" 111 y5_inconsistencies ∈ LW := LW_i 803 (by decide +kernel) (by decide +kernel)
theorem fL_132 : .fieldLink "ChannelScheduleLaw" 132 "ChannelScheduleLaw$Own" "waiting" "I" ∈ LW := LW_i 690 (by decide +kernel) (by decide +kernel)
theorem fL_143 : .fieldLink "ChannelScheduleLaw" 143 "ChannelScheduleLaw$Own" "wantedShip" "[I" ∈ LW := LW_i 682 (by decide +kernel) (by decide +kernel)
theorem fL_147 : .fieldLink "ChannelScheduleLaw" 147 "ChannelScheduleLaw$Own" "wantedIn" "[Z" ∈ LW := LW_i 684 (by decide +kernel) (by decide +kernel)
theorem fL_151 : .fieldLink "ChannelScheduleLaw" 151 "ChannelScheduleLaw$Own" "first" "[I" ∈ LW := LW_i 686 (by decide +kernel) (by decide +kernel)
theorem fL_154 : .fieldLink "ChannelScheduleLaw" 154 "ChannelScheduleLaw$Own" "last" "[I" ∈ LW := LW_i 688 (by decide +kernel) (by decide +kernel)
theorem fL_157 : .fieldLink "ChannelScheduleLaw" 157 "ChannelScheduleLaw$Own" "many" "I" ∈ LW := LW_i 680 (by decide +kernel) (by decide +kernel)
theorem f6_7 : .fieldLink "ChannelScheduleLaw$Own" 7 "ChannelScheduleLaw$Own" "ship" "[I" ∈ LW := LW_i 675 (by decide +kernel) (by decide +kernel)
theorem f6_13 : .fieldLink "ChannelScheduleLaw$Own" 13 "ChannelScheduleLaw$Own" "in" "[Z" ∈ LW := LW_i 676 (by decide +kernel) (by decide +kernel)
theorem f6_17 : .fieldLink "ChannelScheduleLaw$Own" 17 "ChannelScheduleLaw$Own" "start" "[I" ∈ LW := LW_i 677 (by decide +kernel) (by decide +kernel)
theorem f6_20 : .fieldLink "ChannelScheduleLaw$Own" 20 "ChannelScheduleLaw$Own" "end" "[I" ∈ LW := LW_i 678 (by decide +kernel) (by decide +kernel)
theorem f6_23 : .fieldLink "ChannelScheduleLaw$Own" 23 "ChannelScheduleLaw$Own" "wantedShip" "[I" ∈ LW := LW_i 681 (by decide +kernel) (by decide +kernel)
theorem f6_26 : .fieldLink "ChannelScheduleLaw$Own" 26 "ChannelScheduleLaw$Own" "wantedIn" "[Z" ∈ LW := LW_i 683 (by decide +kernel) (by decide +kernel)
theorem f6_29 : .fieldLink "ChannelScheduleLaw$Own" 29 "ChannelScheduleLaw$Own" "first" "[I" ∈ LW := LW_i 685 (by decide +kernel) (by decide +kernel)
theorem f6_32 : .fieldLink "ChannelScheduleLaw$Own" 32 "ChannelScheduleLaw$Own" "last" "[I" ∈ LW := LW_i 687 (by decide +kernel) (by decide +kernel)
theorem f6_35 : .fieldLink "ChannelScheduleLaw$Own" 35 "ChannelScheduleLaw$Own" "x" "LChannelSchedule;" ∈ LW := LW_i 674 (by decide +kernel) (by decide +kernel)
theorem f6_45 : .fieldLink "ChannelScheduleLaw$Own" 45 "ChannelScheduleLaw$Own" "many" "I" ∈ LW := LW_i 679 (by decide +kernel) (by decide +kernel)
theorem f6_52 : .fieldLink "ChannelScheduleLaw$Own" 52 "ChannelScheduleLaw$Own" "served" "I" ∈ LW := LW_i 691 (by decide +kernel) (by decide +kernel)
theorem f6_72 : .fieldLink "ChannelScheduleLaw$Own" 72 "ChannelScheduleLaw$Own" "waiting" "I" ∈ LW := LW_i 689 (by decide +kernel) (by decide +kernel)
theorem kkL_7 : .constant "ChannelScheduleLaw" 7 2147483647 ∈ LW := LW_i 807 (by decide +kernel) (by decide +kernel)
theorem kkL_51 : .constant "ChannelScheduleLaw" 51 16777216 ∈ LW := LW_i 1008 (by decide +kernel) (by decide +kernel)
theorem kkL_83 : .constant "ChannelScheduleLaw" 83 131072 ∈ LW := LW_i 1075 (by decide +kernel) (by decide +kernel)
theorem kkL_123 : .constant "ChannelScheduleLaw" 123 268435456 ∈ LW := LW_i 1101 (by decide +kernel) (by decide +kernel)
theorem kkL_131 : .constant "ChannelScheduleLaw" 131 32768 ∈ LW := LW_i 1102 (by decide +kernel) (by decide +kernel)
theorem kkL_160 : .constant "ChannelScheduleLaw" 160 1048576 ∈ LW := LW_i 1103 (by decide +kernel) (by decide +kernel)
end
section
/-! decode rows of the law's entry, 1 -/
theorem dL_law_0 : decode code 0 = .ok (.new 19, 3) := by decide +kernel
theorem dL_law_3 : decode code 3 = .ok (.dup, 1) := by decide +kernel
theorem dL_law_4 : decode code 4 = .ok (.invokespecial 106, 3) := by decide +kernel
theorem dL_law_7 : decode code 7 = .ok (.astore_n 1, 1) := by decide +kernel
theorem dL_law_8 : decode code 8 = .ok (.iconst 1, 1) := by decide +kernel
theorem dL_law_9 : decode code 9 = .ok (.aload_n 0, 1) := by decide +kernel
theorem dL_law_10 : decode code 10 = .ok (.iconst 0, 1) := by decide +kernel
theorem dL_law_11 : decode code 11 = .ok (.bipush 6, 2) := by decide +kernel
theorem dL_law_13 : decode code 13 = .ok (.invokestatic 41, 3) := by decide +kernel
theorem dL_law_16 : decode code 16 = .ok (.iadd, 1) := by decide +kernel
theorem dL_law_17 : decode code 17 = .ok (.istore_n 2, 1) := by decide +kernel
theorem dL_law_18 : decode code 18 = .ok (.aload_n 1, 1) := by decide +kernel
theorem dL_law_19 : decode code 19 = .ok (.aload_n 0, 1) := by decide +kernel
theorem dL_law_20 : decode code 20 = .ok (.iload_n 2, 1) := by decide +kernel
theorem dL_law_21 : decode code 21 = .ok (.invokestatic 107, 3) := by decide +kernel
theorem dL_law_24 : decode code 24 = .ok (.invokestatic 111, 3) := by decide +kernel
theorem dL_law_27 : decode code 27 = .ok (.ifCond .eq 11, 3) := by decide +kernel
theorem dL_law_30 : decode code 30 = .ok (.aload_n 1, 1) := by decide +kernel
theorem dL_law_31 : decode code 31 = .ok (.invokevirtual 115, 3) := by decide +kernel
theorem dL_law_34 : decode code 34 = .ok (.iload_n 2, 1) := by decide +kernel
theorem dL_law_35 : decode code 35 = .ok (.if_icmp .eq 5, 3) := by decide +kernel
theorem dL_law_38 : decode code 38 = .ok (.iconst 0, 1) := by decide +kernel
theorem dL_law_39 : decode code 39 = .ok (.ireturn, 1) := by decide +kernel
theorem dL_law_40 : decode code 40 = .ok (.new 118, 3) := by decide +kernel
theorem dL_law_43 : decode code 43 = .ok (.dup, 1) := by decide +kernel
theorem dL_law_44 : decode code 44 = .ok (.aload_n 1, 1) := by decide +kernel
theorem dL_law_45 : decode code 45 = .ok (.invokespecial 120, 3) := by decide +kernel
theorem dL_law_48 : decode code 48 = .ok (.astore_n 3, 1) := by decide +kernel
theorem dL_law_49 : decode code 49 = .ok (.iconst 0, 1) := by decide +kernel
theorem dL_law_50 : decode code 50 = .ok (.istore 4, 2) := by decide +kernel
theorem dL_law_52 : decode code 52 = .ok (.iload 4, 2) := by decide +kernel
theorem dL_law_54 : decode code 54 = .ok (.bipush 26, 2) := by decide +kernel
theorem dL_law_56 : decode code 56 = .ok (.if_icmp .ge 444, 3) := by decide +kernel
theorem dL_law_59 : decode code 59 = .ok (.aload_n 0, 1) := by decide +kernel
theorem dL_law_60 : decode code 60 = .ok (.bipush 10, 2) := by decide +kernel
theorem dL_law_62 : decode code 62 = .ok (.iload 4, 2) := by decide +kernel
theorem dL_law_64 : decode code 64 = .ok (.iadd, 1) := by decide +kernel
theorem dL_law_65 : decode code 65 = .ok (.ldc 123, 2) := by decide +kernel
theorem dL_law_67 : decode code 67 = .ok (.invokestatic 41, 3) := by decide +kernel
theorem dL_law_70 : decode code 70 = .ok (.istore 5, 2) := by decide +kernel
theorem dL_law_72 : decode code 72 = .ok (.aload_n 3, 1) := by decide +kernel
theorem dL_law_73 : decode code 73 = .ok (.invokevirtual 124, 3) := by decide +kernel
theorem dL_law_76 : decode code 76 = .ok (.aload_n 3, 1) := by decide +kernel
theorem dL_law_77 : decode code 77 = .ok (.invokevirtual 127, 3) := by decide +kernel
theorem dL_law_80 : decode code 80 = .ok (.ifCond .ne 5, 3) := by decide +kernel
theorem dL_law_83 : decode code 83 = .ok (.iconst 0, 1) := by decide +kernel
theorem dL_law_84 : decode code 84 = .ok (.ireturn, 1) := by decide +kernel
theorem dL_law_85 : decode code 85 = .ok (.iload 5, 2) := by decide +kernel
theorem dL_law_87 : decode code 87 = .ok (.bipush 8, 2) := by decide +kernel
theorem dL_law_89 : decode code 89 = .ok (.idiv, 1) := by decide +kernel
theorem dL_law_90 : decode code 90 = .ok (.iload_n 2, 1) := by decide +kernel
theorem dL_law_91 : decode code 91 = .ok (.irem, 1) := by decide +kernel
theorem dL_law_92 : decode code 92 = .ok (.istore 6, 2) := by decide +kernel
theorem dL_law_94 : decode code 94 = .ok (.iload 5, 2) := by decide +kernel
theorem dL_law_96 : decode code 96 = .ok (.bipush 64, 2) := by decide +kernel
theorem dL_law_98 : decode code 98 = .ok (.idiv, 1) := by decide +kernel
theorem dL_law_99 : decode code 99 = .ok (.iconst 2, 1) := by decide +kernel
theorem dL_law_100 : decode code 100 = .ok (.irem, 1) := by decide +kernel
theorem dL_law_101 : decode code 101 = .ok (.ifCond .ne 7, 3) := by decide +kernel
theorem dL_law_104 : decode code 104 = .ok (.iconst 1, 1) := by decide +kernel
theorem dL_law_105 : decode code 105 = .ok (.goto 4, 3) := by decide +kernel
theorem dL_law_108 : decode code 108 = .ok (.iconst 0, 1) := by decide +kernel
theorem dL_law_109 : decode code 109 = .ok (.istore 7, 2) := by decide +kernel
theorem dL_law_111 : decode code 111 = .ok (.iload 5, 2) := by decide +kernel
theorem dL_law_113 : decode code 113 = .ok (.sipush 128, 3) := by decide +kernel
theorem dL_law_116 : decode code 116 = .ok (.idiv, 1) := by decide +kernel
theorem dL_law_117 : decode code 117 = .ok (.sipush 140, 3) := by decide +kernel
theorem dL_law_120 : decode code 120 = .ok (.irem, 1) := by decide +kernel
theorem dL_law_121 : decode code 121 = .ok (.istore 8, 2) := by decide +kernel
theorem dL_law_123 : decode code 123 = .ok (.iload 8, 2) := by decide +kernel
theorem dL_law_125 : decode code 125 = .ok (.iload 5, 2) := by decide +kernel
theorem dL_law_127 : decode code 127 = .ok (.ldc 131, 2) := by decide +kernel
theorem dL_law_129 : decode code 129 = .ok (.idiv, 1) := by decide +kernel
theorem dL_law_130 : decode code 130 = .ok (.bipush 30, 2) := by decide +kernel
theorem dL_law_132 : decode code 132 = .ok (.irem, 1) := by decide +kernel
theorem dL_law_133 : decode code 133 = .ok (.iadd, 1) := by decide +kernel
theorem dL_law_134 : decode code 134 = .ok (.istore 9, 2) := by decide +kernel
theorem dL_law_136 : decode code 136 = .ok (.iload 5, 2) := by decide +kernel
theorem dL_law_138 : decode code 138 = .ok (.bipush 8, 2) := by decide +kernel
theorem dL_law_140 : decode code 140 = .ok (.irem, 1) := by decide +kernel
theorem dL_law_141 : decode code 141 = .ok (.iconst 4, 1) := by decide +kernel
theorem dL_law_142 : decode code 142 = .ok (.if_icmp .ge 127, 3) := by decide +kernel
theorem dL_law_145 : decode code 145 = .ok (.aload_n 3, 1) := by decide +kernel
theorem dL_law_146 : decode code 146 = .ok (.getfield 132, 3) := by decide +kernel
theorem dL_law_149 : decode code 149 = .ok (.bipush 8, 2) := by decide +kernel
theorem dL_law_151 : decode code 151 = .ok (.if_icmp .ge 118, 3) := by decide +kernel
theorem dL_law_154 : decode code 154 = .ok (.aload_n 3, 1) := by decide +kernel
theorem dL_law_155 : decode code 155 = .ok (.iload 6, 2) := by decide +kernel
theorem dL_law_157 : decode code 157 = .ok (.iload 7, 2) := by decide +kernel
theorem dL_law_159 : decode code 159 = .ok (.iload 8, 2) := by decide +kernel
theorem dL_law_161 : decode code 161 = .ok (.iload 9, 2) := by decide +kernel
theorem dL_law_163 : decode code 163 = .ok (.invokevirtual 136, 3) := by decide +kernel
theorem dL_law_166 : decode code 166 = .ok (.istore 10, 2) := by decide +kernel
theorem dL_law_168 : decode code 168 = .ok (.iload 10, 2) := by decide +kernel
theorem dL_law_170 : decode code 170 = .ok (.ifCond .lt 16, 3) := by decide +kernel
theorem dL_law_173 : decode code 173 = .ok (.aload_n 3, 1) := by decide +kernel
theorem dL_law_174 : decode code 174 = .ok (.iload 6, 2) := by decide +kernel
theorem dL_law_176 : decode code 176 = .ok (.iload 7, 2) := by decide +kernel
theorem dL_law_178 : decode code 178 = .ok (.iload 10, 2) := by decide +kernel
theorem dL_law_180 : decode code 180 = .ok (.invokevirtual 139, 3) := by decide +kernel
theorem dL_law_183 : decode code 183 = .ok (.goto 57, 3) := by decide +kernel
theorem dL_law_186 : decode code 186 = .ok (.aload_n 3, 1) := by decide +kernel
theorem dL_law_187 : decode code 187 = .ok (.getfield 143, 3) := by decide +kernel
theorem dL_law_190 : decode code 190 = .ok (.aload_n 3, 1) := by decide +kernel
theorem dL_law_191 : decode code 191 = .ok (.getfield 132, 3) := by decide +kernel
theorem dL_law_194 : decode code 194 = .ok (.iload 6, 2) := by decide +kernel
theorem dL_law_196 : decode code 196 = .ok (.iastore, 1) := by decide +kernel
theorem dL_law_197 : decode code 197 = .ok (.aload_n 3, 1) := by decide +kernel
theorem dL_law_198 : decode code 198 = .ok (.getfield 147, 3) := by decide +kernel
theorem dL_law_201 : decode code 201 = .ok (.aload_n 3, 1) := by decide +kernel
theorem dL_law_202 : decode code 202 = .ok (.getfield 132, 3) := by decide +kernel
theorem dL_law_205 : decode code 205 = .ok (.iload 7, 2) := by decide +kernel
theorem dL_law_207 : decode code 207 = .ok (.bastore, 1) := by decide +kernel
theorem dL_law_208 : decode code 208 = .ok (.aload_n 3, 1) := by decide +kernel
theorem dL_law_209 : decode code 209 = .ok (.getfield 151, 3) := by decide +kernel
theorem dL_law_212 : decode code 212 = .ok (.aload_n 3, 1) := by decide +kernel
theorem dL_law_213 : decode code 213 = .ok (.getfield 132, 3) := by decide +kernel
theorem dL_law_216 : decode code 216 = .ok (.iload 8, 2) := by decide +kernel
theorem dL_law_218 : decode code 218 = .ok (.iastore, 1) := by decide +kernel
theorem dL_law_219 : decode code 219 = .ok (.aload_n 3, 1) := by decide +kernel
theorem dL_law_220 : decode code 220 = .ok (.getfield 154, 3) := by decide +kernel
theorem dL_law_223 : decode code 223 = .ok (.aload_n 3, 1) := by decide +kernel
theorem dL_law_224 : decode code 224 = .ok (.getfield 132, 3) := by decide +kernel
theorem dL_law_227 : decode code 227 = .ok (.iload 9, 2) := by decide +kernel
theorem dL_law_229 : decode code 229 = .ok (.iastore, 1) := by decide +kernel
theorem dL_law_230 : decode code 230 = .ok (.aload_n 3, 1) := by decide +kernel
theorem dL_law_231 : decode code 231 = .ok (.dup, 1) := by decide +kernel
theorem dL_law_232 : decode code 232 = .ok (.getfield 132, 3) := by decide +kernel
theorem dL_law_235 : decode code 235 = .ok (.iconst 1, 1) := by decide +kernel
theorem dL_law_236 : decode code 236 = .ok (.iadd, 1) := by decide +kernel
theorem dL_law_237 : decode code 237 = .ok (.putfield 132, 3) := by decide +kernel
theorem dL_law_240 : decode code 240 = .ok (.aload_n 1, 1) := by decide +kernel
theorem dL_law_241 : decode code 241 = .ok (.iload 6, 2) := by decide +kernel
theorem dL_law_243 : decode code 243 = .ok (.iload 7, 2) := by decide +kernel
theorem dL_law_245 : decode code 245 = .ok (.iload 8, 2) := by decide +kernel
theorem dL_law_247 : decode code 247 = .ok (.iload 9, 2) := by decide +kernel
theorem dL_law_249 : decode code 249 = .ok (.invokevirtual 102, 3) := by decide +kernel
theorem dL_law_252 : decode code 252 = .ok (.iload 10, 2) := by decide +kernel
theorem dL_law_254 : decode code 254 = .ok (.if_icmp .ne 10, 3) := by decide +kernel
theorem dL_law_257 : decode code 257 = .ok (.aload_n 3, 1) := by decide +kernel
end
section
/-! decode rows of the law's entry, 2 -/
theorem dL_law_258 : decode code 258 = .ok (.invokevirtual 127, 3) := by decide +kernel
theorem dL_law_261 : decode code 261 = .ok (.ifCond .ne 5, 3) := by decide +kernel
theorem dL_law_264 : decode code 264 = .ok (.iconst 0, 1) := by decide +kernel
theorem dL_law_265 : decode code 265 = .ok (.ireturn, 1) := by decide +kernel
theorem dL_law_266 : decode code 266 = .ok (.goto 228, 3) := by decide +kernel
theorem dL_law_269 : decode code 269 = .ok (.iload 5, 2) := by decide +kernel
theorem dL_law_271 : decode code 271 = .ok (.bipush 8, 2) := by decide +kernel
theorem dL_law_273 : decode code 273 = .ok (.irem, 1) := by decide +kernel
theorem dL_law_274 : decode code 274 = .ok (.iconst 4, 1) := by decide +kernel
theorem dL_law_275 : decode code 275 = .ok (.if_icmp .ne 82, 3) := by decide +kernel
theorem dL_law_278 : decode code 278 = .ok (.aload_n 3, 1) := by decide +kernel
theorem dL_law_279 : decode code 279 = .ok (.getfield 157, 3) := by decide +kernel
theorem dL_law_282 : decode code 282 = .ok (.ifCond .le 75, 3) := by decide +kernel
theorem dL_law_285 : decode code 285 = .ok (.aload_n 1, 1) := by decide +kernel
theorem dL_law_286 : decode code 286 = .ok (.iload 5, 2) := by decide +kernel
theorem dL_law_288 : decode code 288 = .ok (.ldc 160, 2) := by decide +kernel
theorem dL_law_290 : decode code 290 = .ok (.idiv, 1) := by decide +kernel
theorem dL_law_291 : decode code 291 = .ok (.aload_n 3, 1) := by decide +kernel
theorem dL_law_292 : decode code 292 = .ok (.getfield 157, 3) := by decide +kernel
theorem dL_law_295 : decode code 295 = .ok (.irem, 1) := by decide +kernel
theorem dL_law_296 : decode code 296 = .ok (.invokevirtual 84, 3) := by decide +kernel
theorem dL_law_299 : decode code 299 = .ok (.aload_n 1, 1) := by decide +kernel
theorem dL_law_300 : decode code 300 = .ok (.invokevirtual 70, 3) := by decide +kernel
theorem dL_law_303 : decode code 303 = .ok (.if_icmp .le 54, 3) := by decide +kernel
theorem dL_law_306 : decode code 306 = .ok (.aload_n 3, 1) := by decide +kernel
theorem dL_law_307 : decode code 307 = .ok (.iload 5, 2) := by decide +kernel
theorem dL_law_309 : decode code 309 = .ok (.ldc 160, 2) := by decide +kernel
theorem dL_law_311 : decode code 311 = .ok (.idiv, 1) := by decide +kernel
theorem dL_law_312 : decode code 312 = .ok (.aload_n 3, 1) := by decide +kernel
theorem dL_law_313 : decode code 313 = .ok (.getfield 157, 3) := by decide +kernel
theorem dL_law_316 : decode code 316 = .ok (.irem, 1) := by decide +kernel
theorem dL_law_317 : decode code 317 = .ok (.invokevirtual 161, 3) := by decide +kernel
theorem dL_law_320 : decode code 320 = .ok (.aload_n 3, 1) := by decide +kernel
theorem dL_law_321 : decode code 321 = .ok (.invokevirtual 165, 3) := by decide +kernel
theorem dL_law_324 : decode code 324 = .ok (.istore 10, 2) := by decide +kernel
theorem dL_law_326 : decode code 326 = .ok (.aload_n 1, 1) := by decide +kernel
theorem dL_law_327 : decode code 327 = .ok (.iload 5, 2) := by decide +kernel
theorem dL_law_329 : decode code 329 = .ok (.ldc 160, 2) := by decide +kernel
theorem dL_law_331 : decode code 331 = .ok (.idiv, 1) := by decide +kernel
theorem dL_law_332 : decode code 332 = .ok (.aload_n 1, 1) := by decide +kernel
theorem dL_law_333 : decode code 333 = .ok (.invokevirtual 73, 3) := by decide +kernel
theorem dL_law_336 : decode code 336 = .ok (.irem, 1) := by decide +kernel
theorem dL_law_337 : decode code 337 = .ok (.invokevirtual 87, 3) := by decide +kernel
theorem dL_law_340 : decode code 340 = .ok (.iload 10, 2) := by decide +kernel
theorem dL_law_342 : decode code 342 = .ok (.if_icmp .ne 10, 3) := by decide +kernel
theorem dL_law_345 : decode code 345 = .ok (.aload_n 3, 1) := by decide +kernel
theorem dL_law_346 : decode code 346 = .ok (.invokevirtual 127, 3) := by decide +kernel
theorem dL_law_349 : decode code 349 = .ok (.ifCond .ne 5, 3) := by decide +kernel
theorem dL_law_352 : decode code 352 = .ok (.iconst 0, 1) := by decide +kernel
theorem dL_law_353 : decode code 353 = .ok (.ireturn, 1) := by decide +kernel
theorem dL_law_354 : decode code 354 = .ok (.goto 140, 3) := by decide +kernel
theorem dL_law_357 : decode code 357 = .ok (.iload 5, 2) := by decide +kernel
theorem dL_law_359 : decode code 359 = .ok (.bipush 8, 2) := by decide +kernel
theorem dL_law_361 : decode code 361 = .ok (.irem, 1) := by decide +kernel
theorem dL_law_362 : decode code 362 = .ok (.iconst 5, 1) := by decide +kernel
theorem dL_law_363 : decode code 363 = .ok (.if_icmp .ne 122, 3) := by decide +kernel
theorem dL_law_366 : decode code 366 = .ok (.iload 8, 2) := by decide +kernel
theorem dL_law_368 : decode code 368 = .ok (.aload_n 1, 1) := by decide +kernel
theorem dL_law_369 : decode code 369 = .ok (.invokevirtual 70, 3) := by decide +kernel
theorem dL_law_372 : decode code 372 = .ok (.if_icmp .lt 113, 3) := by decide +kernel
theorem dL_law_375 : decode code 375 = .ok (.aload_n 3, 1) := by decide +kernel
theorem dL_law_376 : decode code 376 = .ok (.getfield 157, 3) := by decide +kernel
theorem dL_law_379 : decode code 379 = .ok (.bipush 20, 2) := by decide +kernel
theorem dL_law_381 : decode code 381 = .ok (.if_icmp .ge 104, 3) := by decide +kernel
theorem dL_law_384 : decode code 384 = .ok (.aload_n 3, 1) := by decide +kernel
theorem dL_law_385 : decode code 385 = .ok (.iload 7, 2) := by decide +kernel
theorem dL_law_387 : decode code 387 = .ok (.iload 8, 2) := by decide +kernel
theorem dL_law_389 : decode code 389 = .ok (.iload 8, 2) := by decide +kernel
theorem dL_law_391 : decode code 391 = .ok (.aload_n 1, 1) := by decide +kernel
theorem dL_law_392 : decode code 392 = .ok (.iload 6, 2) := by decide +kernel
theorem dL_law_394 : decode code 394 = .ok (.invokevirtual 168, 3) := by decide +kernel
theorem dL_law_397 : decode code 397 = .ok (.iadd, 1) := by decide +kernel
theorem dL_law_398 : decode code 398 = .ok (.invokevirtual 171, 3) := by decide +kernel
theorem dL_law_401 : decode code 401 = .ok (.aload_n 1, 1) := by decide +kernel
theorem dL_law_402 : decode code 402 = .ok (.iload 6, 2) := by decide +kernel
theorem dL_law_404 : decode code 404 = .ok (.iload 7, 2) := by decide +kernel
theorem dL_law_406 : decode code 406 = .ok (.iload 8, 2) := by decide +kernel
theorem dL_law_408 : decode code 408 = .ok (.invokevirtual 76, 3) := by decide +kernel
theorem dL_law_411 : decode code 411 = .ok (.ifCond .ne 7, 3) := by decide +kernel
theorem dL_law_414 : decode code 414 = .ok (.iconst 1, 1) := by decide +kernel
theorem dL_law_415 : decode code 415 = .ok (.goto 4, 3) := by decide +kernel
theorem dL_law_418 : decode code 418 = .ok (.iconst 0, 1) := by decide +kernel
theorem dL_law_419 : decode code 419 = .ok (.if_icmp .eq 5, 3) := by decide +kernel
theorem dL_law_422 : decode code 422 = .ok (.iconst 0, 1) := by decide +kernel
theorem dL_law_423 : decode code 423 = .ok (.ireturn, 1) := by decide +kernel
theorem dL_law_424 : decode code 424 = .ok (.aload_n 3, 1) := by decide +kernel
theorem dL_law_425 : decode code 425 = .ok (.iload 7, 2) := by decide +kernel
theorem dL_law_427 : decode code 427 = .ok (.iload 8, 2) := by decide +kernel
theorem dL_law_429 : decode code 429 = .ok (.iload 8, 2) := by decide +kernel
theorem dL_law_431 : decode code 431 = .ok (.aload_n 1, 1) := by decide +kernel
theorem dL_law_432 : decode code 432 = .ok (.iload 6, 2) := by decide +kernel
theorem dL_law_434 : decode code 434 = .ok (.invokevirtual 168, 3) := by decide +kernel
theorem dL_law_437 : decode code 437 = .ok (.iadd, 1) := by decide +kernel
theorem dL_law_438 : decode code 438 = .ok (.invokevirtual 171, 3) := by decide +kernel
theorem dL_law_441 : decode code 441 = .ok (.ifCond .eq 53, 3) := by decide +kernel
theorem dL_law_444 : decode code 444 = .ok (.aload_n 3, 1) := by decide +kernel
theorem dL_law_445 : decode code 445 = .ok (.iload 6, 2) := by decide +kernel
theorem dL_law_447 : decode code 447 = .ok (.iload 7, 2) := by decide +kernel
theorem dL_law_449 : decode code 449 = .ok (.iload 8, 2) := by decide +kernel
theorem dL_law_451 : decode code 451 = .ok (.invokevirtual 139, 3) := by decide +kernel
theorem dL_law_454 : decode code 454 = .ok (.aload_n 1, 1) := by decide +kernel
theorem dL_law_455 : decode code 455 = .ok (.iload 6, 2) := by decide +kernel
theorem dL_law_457 : decode code 457 = .ok (.iload 7, 2) := by decide +kernel
theorem dL_law_459 : decode code 459 = .ok (.iload 8, 2) := by decide +kernel
theorem dL_law_461 : decode code 461 = .ok (.invokevirtual 80, 3) := by decide +kernel
theorem dL_law_464 : decode code 464 = .ok (.iload 8, 2) := by decide +kernel
theorem dL_law_466 : decode code 466 = .ok (.aload_n 1, 1) := by decide +kernel
theorem dL_law_467 : decode code 467 = .ok (.iload 6, 2) := by decide +kernel
theorem dL_law_469 : decode code 469 = .ok (.invokevirtual 168, 3) := by decide +kernel
theorem dL_law_472 : decode code 472 = .ok (.iadd, 1) := by decide +kernel
theorem dL_law_473 : decode code 473 = .ok (.if_icmp .ne 10, 3) := by decide +kernel
theorem dL_law_476 : decode code 476 = .ok (.aload_n 3, 1) := by decide +kernel
theorem dL_law_477 : decode code 477 = .ok (.invokevirtual 127, 3) := by decide +kernel
theorem dL_law_480 : decode code 480 = .ok (.ifCond .ne 14, 3) := by decide +kernel
theorem dL_law_483 : decode code 483 = .ok (.iconst 0, 1) := by decide +kernel
theorem dL_law_484 : decode code 484 = .ok (.ireturn, 1) := by decide +kernel
theorem dL_law_485 : decode code 485 = .ok (.aload_n 1, 1) := by decide +kernel
theorem dL_law_486 : decode code 486 = .ok (.iload 5, 2) := by decide +kernel
theorem dL_law_488 : decode code 488 = .ok (.bipush 8, 2) := by decide +kernel
theorem dL_law_490 : decode code 490 = .ok (.idiv, 1) := by decide +kernel
theorem dL_law_491 : decode code 491 = .ok (.invokestatic 175, 3) := by decide +kernel
theorem dL_law_494 : decode code 494 = .ok (.iinc 4 1, 3) := by decide +kernel
theorem dL_law_497 : decode code 497 = .ok (.goto (-445), 3) := by decide +kernel
theorem dL_law_500 : decode code 500 = .ok (.aload_n 1, 1) := by decide +kernel
theorem dL_law_501 : decode code 501 = .ok (.invokevirtual 179, 3) := by decide +kernel
theorem dL_law_504 : decode code 504 = .ok (.ifCond .ne 7, 3) := by decide +kernel
theorem dL_law_507 : decode code 507 = .ok (.iconst 1, 1) := by decide +kernel
theorem dL_law_508 : decode code 508 = .ok (.goto 4, 3) := by decide +kernel
theorem dL_law_511 : decode code 511 = .ok (.iconst 0, 1) := by decide +kernel
theorem dL_law_512 : decode code 512 = .ok (.ireturn, 1) := by decide +kernel
end
section
/-! rows for the walks that walk.py prints -/
def nrm (z : Int) : Int := (iI z).toInt
theorem nrm_of {z : Int} (h1 : -2147483648 ≤ z) (h2 : z ≤ 2147483647) : nrm z = z := iI_toInt ⟨h1, h2⟩
theorem rg_nrm (z : Int) : rg (nrm z) := rg_toInt _
theorem vI_nrm (z : Int) : vI z = vI (nrm z) := by
  show Value.int (iI z) = Value.int (iI (iI z).toInt)
  rw [← iI_of]
theorem nrm_nrm (z : Int) : nrm (nrm z) = nrm z := iI_toInt (rg_nrm z)
def ck {α : Type} (P : Prop) [Decidable P] (k : Option α) : Option α := if P then k else none
theorem ck_of {α : Type} {P : Prop} [Decidable P] {k : Option α} {r : α} (h : ck P k = some r) : P ∧ k = some r := by
  unfold ck at h
  split at h
  · rename_i hp; exact ⟨hp, h⟩
  · exact absurd h (by simp)
theorem ck_t {α : Type} {P : Prop} [Decidable P] {k : Option α} (h : P) : ck P k = k := if_pos h
def bd {α β : Type} (o : Option α) (f : α → Option β) : Option β := o.bind f
theorem bd_of {α β : Type} {o : Option α} {f : α → Option β} {r : β} (h : bd o f = some r) : ∃ x, o = some x ∧ f x = some r := Option.bind_eq_some_iff.mp h
theorem bd_s {α β : Type} {x : α} {f : α → Option β} : bd (some x) f = f x := rfl
def bd2 {α β γ : Type} (o : Option (α × β)) (f : α → β → Option γ) : Option γ := o.bind (fun s => f s.1 s.2)
theorem bd2_of {α β γ : Type} {o : Option (α × β)} {f : α → β → Option γ} {r : γ} (h : bd2 o f = some r) : ∃ x y, o = some (x, y) ∧ f x y = some r := by
  obtain ⟨⟨x, y⟩, h1, h2⟩ := Option.bind_eq_some_iff.mp h
  exact ⟨x, y, h1, h2⟩
theorem bd2_s {α β γ : Type} {x : α} {y : β} {f : α → β → Option γ} : bd2 (some (x, y)) f = f x y := rfl
def bd3 {α β γ δ : Type} (o : Option (α × β × γ)) (f : α → β → γ → Option δ) : Option δ := o.bind (fun s => f s.1 s.2.1 s.2.2)
theorem bd3_of {α β γ δ : Type} {o : Option (α × β × γ)} {f : α → β → γ → Option δ} {r : δ} (h : bd3 o f = some r) : ∃ x y z, o = some (x, y, z) ∧ f x y z = some r := by
  obtain ⟨⟨x, y, z⟩, h1, h2⟩ := Option.bind_eq_some_iff.mp h
  exact ⟨x, y, z, h1, h2⟩
theorem bd3_s {α β γ δ : Type} {x : α} {y : β} {z : γ} {f : α → β → γ → Option δ} : bd3 (some (x, y, z)) f = f x y z := rfl
def bd4 {α β γ δ ε : Type} (o : Option (α × β × γ × δ)) (f : α → β → γ → δ → Option ε) : Option ε := o.bind (fun s => f s.1 s.2.1 s.2.2.1 s.2.2.2)
theorem bd4_of {α β γ δ ε : Type} {o : Option (α × β × γ × δ)} {f : α → β → γ → δ → Option ε} {r : ε} (h : bd4 o f = some r) : ∃ x y z w, o = some (x, y, z, w) ∧ f x y z w = some r := by
  obtain ⟨⟨x, y, z, w⟩, h1, h2⟩ := Option.bind_eq_some_iff.mp h
  exact ⟨x, y, z, w, h1, h2⟩
theorem bd4_s {α β γ δ ε : Type} {x : α} {y : β} {z : γ} {w : δ} {f : α → β → γ → δ → Option ε} : bd4 (some (x, y, z, w)) f = f x y z w := rfl
/-- a loop with ends inside: an end, or what goes on -/
def bdl {α β : Type} (o : Option (Sum β α)) (f : α → Option β) : Option β := o.bind (fun s => match s with | .inl r => some r | .inr a => f a)
theorem ite_p {α : Type} {P : Prop} [Decidable P] {a b : α} {r : α} (c : P) (h : (if P then a else b) = r) : a = r := (if_pos c).symm.trans h
theorem ite_m {α : Type} {P : Prop} [Decidable P] {a b : α} {r : α} (c : ¬ P) (h : (if P then a else b) = r) : b = r := (if_neg c).symm.trans h
def FU : Nat := 5000
def aI (a b : Int) : Int := (iI a &&& iI b).toInt
def oI (a b : Int) : Int := (iI a ||| iI b).toInt
def xI (a b : Int) : Int := (iI a ^^^ iI b).toInt
def lI (a b : Int) : Int := (iI a <<< (iI b &&& 31)).toInt
def sI (a b : Int) : Int := (iI a >>> (iI b &&& 31)).toInt
def uI (a b : Int) : Int := ((iI a).toUInt32 >>> ((iI b).toUInt32 &&& Int32.toUInt32 31)).toInt32.toInt
/-- the two ends of a method -/
def oX : Except String Int → Except String (Option Value)
  | .ok r => .ok (some (vI r))
  | .error E => .error E
abbrev QO (o : Except String (Option Value)) (V1 : VV) : Option Value → VV → Prop := fun v V' => o = .ok v ∧ V' = V1
abbrev QE (o : Except String (Option Value)) (V1 : VV) : String → VV → Prop := fun E V' => o = .error E ∧ V' = V1
/-- the contract: the end o, the numbers V1 -/
abbrev EvX (G : GT) (l : Launch) (y : MethodName) (cc : ByteArray) (nL : Nat) (ret : Option FieldType) (d mc ms : Nat) (av : List Value) (V : VV) (o : Except String (Option Value)) (V1 : VV) : Prop := Ev G l y cc nL ret d mc ms av V (QO o V1) (QE o V1)
abbrev MX (G : GT) (X : CT) (d mc ms : Nat) (ret : Option FieldType) (o : Except String (Option Value)) (V1 : VV) : Prop := Mx G X d mc ms ret (vP G (QO o V1)) (vX G (QE o V1))
def subL : List (Nat × Value) → List (Nat × Value) → Prop
  | [], _ => True
  | q :: lw, lv => lv.lookup q.1 = some q.2 ∧ subL lw lv
theorem subL_all {lw lv : List (Nat × Value)} (h : subL lw lv) : ∀ q ∈ lw, lv.lookup q.1 = some q.2 := by
  induction lw with
  | nil => exact fun q hq => absurd hq List.not_mem_nil
  | cons a l ih =>
    intro q hq
    rcases List.mem_cons.mp hq with e | e
    · rw [e]; exact h.1
    · exact ih h.2 q e
theorem Cx.lt {G : GT} {X : CT} {own : String} {cc : ByteArray} (C : Cx G X own cc) : (xl X).stackTraces = false := C.2.2.2.2.2.2.2.2.1
/-- a receiver -/
def RC (G : GT) (k a : Nat) (C : String) : Prop := ad G k = a ∧ k < gN G ∧ ∃ (ci : Nat) (fs : (Nat → Int) → List Value), (∀ r, celOf (gB G) (gC G) (gA G) k r = .inr (ci, fs r)) ∧ (cls7[ci]?).map (fun q => q.1) = some C
def fsPlan (b k : Nat) (r : Nat → Int) : List Value := [vI (r 0), vI (r 1), vI (r 2), vI (r 3), vI (r 4), vI (r 5), .ref (b + (k + 1)), .ref (b + (k + 2)), .ref (b + (k + 3)), .ref (b + (k + 4)), vI (r 10), .ref (b + (k + 5)), .ref (b + (k + 6)), .ref (b + (k + 7)), .ref (b + (k + 8))]
def fsMain (b : Nat) (r : Nat → Int) : List Value := [.ref (b + 1), .ref (b + 3), .ref (b + aS (r 2).toNat), .ref (b + aS (r 3).toNat), .ref (b + aP 0), .ref (b + aP 1), .ref (b + 71), vI (r 7), vI (r 8), .ref (b + 72), .ref (b + 73), .ref (b + 74), .ref (b + 75), vI (r 13)]
def fsInput (b : Nat) (r : Nat → Int) : List Value := [.ref (b + 2), vI (r 1), vI (r 2), vI (r 3), vI (r 4), vI (r 5), vI (r 6), vI (r 7)]
def fsScript (b : Nat) (r : Nat → Int) : List Value := [vI (r 0), .ref (b + 4), .ref (b + 5), .ref (b + 6), .ref (b + 7), .ref (b + 8)]
def fsSetup (b k : Nat) (r : Nat → Int) : List Value := [vI (r 0), vI (r 1), vI (r 2), vI (r 3), .ref (b + (k + 1))]
def fsShip (b k : Nat) (r : Nat → Int) : List Value := [.ref (b + (k + 1)), vI (r 1), vI (r 2), vI (r 3), vI (r 4)]
def fsOwn (b c : Nat) (r : Nat → Int) : List Value := [.ref (b + 0), .ref (c + 149), .ref (c + 150), .ref (c + 151), .ref (c + 152), vI (r 5), .ref (c + 153), .ref (c + 154), .ref (c + 155), .ref (c + 156), vI (r 10), vI (r 11)]
theorem rc_main {G : GT} (hN : 148 ≤ gN G) : RC G 0 (gB G + 0) "ChannelSchedule" := ⟨ad_lo (by omega), by omega, 5, fsMain (gB G), fun _ => rfl, rfl⟩
theorem rc_input {G : GT} (hN : 148 ≤ gN G) : RC G 1 (gB G + 1) "ChannelSchedule$Input" := ⟨ad_lo (by omega), by omega, 0, fsInput (gB G), fun _ => rfl, rfl⟩
theorem rc_script {G : GT} (hN : 148 ≤ gN G) : RC G 3 (gB G + 3) "ChannelSchedule$Script" := ⟨ad_lo (by omega), by omega, 2, fsScript (gB G), fun _ => rfl, rfl⟩
theorem rc_plan {G : GT} (hN : 148 ≤ gN G) {p : Nat} (hp : p < 10) : RC G (aP p) (gB G + aP p) "ChannelSchedule$Plan" := ⟨ad_lo (aP_lt0 hp), by have := aP_lt0 hp; omega, 1, fsPlan (gB G) (aP p), celP_0 hp, rfl⟩
theorem rc_setup {G : GT} (hN : 148 ≤ gN G) {q : Nat} (hq : q < 2) : RC G (aS q) (gB G + aS q) "ChannelSchedule$Setup" := ⟨ad_lo (aS_lt0 hq), by have := aS_lt0 hq; omega, 3, fsSetup (gB G) (aS q), celS_0 hq, rfl⟩
theorem rc_ship {G : GT} (hN : 148 ≤ gN G) {q i : Nat} (hq : q < 2) (hi : i < 10) : RC G (aS q + (2 + 2 * i)) (gB G + (aS q + (2 + 2 * i))) "ChannelSchedule$Ship" := ⟨ad_lo (aS_lt hq (by omega)), by have := aS_lt (q := q) (j := 2 + 2 * i) hq (by omega); omega, 4, fsShip (gB G) (aS q + (2 + 2 * i)), celS_H hq hi, rfl⟩
theorem rc_own {G : GT} (hN : 157 ≤ gN G) : RC G 148 (gC G + 148) "ChannelScheduleLaw$Own" := ⟨ad_hi (by omega), by omega, 6, fsOwn (gB G) (gC G), fun _ => rfl, rfl⟩
/-- an array of kind a with n elements -/
def RA (G : GT) (a k n a0 : Nat) : Prop := (ad G k = a0 ∧ k < gN G) ∧ (n : Int) ≤ 2147483647 ∧ ∀ r, celOf (gB G) (gC G) (gA G) k r = arI (gA G a) n r
theorem ra_bytes {G : GT} (hN : 148 ≤ gN G) : RA G 2 2 600 (gB G + 2) := ⟨⟨ad_lo (by omega), by omega⟩, by omega, fun _ => rfl⟩
theorem ra_script4 {G : GT} (hN : 148 ≤ gN G) : RA G 0 4 30 (gB G + 4) := ⟨⟨ad_lo (by omega), by omega⟩, by omega, fun _ => rfl⟩
theorem ra_script5 {G : GT} (hN : 148 ≤ gN G) : RA G 0 5 30 (gB G + 5) := ⟨⟨ad_lo (by omega), by omega⟩, by omega, fun _ => rfl⟩
theorem ra_script6 {G : GT} (hN : 148 ≤ gN G) : RA G 1 6 30 (gB G + 6) := ⟨⟨ad_lo (by omega), by omega⟩, by omega, fun _ => rfl⟩
theorem ra_script7 {G : GT} (hN : 148 ≤ gN G) : RA G 0 7 30 (gB G + 7) := ⟨⟨ad_lo (by omega), by omega⟩, by omega, fun _ => rfl⟩
theorem ra_script8 {G : GT} (hN : 148 ≤ gN G) : RA G 0 8 30 (gB G + 8) := ⟨⟨ad_lo (by omega), by omega⟩, by omega, fun _ => rfl⟩
theorem ra_isSaved {G : GT} (hN : 148 ≤ gN G) : RA G 1 73 2 (gB G + 73) := ⟨⟨ad_lo (by omega), by omega⟩, by omega, fun _ => rfl⟩
theorem ra_excluded {G : GT} (hN : 148 ≤ gN G) : RA G 0 74 8 (gB G + 74) := ⟨⟨ad_lo (by omega), by omega⟩, by omega, fun _ => rfl⟩
theorem ra_output {G : GT} (hN : 148 ≤ gN G) : RA G 2 75 320 (gB G + 75) := ⟨⟨ad_lo (by omega), by omega⟩, by omega, fun _ => rfl⟩
theorem ra_own149 {G : GT} (hN : 157 ≤ gN G) : RA G 0 149 20 (gC G + 149) := ⟨⟨ad_hi (by omega), by omega⟩, by omega, fun _ => rfl⟩
theorem ra_own150 {G : GT} (hN : 157 ≤ gN G) : RA G 1 150 20 (gC G + 150) := ⟨⟨ad_hi (by omega), by omega⟩, by omega, fun _ => rfl⟩
theorem ra_own151 {G : GT} (hN : 157 ≤ gN G) : RA G 0 151 20 (gC G + 151) := ⟨⟨ad_hi (by omega), by omega⟩, by omega, fun _ => rfl⟩
theorem ra_own152 {G : GT} (hN : 157 ≤ gN G) : RA G 0 152 20 (gC G + 152) := ⟨⟨ad_hi (by omega), by omega⟩, by omega, fun _ => rfl⟩
theorem ra_own153 {G : GT} (hN : 157 ≤ gN G) : RA G 0 153 8 (gC G + 153) := ⟨⟨ad_hi (by omega), by omega⟩, by omega, fun _ => rfl⟩
theorem ra_own154 {G : GT} (hN : 157 ≤ gN G) : RA G 1 154 8 (gC G + 154) := ⟨⟨ad_hi (by omega), by omega⟩, by omega, fun _ => rfl⟩
theorem ra_own155 {G : GT} (hN : 157 ≤ gN G) : RA G 0 155 8 (gC G + 155) := ⟨⟨ad_hi (by omega), by omega⟩, by omega, fun _ => rfl⟩
theorem ra_own156 {G : GT} (hN : 157 ≤ gN G) : RA G 0 156 8 (gC G + 156) := ⟨⟨ad_hi (by omega), by omega⟩, by omega, fun _ => rfl⟩
theorem ra_plan1 {G : GT} (hN : 148 ≤ gN G) {p : Nat} (hp : p < 10) : RA G 0 (aP p + 1) 20 (gB G + (aP p + 1)) := ⟨⟨ad_lo (aP_lt hp (by omega)), by have := aP_lt (j := 1) hp (by omega); omega⟩, by omega, celP_I hp (Or.inl rfl)⟩
theorem ra_plan2 {G : GT} (hN : 148 ≤ gN G) {p : Nat} (hp : p < 10) : RA G 1 (aP p + 2) 20 (gB G + (aP p + 2)) := ⟨⟨ad_lo (aP_lt hp (by omega)), by have := aP_lt (j := 2) hp (by omega); omega⟩, by omega, celP_Z hp⟩
theorem ra_plan3 {G : GT} (hN : 148 ≤ gN G) {p : Nat} (hp : p < 10) : RA G 0 (aP p + 3) 20 (gB G + (aP p + 3)) := ⟨⟨ad_lo (aP_lt hp (by omega)), by have := aP_lt (j := 3) hp (by omega); omega⟩, by omega, celP_I hp (Or.inr (Or.inl rfl))⟩
theorem ra_plan4 {G : GT} (hN : 148 ≤ gN G) {p : Nat} (hp : p < 10) : RA G 0 (aP p + 4) 20 (gB G + (aP p + 4)) := ⟨⟨ad_lo (aP_lt hp (by omega)), by have := aP_lt (j := 4) hp (by omega); omega⟩, by omega, celP_I hp (Or.inr (Or.inr rfl))⟩
theorem ra_plan5 {G : GT} (hN : 148 ≤ gN G) {p : Nat} (hp : p < 10) : RA G 0 (aP p + 5) 8 (gB G + (aP p + 5)) := ⟨⟨ad_lo (aP_lt hp (by omega)), by have := aP_lt (j := 5) hp (by omega); omega⟩, by omega, celP_J hp (Or.inl rfl)⟩
theorem ra_plan6 {G : GT} (hN : 148 ≤ gN G) {p : Nat} (hp : p < 10) : RA G 1 (aP p + 6) 8 (gB G + (aP p + 6)) := ⟨⟨ad_lo (aP_lt hp (by omega)), by have := aP_lt (j := 6) hp (by omega); omega⟩, by omega, celP_Y hp⟩
theorem ra_plan7 {G : GT} (hN : 148 ≤ gN G) {p : Nat} (hp : p < 10) : RA G 0 (aP p + 7) 8 (gB G + (aP p + 7)) := ⟨⟨ad_lo (aP_lt hp (by omega)), by have := aP_lt (j := 7) hp (by omega); omega⟩, by omega, celP_J hp (Or.inr (Or.inl rfl))⟩
theorem ra_plan8 {G : GT} (hN : 148 ≤ gN G) {p : Nat} (hp : p < 10) : RA G 0 (aP p + 8) 8 (gB G + (aP p + 8)) := ⟨⟨ad_lo (aP_lt hp (by omega)), by have := aP_lt (j := 8) hp (by omega); omega⟩, by omega, celP_J hp (Or.inr (Or.inr rfl))⟩
theorem ra_name {G : GT} (hN : 148 ≤ gN G) {q i : Nat} (hq : q < 2) (hi : i < 10) : RA G 2 (aS q + (2 + 2 * i) + 1) 6 (gB G + (aS q + (2 + 2 * i) + 1)) := ⟨⟨ad_lo (aS_lt (j := 2 + 2 * i + 1) hq (by omega)), by have := aS_lt (q := q) (j := 2 + 2 * i + 1) hq (by omega); omega⟩, by omega, celS_N hq hi⟩
section
variable {G : GT} {X : CT} {cells slots pc : Nat} {lv : List (Nat × Value)} {st : List Value} {V : VV} {own : String} {cc : ByteArray}
theorem AtH.ws {N : Nat} {h : HT} {lw : List (Nat × Value)} (hw : subL lw lv) (k : AtH G X cells slots pc lw st N h) : AtH G X cells slots pc lv st N h := AtH.w (subL_all hw) k
theorem At.c1 {v w : Value} (e : v = w) (k : At G X cells slots pc lv (w :: st) V) : At G X cells slots pc lv (v :: st) V := by
  subst e; exact k
theorem At.c2 {v w v2 w2 : Value} (e : v = w) (e2 : v2 = w2) (k : At G X cells slots pc lv (w :: w2 :: st) V) : At G X cells slots pc lv (v :: v2 :: st) V := by
  subst e; subst e2; exact k
theorem x_istore_n {n : Nat} {i : Fin 4} {z : Int} (hx : xN X = n) (C : Cx G X own cc) (d : decode cc pc = .ok (.istore_n i, 1)) (hi : Nat.blt (i : Nat) n = true) (k : At G X cells slots (pc + 1) (((i : Nat), vI z) :: lv) st V) : At G X cells slots pc lv (vI z :: st) V := r_istore_n C d (by rw [hx]; exact Nat.blt_eq.mp hi) k
theorem x_istore {n i : Nat} {z : Int} (hx : xN X = n) (C : Cx G X own cc) (d : decode cc pc = .ok (.istore i, 2)) (hi : Nat.blt i n = true) (k : At G X cells slots (pc + 2) ((i, vI z) :: lv) st V) : At G X cells slots pc lv (vI z :: st) V := r_istore C d (by rw [hx]; exact Nat.blt_eq.mp hi) k
theorem x_astore_n {n : Nat} {i : Fin 4} {a : Nat} (hx : xN X = n) (C : Cx G X own cc) (d : decode cc pc = .ok (.astore_n i, 1)) (hi : Nat.blt (i : Nat) n = true) (k : At G X cells slots (pc + 1) (((i : Nat), .ref a) :: lv) st V) : At G X cells slots pc lv (.ref a :: st) V := r_astore_n C d (by rw [hx]; exact Nat.blt_eq.mp hi) k
theorem x_astore {n i : Nat} {a : Nat} (hx : xN X = n) (C : Cx G X own cc) (d : decode cc pc = .ok (.astore i, 2)) (hi : Nat.blt i n = true) (k : At G X cells slots (pc + 2) ((i, .ref a) :: lv) st V) : At G X cells slots pc lv (.ref a :: st) V := r_astore C d (by rw [hx]; exact Nat.blt_eq.mp hi) k
theorem x_iinc {n : Nat} {i : Nat} {c z : Int} (hx : xN X = n) (C : Cx G X own cc) (d : decode cc pc = .ok (.iinc i c, 3)) (hl : lv.lookup i = some (vI z)) (hi : Nat.blt i n = true) (k : At G X cells slots (pc + 3) ((i, vI (z + c)) :: lv) st V) : At G X cells slots pc lv st V := r_iinc C d hl (by rw [hx]; exact Nat.blt_eq.mp hi) k
theorem x_idiv {x y : Int} (C : Cx G X own cc) (d : decode cc pc = .ok (.idiv, 1)) (h0 : 0 < nrm y) (k : At G X cells slots (pc + 1) lv (vI ((nrm x).tdiv (nrm y)) :: st) V) : At G X cells slots pc lv (vI y :: vI x :: st) V := At.c2 (vI_nrm y) (vI_nrm x) (r_idiv C d (rg_nrm x) (rg_nrm y) h0 k)
theorem x_irem {x y : Int} (C : Cx G X own cc) (d : decode cc pc = .ok (.irem, 1)) (h0 : 0 < nrm y) (k : At G X cells slots (pc + 1) lv (vI ((nrm x).tmod (nrm y)) :: st) V) : At G X cells slots pc lv (vI y :: vI x :: st) V := At.c2 (vI_nrm y) (vI_nrm x) (r_irem C d (rg_nrm x) (rg_nrm y) h0 k)
theorem x_iand {x y : Int} (C : Cx G X own cc) (d : decode cc pc = .ok (.iand, 1)) (k : At G X cells slots (pc + 1) lv (vI (aI x y) :: st) V) : At G X cells slots pc lv (vI y :: vI x :: st) V := r_iand C d (iI_of _) k
theorem x_ior {x y : Int} (C : Cx G X own cc) (d : decode cc pc = .ok (.ior, 1)) (k : At G X cells slots (pc + 1) lv (vI (oI x y) :: st) V) : At G X cells slots pc lv (vI y :: vI x :: st) V := r_ior C d (iI_of _) k
theorem x_ixor {x y : Int} (C : Cx G X own cc) (d : decode cc pc = .ok (.ixor, 1)) (k : At G X cells slots (pc + 1) lv (vI (xI x y) :: st) V) : At G X cells slots pc lv (vI y :: vI x :: st) V := r_ixor C d (iI_of _) k
theorem x_ishl {x y : Int} (C : Cx G X own cc) (d : decode cc pc = .ok (.ishl, 1)) (k : At G X cells slots (pc + 1) lv (vI (lI x y) :: st) V) : At G X cells slots pc lv (vI y :: vI x :: st) V := r_ishl C d (iI_of _) k
theorem x_ishr {x y : Int} (C : Cx G X own cc) (d : decode cc pc = .ok (.ishr, 1)) (k : At G X cells slots (pc + 1) lv (vI (sI x y) :: st) V) : At G X cells slots pc lv (vI y :: vI x :: st) V := r_ishr C d (iI_of _) k
theorem x_iushr {x y : Int} (C : Cx G X own cc) (d : decode cc pc = .ok (.iushr, 1)) (k : At G X cells slots (pc + 1) lv (vI (uI x y) :: st) V) : At G X cells slots pc lv (vI y :: vI x :: st) V := r_iushr C d (iI_of _) k
theorem x_ifeq {z off : Int} {tgt : Nat} (C : Cx G X own cc) (d : decode cc pc = .ok (.ifCond .eq off, 3)) (ht : (pc : Int) + off = (tgt : Int)) (k1 : nrm z = 0 → At G X cells slots tgt lv st V) (k2 : ¬ nrm z = 0 → At G X cells slots (pc + 3) lv st V) : At G X cells slots pc lv (vI z :: st) V := At.c1 (vI_nrm z) (r_ifeq C d ht (rg_nrm z) k1 k2)
theorem x_ifne {z off : Int} {tgt : Nat} (C : Cx G X own cc) (d : decode cc pc = .ok (.ifCond .ne off, 3)) (ht : (pc : Int) + off = (tgt : Int)) (k1 : nrm z = 0 → At G X cells slots (pc + 3) lv st V) (k2 : ¬ nrm z = 0 → At G X cells slots tgt lv st V) : At G X cells slots pc lv (vI z :: st) V := At.c1 (vI_nrm z) (r_ifne C d ht (rg_nrm z) k2 k1)
theorem x_iflt {z off : Int} {tgt : Nat} (C : Cx G X own cc) (d : decode cc pc = .ok (.ifCond .lt off, 3)) (ht : (pc : Int) + off = (tgt : Int)) (k1 : nrm z < 0 → At G X cells slots tgt lv st V) (k2 : ¬ nrm z < 0 → At G X cells slots (pc + 3) lv st V) : At G X cells slots pc lv (vI z :: st) V := At.c1 (vI_nrm z) (r_iflt C d ht (rg_nrm z) k1 k2)
theorem x_ifge {z off : Int} {tgt : Nat} (C : Cx G X own cc) (d : decode cc pc = .ok (.ifCond .ge off, 3)) (ht : (pc : Int) + off = (tgt : Int)) (k1 : 0 ≤ nrm z → At G X cells slots tgt lv st V) (k2 : ¬ 0 ≤ nrm z → At G X cells slots (pc + 3) lv st V) : At G X cells slots pc lv (vI z :: st) V := At.c1 (vI_nrm z) (r_ifge C d ht (rg_nrm z) k1 k2)
theorem x_ifgt {z off : Int} {tgt : Nat} (C : Cx G X own cc) (d : decode cc pc = .ok (.ifCond .gt off, 3)) (ht : (pc : Int) + off = (tgt : Int)) (k1 : 0 < nrm z → At G X cells slots tgt lv st V) (k2 : ¬ 0 < nrm z → At G X cells slots (pc + 3) lv st V) : At G X cells slots pc lv (vI z :: st) V := At.c1 (vI_nrm z) (r_ifgt C d ht (rg_nrm z) k1 k2)
theorem x_ifle {z off : Int} {tgt : Nat} (C : Cx G X own cc) (d : decode cc pc = .ok (.ifCond .le off, 3)) (ht : (pc : Int) + off = (tgt : Int)) (k1 : nrm z ≤ 0 → At G X cells slots tgt lv st V) (k2 : ¬ nrm z ≤ 0 → At G X cells slots (pc + 3) lv st V) : At G X cells slots pc lv (vI z :: st) V := At.c1 (vI_nrm z) (r_ifle C d ht (rg_nrm z) k1 k2)
theorem x_icmpeq {x y off : Int} {tgt : Nat} (C : Cx G X own cc) (d : decode cc pc = .ok (.if_icmp .eq off, 3)) (ht : (pc : Int) + off = (tgt : Int)) (k1 : nrm x = nrm y → At G X cells slots tgt lv st V) (k2 : ¬ nrm x = nrm y → At G X cells slots (pc + 3) lv st V) : At G X cells slots pc lv (vI y :: vI x :: st) V := At.c2 (vI_nrm y) (vI_nrm x) (r_icmpeq C d ht (rg_nrm x) (rg_nrm y) k1 k2)
theorem x_icmpne {x y off : Int} {tgt : Nat} (C : Cx G X own cc) (d : decode cc pc = .ok (.if_icmp .ne off, 3)) (ht : (pc : Int) + off = (tgt : Int)) (k1 : nrm x = nrm y → At G X cells slots (pc + 3) lv st V) (k2 : ¬ nrm x = nrm y → At G X cells slots tgt lv st V) : At G X cells slots pc lv (vI y :: vI x :: st) V := At.c2 (vI_nrm y) (vI_nrm x) (r_icmpne C d ht (rg_nrm x) (rg_nrm y) k2 k1)
theorem x_icmplt {x y off : Int} {tgt : Nat} (C : Cx G X own cc) (d : decode cc pc = .ok (.if_icmp .lt off, 3)) (ht : (pc : Int) + off = (tgt : Int)) (k1 : nrm x < nrm y → At G X cells slots tgt lv st V) (k2 : ¬ nrm x < nrm y → At G X cells slots (pc + 3) lv st V) : At G X cells slots pc lv (vI y :: vI x :: st) V := At.c2 (vI_nrm y) (vI_nrm x) (r_icmplt C d ht (rg_nrm x) (rg_nrm y) k1 k2)
theorem x_icmpge {x y off : Int} {tgt : Nat} (C : Cx G X own cc) (d : decode cc pc = .ok (.if_icmp .ge off, 3)) (ht : (pc : Int) + off = (tgt : Int)) (k1 : nrm y ≤ nrm x → At G X cells slots tgt lv st V) (k2 : ¬ nrm y ≤ nrm x → At G X cells slots (pc + 3) lv st V) : At G X cells slots pc lv (vI y :: vI x :: st) V := At.c2 (vI_nrm y) (vI_nrm x) (r_icmpge C d ht (rg_nrm x) (rg_nrm y) k1 k2)
theorem x_icmpgt {x y off : Int} {tgt : Nat} (C : Cx G X own cc) (d : decode cc pc = .ok (.if_icmp .gt off, 3)) (ht : (pc : Int) + off = (tgt : Int)) (k1 : nrm y < nrm x → At G X cells slots tgt lv st V) (k2 : ¬ nrm y < nrm x → At G X cells slots (pc + 3) lv st V) : At G X cells slots pc lv (vI y :: vI x :: st) V := At.c2 (vI_nrm y) (vI_nrm x) (r_icmpgt C d ht (rg_nrm x) (rg_nrm y) k1 k2)
theorem x_icmple {x y off : Int} {tgt : Nat} (C : Cx G X own cc) (d : decode cc pc = .ok (.if_icmp .le off, 3)) (ht : (pc : Int) + off = (tgt : Int)) (k1 : nrm x ≤ nrm y → At G X cells slots tgt lv st V) (k2 : ¬ nrm x ≤ nrm y → At G X cells slots (pc + 3) lv st V) : At G X cells slots pc lv (vI y :: vI x :: st) V := At.c2 (vI_nrm y) (vI_nrm x) (r_icmple C d ht (rg_nrm x) (rg_nrm y) k1 k2)
theorem r_tsw {N : Nat} {h : HT} {z : Int} {dflt lo hi : Int} {offs : Array Int} {len : Nat} (C : Cx G X own cc) (d : decode cc pc = .ok (.tableswitch dflt lo hi offs, len)) (k1 : (nrm z < lo ∨ hi < nrm z) → ∃ tgt : Nat, (pc : Int) + dflt = (tgt : Int) ∧ AtH G X cells slots tgt lv st N h) (k2 : ¬ nrm z < lo → ¬ hi < nrm z → ∃ (off : Int) (tgt : Nat), offs[(nrm z - lo).toNat]? = some off ∧ (pc : Int) + off = (tgt : Int) ∧ AtH G X cells slots tgt lv st N h) : AtH G X cells slots pc lv (vI z :: st) N h := by
  obtain ⟨p, l, e, R, s, m, args, below, meth, c, Q, nL⟩ := X
  intro H locs ls hW hS hls
  by_cases g : nrm z < lo ∨ hi < nrm z
  · obtain ⟨tgt, ht, kk⟩ := k1 g
    exact lv_tableOut C.1 C.2.1 d g ht (kk H locs ls hW hS hls)
  · have g1 : ¬ nrm z < lo := fun q => g (Or.inl q)
    have g2 : ¬ hi < nrm z := fun q => g (Or.inr q)
    obtain ⟨off, tgt, ho, ht, kk⟩ := k2 g1 g2
    exact lv_tableIn C.1 C.2.1 d g1 g2 ho ht (kk H locs ls hW hS hls)
theorem x_tsw6 {z dflt o0 o1 o2 o3 o4 o5 : Int} {t0 t1 t2 t3 t4 t5 td len : Nat} (C : Cx G X own cc) (d : decode cc pc = .ok (.tableswitch dflt 0 5 #[o0, o1, o2, o3, o4, o5], len)) (h0 : (pc : Int) + o0 = (t0 : Int)) (h1 : (pc : Int) + o1 = (t1 : Int)) (h2 : (pc : Int) + o2 = (t2 : Int)) (h3 : (pc : Int) + o3 = (t3 : Int)) (h4 : (pc : Int) + o4 = (t4 : Int)) (h5 : (pc : Int) + o5 = (t5 : Int)) (hd : (pc : Int) + dflt = (td : Int))
    (k0 : nrm z = 0 → At G X cells slots t0 lv st V) (k1 : nrm z = 1 → At G X cells slots t1 lv st V) (k2 : nrm z = 2 → At G X cells slots t2 lv st V) (k3 : nrm z = 3 → At G X cells slots t3 lv st V) (k4 : nrm z = 4 → At G X cells slots t4 lv st V) (k5 : nrm z = 5 → At G X cells slots t5 lv st V) (kd : ¬ nrm z = 0 → ¬ nrm z = 1 → ¬ nrm z = 2 → ¬ nrm z = 3 → ¬ nrm z = 4 → ¬ nrm z = 5 → At G X cells slots td lv st V) : At G X cells slots pc lv (vI z :: st) V := by
  refine r_tsw C d (fun g => ⟨td, hd, kd (by omega) (by omega) (by omega) (by omega) (by omega) (by omega)⟩) (fun g1 g2 => ?_)
  have g : nrm z = 0 ∨ nrm z = 1 ∨ nrm z = 2 ∨ nrm z = 3 ∨ nrm z = 4 ∨ nrm z = 5 := by omega
  rcases g with g | g | g | g | g | g
  · exact ⟨o0, t0, by rw [g]; rfl, h0, k0 g⟩
  · exact ⟨o1, t1, by rw [g]; rfl, h1, k1 g⟩
  · exact ⟨o2, t2, by rw [g]; rfl, h2, k2 g⟩
  · exact ⟨o3, t3, by rw [g]; rfl, h3, k3 g⟩
  · exact ⟨o4, t4, by rw [g]; rfl, h4, k4 g⟩
  · exact ⟨o5, t5, by rw [g]; rfl, h5, k5 g⟩
theorem x_tsw7 {z dflt o0 o1 o2 o3 o4 o5 o6 : Int} {t0 t1 t2 t3 t4 t5 t6 td len : Nat} (C : Cx G X own cc) (d : decode cc pc = .ok (.tableswitch dflt 0 6 #[o0, o1, o2, o3, o4, o5, o6], len)) (h0 : (pc : Int) + o0 = (t0 : Int)) (h1 : (pc : Int) + o1 = (t1 : Int)) (h2 : (pc : Int) + o2 = (t2 : Int)) (h3 : (pc : Int) + o3 = (t3 : Int)) (h4 : (pc : Int) + o4 = (t4 : Int)) (h5 : (pc : Int) + o5 = (t5 : Int)) (h6 : (pc : Int) + o6 = (t6 : Int)) (hd : (pc : Int) + dflt = (td : Int))
    (k0 : nrm z = 0 → At G X cells slots t0 lv st V) (k1 : nrm z = 1 → At G X cells slots t1 lv st V) (k2 : nrm z = 2 → At G X cells slots t2 lv st V) (k3 : nrm z = 3 → At G X cells slots t3 lv st V) (k4 : nrm z = 4 → At G X cells slots t4 lv st V) (k5 : nrm z = 5 → At G X cells slots t5 lv st V) (k6 : nrm z = 6 → At G X cells slots t6 lv st V) (kd : ¬ nrm z = 0 → ¬ nrm z = 1 → ¬ nrm z = 2 → ¬ nrm z = 3 → ¬ nrm z = 4 → ¬ nrm z = 5 → ¬ nrm z = 6 → At G X cells slots td lv st V) : At G X cells slots pc lv (vI z :: st) V := by
  refine r_tsw C d (fun g => ⟨td, hd, kd (by omega) (by omega) (by omega) (by omega) (by omega) (by omega) (by omega)⟩) (fun g1 g2 => ?_)
  have g : nrm z = 0 ∨ nrm z = 1 ∨ nrm z = 2 ∨ nrm z = 3 ∨ nrm z = 4 ∨ nrm z = 5 ∨ nrm z = 6 := by omega
  rcases g with g | g | g | g | g | g | g
  · exact ⟨o0, t0, by rw [g]; rfl, h0, k0 g⟩
  · exact ⟨o1, t1, by rw [g]; rfl, h1, k1 g⟩
  · exact ⟨o2, t2, by rw [g]; rfl, h2, k2 g⟩
  · exact ⟨o3, t3, by rw [g]; rfl, h3, k3 g⟩
  · exact ⟨o4, t4, by rw [g]; rfl, h4, k4 g⟩
  · exact ⟨o5, t5, by rw [g]; rfl, h5, k5 g⟩
  · exact ⟨o6, t6, by rw [g]; rfl, h6, k6 g⟩
/-- a whole number out of the pool -/
theorem r_ldci {N : Nat} {h : HT} {idx : Nat} {v : Int32} {z : Int} (C : Cx G X own cc) (d : decode cc pc = .ok (.ldc idx, 2)) (hl : .constant own idx v ∈ LW) (hv : v = iI z) (k : AtH G X cells slots (pc + 2) lv (vI z :: st) N h) : AtH G X cells slots pc lv st N h := by
  obtain ⟨p, l, e, R, s, m, args, below, meth, c, Q, nL⟩ := X
  intro H locs ls hW hS hls
  subst hv
  exact lv_ldc C.1 C.2.1 C.2.2.2.1 (C.2.2.2.2.1 _ hl) d (k H locs ls hW hS hls)
theorem x_iald {k n a0 : Nat} {j : Int} (C : Cx G X own cc) (d : decode cc pc = .ok (.iaload, 1)) (ra : RA G 0 k n a0) (hj : 0 ≤ j ∧ j < (n : Int)) (kk : At G X cells slots (pc + 1) lv (vI (V k j.toNat) :: st) V) : At G X cells slots pc lv (vI j :: .ref a0 :: st) V := v_iald C d ra.1.1 ra.1.2 ra.2.2 hj.1 hj.2 ra.2.1 kk
theorem x_zald {k n a0 : Nat} {j : Int} (C : Cx G X own cc) (d : decode cc pc = .ok (.baload, 1)) (ra : RA G 1 k n a0) (hj : 0 ≤ j ∧ j < (n : Int)) (kk : At G X cells slots (pc + 1) lv (vI (V k j.toNat) :: st) V) : At G X cells slots pc lv (vI j :: .ref a0 :: st) V := v_zald C d ra.1.1 ra.1.2 ra.2.2 hj.1 hj.2 ra.2.1 kk
theorem x_bald {k n a0 : Nat} {j : Int} (C : Cx G X own cc) (d : decode cc pc = .ok (.baload, 1)) (ra : RA G 2 k n a0) (hj : 0 ≤ j ∧ j < (n : Int)) (kk : At G X cells slots (pc + 1) lv (vI (V k j.toNat) :: st) V) : At G X cells slots pc lv (vI j :: .ref a0 :: st) V := v_bald C d ra.1.1 ra.1.2 ra.2.2 hj.1 hj.2 ra.2.1 kk
theorem x_iast {k n a0 : Nat} {j z : Int} (C : Cx G X own cc) (d : decode cc pc = .ok (.iastore, 1)) (ra : RA G 0 k n a0) (hj : 0 ≤ j ∧ j < (n : Int)) (kk : At G X cells slots (pc + 1) lv st (up2 V k j.toNat z)) : At G X cells slots pc lv (vI z :: vI j :: .ref a0 :: st) V := v_iast C d ra.1.1 ra.1.2 ra.2.2 hj.1 hj.2 ra.2.1 kk
theorem x_bast {k n a0 : Nat} {j z : Int} (C : Cx G X own cc) (d : decode cc pc = .ok (.bastore, 1)) (ra : RA G 2 k n a0) (hj : 0 ≤ j ∧ j < (n : Int)) (kk : At G X cells slots (pc + 1) lv st (up2 V k j.toNat (wB z))) : At G X cells slots pc lv (vI z :: vI j :: .ref a0 :: st) V := v_bast C d ra.1.1 ra.1.2 ra.2.2 hj.1 hj.2 ra.2.1 kk
theorem x_zast {k n a0 : Nat} {j z : Int} (C : Cx G X own cc) (d : decode cc pc = .ok (.bastore, 1)) (ra : RA G 1 k n a0) (hj : 0 ≤ j ∧ j < (n : Int)) (hz : z = 0 ∨ z = 1) (kk : At G X cells slots (pc + 1) lv st (up2 V k j.toNat z)) : At G X cells slots pc lv (vI z :: vI j :: .ref a0 :: st) V := v_zast C d ra.1.1 ra.1.2 ra.2.2 hj.1 hj.2 ra.2.1 hz kk
theorem x_alen {k n a0 : Nat} (C : Cx G X own cc) (d : decode cc pc = .ok (.arraylength, 1)) (ra : RA G 2 k n a0) (kk : At G X cells slots (pc + 1) lv (vI (n : Int) :: st) V) : At G X cells slots pc lv (.ref a0 :: st) V := r_alen2 C d ra.1.1 ra.1.2 (ra.2.2 _) kk
theorem x_ships {q : Nat} {j : Int} (C : Cx G X own cc) (d : decode cc pc = .ok (.aaload, 1)) (hN : 148 ≤ gN G) (hq : q < 2) (hj : 0 ≤ j ∧ j < 10) (kk : At G X cells slots (pc + 1) lv (.ref (gB G + (aS q + (2 + 2 * j.toNat))) :: st) V) : At G X cells slots pc lv (vI j :: .ref (gB G + (aS q + 1)) :: st) V :=
  r_aald4 (n := 10) C d (ad_lo (aS_lt (j := 1) hq (by omega))) (by have := aS_lt (q := q) (j := 1) hq (by omega); omega) (celS_A hq _) hj.1 hj.2 (by omega) rfl kk
theorem x_past {j : Int} (C : Cx G X own cc) (d : decode cc pc = .ok (.aaload, 1)) (hN : 148 ≤ gN G) (hj : 0 ≤ j ∧ j < 6) (kk : At G X cells slots (pc + 1) lv (.ref (gB G + aP (j.toNat + 2)) :: st) V) : At G X cells slots pc lv (vI j :: .ref (gB G + 71) :: st) V :=
  r_aald5 (n := 6) (f := fun i => some (gB G + (76 + 9 * i))) C d (ad_lo (by omega)) (by omega) rfl hj.1 hj.2 (by omega) (by unfold aP; simp only [Option.some.injEq]; split <;> omega) kk
theorem x_saved {j : Int} (C : Cx G X own cc) (d : decode cc pc = .ok (.aaload, 1)) (hN : 148 ≤ gN G) (hj : 0 ≤ j ∧ j < 2) (kk : At G X cells slots (pc + 1) lv (.ref (gB G + aP (j.toNat + 8)) :: st) V) : At G X cells slots pc lv (vI j :: .ref (gB G + 72) :: st) V :=
  r_aald5 (n := 2) (f := fun i => some (gB G + (130 + 9 * i))) C d (ad_lo (by omega)) (by omega) rfl hj.1 hj.2 (by omega) (by unfold aP; simp only [Option.some.injEq]; split <;> omega) kk
/-- ends -/
theorem e_i {d0 mc0 ms0 : Nat} {z r : Int} (C : Cx G X own cc) (M : MX G X d0 mc0 ms0 (some .int) (.ok (some (vI r))) V) (d : decode cc pc = .ok (.ireturn, 1)) (hc : cells ≤ mc0) (hs : slots ≤ ms0) (h : some z = some r) : At G X cells slots pc lv [vI z] V := by
  cases h; exact v_iret C M d hc hs ⟨rfl, rfl⟩
theorem e_z {d0 mc0 ms0 : Nat} {z r : Int} (C : Cx G X own cc) (M : MX G X d0 mc0 ms0 (some .boolean) (.ok (some (vI r))) V) (d : decode cc pc = .ok (.ireturn, 1)) (hc : cells ≤ mc0) (hs : slots ≤ ms0) (hz : z = 0 ∨ z = 1) (h : some z = some r) : At G X cells slots pc lv [vI z] V := by
  cases h; exact v_zret C M d hc hs hz ⟨rfl, rfl⟩
theorem e_iv {d0 mc0 ms0 : Nat} {z r : Int} {V1 : VV} (C : Cx G X own cc) (M : MX G X d0 mc0 ms0 (some .int) (.ok (some (vI r))) V1) (d : decode cc pc = .ok (.ireturn, 1)) (hc : cells ≤ mc0) (hs : slots ≤ ms0) (h : some (z, V) = some (r, V1)) : At G X cells slots pc lv [vI z] V := by
  cases h; exact v_iret C M d hc hs ⟨rfl, rfl⟩
theorem e_zv {d0 mc0 ms0 : Nat} {z r : Int} {V1 : VV} (C : Cx G X own cc) (M : MX G X d0 mc0 ms0 (some .boolean) (.ok (some (vI r))) V1) (d : decode cc pc = .ok (.ireturn, 1)) (hc : cells ≤ mc0) (hs : slots ≤ ms0) (hz : z = 0 ∨ z = 1) (h : some (z, V) = some (r, V1)) : At G X cells slots pc lv [vI z] V := by
  cases h; exact v_zret C M d hc hs hz ⟨rfl, rfl⟩
theorem e_v {d0 mc0 ms0 : Nat} {V1 : VV} (C : Cx G X own cc) (M : MX G X d0 mc0 ms0 none (.ok none) V1) (d : decode cc pc = .ok (.return_, 1)) (hc : cells ≤ mc0) (hs : slots ≤ ms0) (h : some V = some V1) : At G X cells slots pc lv [] V := by
  cases h; exact v_vret C M d hc hs ⟨rfl, rfl⟩
theorem e_it {d0 mc0 ms0 : Nat} {z : Int} {e : Except String Int} {V1 : VV} (C : Cx G X own cc) (M : MX G X d0 mc0 ms0 (some .int) (oX e) V1) (d : decode cc pc = .ok (.ireturn, 1)) (hc : cells ≤ mc0) (hs : slots ≤ ms0) (h : some (Except.ok z, V) = some (e, V1)) : At G X cells slots pc lv [vI z] V := by
  cases h; exact v_iret C M d hc hs ⟨rfl, rfl⟩
theorem e_zt {d0 mc0 ms0 : Nat} {z : Int} {e : Except String Int} {V1 : VV} (C : Cx G X own cc) (M : MX G X d0 mc0 ms0 (some .boolean) (oX e) V1) (d : decode cc pc = .ok (.ireturn, 1)) (hc : cells ≤ mc0) (hs : slots ≤ ms0) (hz : z = 0 ∨ z = 1) (h : some (Except.ok z, V) = some (e, V1)) : At G X cells slots pc lv [vI z] V := by
  cases h; exact v_zret C M d hc hs hz ⟨rfl, rfl⟩
theorem e_thr {E : String} {e : Except String Int} {V1 : VV} (h : some (Except.error E, V) = some (e, V1)) : oX e = .error E ∧ V = V1 := by
  cases h; exact ⟨rfl, rfl⟩
theorem cV0_i {idx kk0 nLy dy d0 mc0 ms0 : Nat} {y : MethodName} {ccy : ByteArray} {ret ret0 : Option FieldType} {rest : List Value} {z : Int} {o0 : Except String (Option Value)} {V1 V0 : VV} {a0 : Nat} (C : Cx G X own cc) (M : MX G X d0 mc0 ms0 ret0 o0 V0) (d : decode cc pc = .ok (.invokevirtual idx, 3)) (wl : .methodLink own idx y ∈ LW) (wy : YV y ccy nLy ret 0) (rc : RC G kk0 a0 y.cls) (hE : EvX G (xl X) y ccy nLy ret dy 0 0 (.ref a0 :: []) V (.ok (some (vI z))) V1) (hb : (Nat.ble (dy + 1) d0 && Nat.ble nLy 21 && Nat.ble (rest.map fun v => v.category).sum 8) = true) (hc : cells ≤ mc0) (hs : slots ≤ ms0)
    (kk : At G X cells slots (pc + 3) lv (vI z :: rest) V1) : At G X cells slots pc lv (.ref a0 :: rest) V := by
  simp only [Bool.and_eq_true] at hb
  obtain ⟨h0, h1, ci, fs, h2, h3⟩ := rc
  exact v_callV C M d wl wy h0 h1 h2 h3 hE rfl rfl (Nat.le_of_ble_eq_true hb.2) (Nat.le_of_ble_eq_true hb.1.1) (Nat.le_of_ble_eq_true hb.1.2) hc hs (fun E V' q => by obtain ⟨q1, -⟩ := q; cases q1) (fun v V' q => by obtain ⟨q1, q2⟩ := q; cases q1; subst q2; exact kk)
theorem cV0_v {idx kk0 nLy dy d0 mc0 ms0 : Nat} {y : MethodName} {ccy : ByteArray} {ret ret0 : Option FieldType} {rest : List Value} {o0 : Except String (Option Value)} {V1 V0 : VV} {a0 : Nat} (C : Cx G X own cc) (M : MX G X d0 mc0 ms0 ret0 o0 V0) (d : decode cc pc = .ok (.invokevirtual idx, 3)) (wl : .methodLink own idx y ∈ LW) (wy : YV y ccy nLy ret 0) (rc : RC G kk0 a0 y.cls) (hE : EvX G (xl X) y ccy nLy ret dy 0 0 (.ref a0 :: []) V (.ok none) V1) (hb : (Nat.ble (dy + 1) d0 && Nat.ble nLy 21 && Nat.ble (rest.map fun v => v.category).sum 8) = true) (hc : cells ≤ mc0) (hs : slots ≤ ms0)
    (kk : At G X cells slots (pc + 3) lv (rest) V1) : At G X cells slots pc lv (.ref a0 :: rest) V := by
  simp only [Bool.and_eq_true] at hb
  obtain ⟨h0, h1, ci, fs, h2, h3⟩ := rc
  exact v_callV C M d wl wy h0 h1 h2 h3 hE rfl rfl (Nat.le_of_ble_eq_true hb.2) (Nat.le_of_ble_eq_true hb.1.1) (Nat.le_of_ble_eq_true hb.1.2) hc hs (fun E V' q => by obtain ⟨q1, -⟩ := q; cases q1) (fun v V' q => by obtain ⟨q1, q2⟩ := q; cases q1; subst q2; exact kk)
theorem cV0_a {idx kk0 nLy dy d0 mc0 ms0 : Nat} {y : MethodName} {ccy : ByteArray} {ret ret0 : Option FieldType} {rest : List Value} {z : Nat} {o0 : Except String (Option Value)} {V1 V0 : VV} {a0 : Nat} (C : Cx G X own cc) (M : MX G X d0 mc0 ms0 ret0 o0 V0) (d : decode cc pc = .ok (.invokevirtual idx, 3)) (wl : .methodLink own idx y ∈ LW) (wy : YV y ccy nLy ret 0) (rc : RC G kk0 a0 y.cls) (hE : EvX G (xl X) y ccy nLy ret dy 0 0 (.ref a0 :: []) V (.ok (some (.ref z))) V1) (hb : (Nat.ble (dy + 1) d0 && Nat.ble nLy 21 && Nat.ble (rest.map fun v => v.category).sum 8) = true) (hc : cells ≤ mc0) (hs : slots ≤ ms0)
    (kk : At G X cells slots (pc + 3) lv (.ref z :: rest) V1) : At G X cells slots pc lv (.ref a0 :: rest) V := by
  simp only [Bool.and_eq_true] at hb
  obtain ⟨h0, h1, ci, fs, h2, h3⟩ := rc
  exact v_callV C M d wl wy h0 h1 h2 h3 hE rfl rfl (Nat.le_of_ble_eq_true hb.2) (Nat.le_of_ble_eq_true hb.1.1) (Nat.le_of_ble_eq_true hb.1.2) hc hs (fun E V' q => by obtain ⟨q1, -⟩ := q; cases q1) (fun v V' q => by obtain ⟨q1, q2⟩ := q; cases q1; subst q2; exact kk)
theorem cS0_i {idx nLy dy d0 mc0 ms0 : Nat} {y : MethodName} {ccy : ByteArray} {ret ret0 : Option FieldType} {rest : List Value} {z : Int} {o0 : Except String (Option Value)} {V1 V0 : VV} (C : Cx G X own cc) (M : MX G X d0 mc0 ms0 ret0 o0 V0) (d : decode cc pc = .ok (.invokestatic idx, 3)) (wl : .methodLink own idx y ∈ LW) (wy : YS y ccy nLy ret 0) (hE : EvX G (xl X) y ccy nLy ret dy 0 0 [] V (.ok (some (vI z))) V1) (hb : (Nat.ble (dy + 1) d0 && Nat.ble nLy 21 && Nat.ble (rest.map fun v => v.category).sum 8) = true) (hc : cells ≤ mc0) (hs : slots ≤ ms0)
    (kk : At G X cells slots (pc + 3) lv (vI z :: rest) V1) : At G X cells slots pc lv (rest) V := by
  simp only [Bool.and_eq_true] at hb
  exact v_callS C M d wl wy hE rfl rfl (Nat.le_of_ble_eq_true hb.2) (Nat.le_of_ble_eq_true hb.1.1) (Nat.le_of_ble_eq_true hb.1.2) hc hs (fun E V' q => by obtain ⟨q1, -⟩ := q; cases q1) (fun v V' q => by obtain ⟨q1, q2⟩ := q; cases q1; subst q2; exact kk)
theorem cS0_v {idx nLy dy d0 mc0 ms0 : Nat} {y : MethodName} {ccy : ByteArray} {ret ret0 : Option FieldType} {rest : List Value} {o0 : Except String (Option Value)} {V1 V0 : VV} (C : Cx G X own cc) (M : MX G X d0 mc0 ms0 ret0 o0 V0) (d : decode cc pc = .ok (.invokestatic idx, 3)) (wl : .methodLink own idx y ∈ LW) (wy : YS y ccy nLy ret 0) (hE : EvX G (xl X) y ccy nLy ret dy 0 0 [] V (.ok none) V1) (hb : (Nat.ble (dy + 1) d0 && Nat.ble nLy 21 && Nat.ble (rest.map fun v => v.category).sum 8) = true) (hc : cells ≤ mc0) (hs : slots ≤ ms0)
    (kk : At G X cells slots (pc + 3) lv (rest) V1) : At G X cells slots pc lv (rest) V := by
  simp only [Bool.and_eq_true] at hb
  exact v_callS C M d wl wy hE rfl rfl (Nat.le_of_ble_eq_true hb.2) (Nat.le_of_ble_eq_true hb.1.1) (Nat.le_of_ble_eq_true hb.1.2) hc hs (fun E V' q => by obtain ⟨q1, -⟩ := q; cases q1) (fun v V' q => by obtain ⟨q1, q2⟩ := q; cases q1; subst q2; exact kk)
theorem cS0_a {idx nLy dy d0 mc0 ms0 : Nat} {y : MethodName} {ccy : ByteArray} {ret ret0 : Option FieldType} {rest : List Value} {z : Nat} {o0 : Except String (Option Value)} {V1 V0 : VV} (C : Cx G X own cc) (M : MX G X d0 mc0 ms0 ret0 o0 V0) (d : decode cc pc = .ok (.invokestatic idx, 3)) (wl : .methodLink own idx y ∈ LW) (wy : YS y ccy nLy ret 0) (hE : EvX G (xl X) y ccy nLy ret dy 0 0 [] V (.ok (some (.ref z))) V1) (hb : (Nat.ble (dy + 1) d0 && Nat.ble nLy 21 && Nat.ble (rest.map fun v => v.category).sum 8) = true) (hc : cells ≤ mc0) (hs : slots ≤ ms0)
    (kk : At G X cells slots (pc + 3) lv (.ref z :: rest) V1) : At G X cells slots pc lv (rest) V := by
  simp only [Bool.and_eq_true] at hb
  exact v_callS C M d wl wy hE rfl rfl (Nat.le_of_ble_eq_true hb.2) (Nat.le_of_ble_eq_true hb.1.1) (Nat.le_of_ble_eq_true hb.1.2) hc hs (fun E V' q => by obtain ⟨q1, -⟩ := q; cases q1) (fun v V' q => by obtain ⟨q1, q2⟩ := q; cases q1; subst q2; exact kk)
theorem cV1_i {idx kk0 nLy dy d0 mc0 ms0 : Nat} {y : MethodName} {ccy : ByteArray} {ret ret0 : Option FieldType} {rest : List Value} {a1 : Value} {z : Int} {o0 : Except String (Option Value)} {V1 V0 : VV} {a0 : Nat} (C : Cx G X own cc) (M : MX G X d0 mc0 ms0 ret0 o0 V0) (d : decode cc pc = .ok (.invokevirtual idx, 3)) (wl : .methodLink own idx y ∈ LW) (wy : YV y ccy nLy ret 1) (rc : RC G kk0 a0 y.cls) (hE : EvX G (xl X) y ccy nLy ret dy 0 0 (.ref a0 :: [a1]) V (.ok (some (vI z))) V1) (hb : (Nat.ble (dy + 1) d0 && Nat.ble nLy 21 && Nat.ble (rest.map fun v => v.category).sum 8) = true) (hc : cells ≤ mc0) (hs : slots ≤ ms0)
    (kk : At G X cells slots (pc + 3) lv (vI z :: rest) V1) : At G X cells slots pc lv (a1 :: .ref a0 :: rest) V := by
  simp only [Bool.and_eq_true] at hb
  obtain ⟨h0, h1, ci, fs, h2, h3⟩ := rc
  exact v_callV C M d wl wy h0 h1 h2 h3 hE rfl rfl (Nat.le_of_ble_eq_true hb.2) (Nat.le_of_ble_eq_true hb.1.1) (Nat.le_of_ble_eq_true hb.1.2) hc hs (fun E V' q => by obtain ⟨q1, -⟩ := q; cases q1) (fun v V' q => by obtain ⟨q1, q2⟩ := q; cases q1; subst q2; exact kk)
theorem cV1_v {idx kk0 nLy dy d0 mc0 ms0 : Nat} {y : MethodName} {ccy : ByteArray} {ret ret0 : Option FieldType} {rest : List Value} {a1 : Value} {o0 : Except String (Option Value)} {V1 V0 : VV} {a0 : Nat} (C : Cx G X own cc) (M : MX G X d0 mc0 ms0 ret0 o0 V0) (d : decode cc pc = .ok (.invokevirtual idx, 3)) (wl : .methodLink own idx y ∈ LW) (wy : YV y ccy nLy ret 1) (rc : RC G kk0 a0 y.cls) (hE : EvX G (xl X) y ccy nLy ret dy 0 0 (.ref a0 :: [a1]) V (.ok none) V1) (hb : (Nat.ble (dy + 1) d0 && Nat.ble nLy 21 && Nat.ble (rest.map fun v => v.category).sum 8) = true) (hc : cells ≤ mc0) (hs : slots ≤ ms0)
    (kk : At G X cells slots (pc + 3) lv (rest) V1) : At G X cells slots pc lv (a1 :: .ref a0 :: rest) V := by
  simp only [Bool.and_eq_true] at hb
  obtain ⟨h0, h1, ci, fs, h2, h3⟩ := rc
  exact v_callV C M d wl wy h0 h1 h2 h3 hE rfl rfl (Nat.le_of_ble_eq_true hb.2) (Nat.le_of_ble_eq_true hb.1.1) (Nat.le_of_ble_eq_true hb.1.2) hc hs (fun E V' q => by obtain ⟨q1, -⟩ := q; cases q1) (fun v V' q => by obtain ⟨q1, q2⟩ := q; cases q1; subst q2; exact kk)
theorem cV1_a {idx kk0 nLy dy d0 mc0 ms0 : Nat} {y : MethodName} {ccy : ByteArray} {ret ret0 : Option FieldType} {rest : List Value} {a1 : Value} {z : Nat} {o0 : Except String (Option Value)} {V1 V0 : VV} {a0 : Nat} (C : Cx G X own cc) (M : MX G X d0 mc0 ms0 ret0 o0 V0) (d : decode cc pc = .ok (.invokevirtual idx, 3)) (wl : .methodLink own idx y ∈ LW) (wy : YV y ccy nLy ret 1) (rc : RC G kk0 a0 y.cls) (hE : EvX G (xl X) y ccy nLy ret dy 0 0 (.ref a0 :: [a1]) V (.ok (some (.ref z))) V1) (hb : (Nat.ble (dy + 1) d0 && Nat.ble nLy 21 && Nat.ble (rest.map fun v => v.category).sum 8) = true) (hc : cells ≤ mc0) (hs : slots ≤ ms0)
    (kk : At G X cells slots (pc + 3) lv (.ref z :: rest) V1) : At G X cells slots pc lv (a1 :: .ref a0 :: rest) V := by
  simp only [Bool.and_eq_true] at hb
  obtain ⟨h0, h1, ci, fs, h2, h3⟩ := rc
  exact v_callV C M d wl wy h0 h1 h2 h3 hE rfl rfl (Nat.le_of_ble_eq_true hb.2) (Nat.le_of_ble_eq_true hb.1.1) (Nat.le_of_ble_eq_true hb.1.2) hc hs (fun E V' q => by obtain ⟨q1, -⟩ := q; cases q1) (fun v V' q => by obtain ⟨q1, q2⟩ := q; cases q1; subst q2; exact kk)
theorem cS1_i {idx nLy dy d0 mc0 ms0 : Nat} {y : MethodName} {ccy : ByteArray} {ret ret0 : Option FieldType} {rest : List Value} {a1 : Value} {z : Int} {o0 : Except String (Option Value)} {V1 V0 : VV} (C : Cx G X own cc) (M : MX G X d0 mc0 ms0 ret0 o0 V0) (d : decode cc pc = .ok (.invokestatic idx, 3)) (wl : .methodLink own idx y ∈ LW) (wy : YS y ccy nLy ret 1) (hE : EvX G (xl X) y ccy nLy ret dy 0 0 [a1] V (.ok (some (vI z))) V1) (hb : (Nat.ble (dy + 1) d0 && Nat.ble nLy 21 && Nat.ble (rest.map fun v => v.category).sum 8) = true) (hc : cells ≤ mc0) (hs : slots ≤ ms0)
    (kk : At G X cells slots (pc + 3) lv (vI z :: rest) V1) : At G X cells slots pc lv (a1 :: rest) V := by
  simp only [Bool.and_eq_true] at hb
  exact v_callS C M d wl wy hE rfl rfl (Nat.le_of_ble_eq_true hb.2) (Nat.le_of_ble_eq_true hb.1.1) (Nat.le_of_ble_eq_true hb.1.2) hc hs (fun E V' q => by obtain ⟨q1, -⟩ := q; cases q1) (fun v V' q => by obtain ⟨q1, q2⟩ := q; cases q1; subst q2; exact kk)
theorem cS1_v {idx nLy dy d0 mc0 ms0 : Nat} {y : MethodName} {ccy : ByteArray} {ret ret0 : Option FieldType} {rest : List Value} {a1 : Value} {o0 : Except String (Option Value)} {V1 V0 : VV} (C : Cx G X own cc) (M : MX G X d0 mc0 ms0 ret0 o0 V0) (d : decode cc pc = .ok (.invokestatic idx, 3)) (wl : .methodLink own idx y ∈ LW) (wy : YS y ccy nLy ret 1) (hE : EvX G (xl X) y ccy nLy ret dy 0 0 [a1] V (.ok none) V1) (hb : (Nat.ble (dy + 1) d0 && Nat.ble nLy 21 && Nat.ble (rest.map fun v => v.category).sum 8) = true) (hc : cells ≤ mc0) (hs : slots ≤ ms0)
    (kk : At G X cells slots (pc + 3) lv (rest) V1) : At G X cells slots pc lv (a1 :: rest) V := by
  simp only [Bool.and_eq_true] at hb
  exact v_callS C M d wl wy hE rfl rfl (Nat.le_of_ble_eq_true hb.2) (Nat.le_of_ble_eq_true hb.1.1) (Nat.le_of_ble_eq_true hb.1.2) hc hs (fun E V' q => by obtain ⟨q1, -⟩ := q; cases q1) (fun v V' q => by obtain ⟨q1, q2⟩ := q; cases q1; subst q2; exact kk)
theorem cS1_a {idx nLy dy d0 mc0 ms0 : Nat} {y : MethodName} {ccy : ByteArray} {ret ret0 : Option FieldType} {rest : List Value} {a1 : Value} {z : Nat} {o0 : Except String (Option Value)} {V1 V0 : VV} (C : Cx G X own cc) (M : MX G X d0 mc0 ms0 ret0 o0 V0) (d : decode cc pc = .ok (.invokestatic idx, 3)) (wl : .methodLink own idx y ∈ LW) (wy : YS y ccy nLy ret 1) (hE : EvX G (xl X) y ccy nLy ret dy 0 0 [a1] V (.ok (some (.ref z))) V1) (hb : (Nat.ble (dy + 1) d0 && Nat.ble nLy 21 && Nat.ble (rest.map fun v => v.category).sum 8) = true) (hc : cells ≤ mc0) (hs : slots ≤ ms0)
    (kk : At G X cells slots (pc + 3) lv (.ref z :: rest) V1) : At G X cells slots pc lv (a1 :: rest) V := by
  simp only [Bool.and_eq_true] at hb
  exact v_callS C M d wl wy hE rfl rfl (Nat.le_of_ble_eq_true hb.2) (Nat.le_of_ble_eq_true hb.1.1) (Nat.le_of_ble_eq_true hb.1.2) hc hs (fun E V' q => by obtain ⟨q1, -⟩ := q; cases q1) (fun v V' q => by obtain ⟨q1, q2⟩ := q; cases q1; subst q2; exact kk)
theorem cV2_i {idx kk0 nLy dy d0 mc0 ms0 : Nat} {y : MethodName} {ccy : ByteArray} {ret ret0 : Option FieldType} {rest : List Value} {a1 a2 : Value} {z : Int} {o0 : Except String (Option Value)} {V1 V0 : VV} {a0 : Nat} (C : Cx G X own cc) (M : MX G X d0 mc0 ms0 ret0 o0 V0) (d : decode cc pc = .ok (.invokevirtual idx, 3)) (wl : .methodLink own idx y ∈ LW) (wy : YV y ccy nLy ret 2) (rc : RC G kk0 a0 y.cls) (hE : EvX G (xl X) y ccy nLy ret dy 0 0 (.ref a0 :: [a1, a2]) V (.ok (some (vI z))) V1) (hb : (Nat.ble (dy + 1) d0 && Nat.ble nLy 21 && Nat.ble (rest.map fun v => v.category).sum 8) = true) (hc : cells ≤ mc0) (hs : slots ≤ ms0)
    (kk : At G X cells slots (pc + 3) lv (vI z :: rest) V1) : At G X cells slots pc lv (a2 :: a1 :: .ref a0 :: rest) V := by
  simp only [Bool.and_eq_true] at hb
  obtain ⟨h0, h1, ci, fs, h2, h3⟩ := rc
  exact v_callV C M d wl wy h0 h1 h2 h3 hE rfl rfl (Nat.le_of_ble_eq_true hb.2) (Nat.le_of_ble_eq_true hb.1.1) (Nat.le_of_ble_eq_true hb.1.2) hc hs (fun E V' q => by obtain ⟨q1, -⟩ := q; cases q1) (fun v V' q => by obtain ⟨q1, q2⟩ := q; cases q1; subst q2; exact kk)
theorem cV2_v {idx kk0 nLy dy d0 mc0 ms0 : Nat} {y : MethodName} {ccy : ByteArray} {ret ret0 : Option FieldType} {rest : List Value} {a1 a2 : Value} {o0 : Except String (Option Value)} {V1 V0 : VV} {a0 : Nat} (C : Cx G X own cc) (M : MX G X d0 mc0 ms0 ret0 o0 V0) (d : decode cc pc = .ok (.invokevirtual idx, 3)) (wl : .methodLink own idx y ∈ LW) (wy : YV y ccy nLy ret 2) (rc : RC G kk0 a0 y.cls) (hE : EvX G (xl X) y ccy nLy ret dy 0 0 (.ref a0 :: [a1, a2]) V (.ok none) V1) (hb : (Nat.ble (dy + 1) d0 && Nat.ble nLy 21 && Nat.ble (rest.map fun v => v.category).sum 8) = true) (hc : cells ≤ mc0) (hs : slots ≤ ms0)
    (kk : At G X cells slots (pc + 3) lv (rest) V1) : At G X cells slots pc lv (a2 :: a1 :: .ref a0 :: rest) V := by
  simp only [Bool.and_eq_true] at hb
  obtain ⟨h0, h1, ci, fs, h2, h3⟩ := rc
  exact v_callV C M d wl wy h0 h1 h2 h3 hE rfl rfl (Nat.le_of_ble_eq_true hb.2) (Nat.le_of_ble_eq_true hb.1.1) (Nat.le_of_ble_eq_true hb.1.2) hc hs (fun E V' q => by obtain ⟨q1, -⟩ := q; cases q1) (fun v V' q => by obtain ⟨q1, q2⟩ := q; cases q1; subst q2; exact kk)
theorem cV2_a {idx kk0 nLy dy d0 mc0 ms0 : Nat} {y : MethodName} {ccy : ByteArray} {ret ret0 : Option FieldType} {rest : List Value} {a1 a2 : Value} {z : Nat} {o0 : Except String (Option Value)} {V1 V0 : VV} {a0 : Nat} (C : Cx G X own cc) (M : MX G X d0 mc0 ms0 ret0 o0 V0) (d : decode cc pc = .ok (.invokevirtual idx, 3)) (wl : .methodLink own idx y ∈ LW) (wy : YV y ccy nLy ret 2) (rc : RC G kk0 a0 y.cls) (hE : EvX G (xl X) y ccy nLy ret dy 0 0 (.ref a0 :: [a1, a2]) V (.ok (some (.ref z))) V1) (hb : (Nat.ble (dy + 1) d0 && Nat.ble nLy 21 && Nat.ble (rest.map fun v => v.category).sum 8) = true) (hc : cells ≤ mc0) (hs : slots ≤ ms0)
    (kk : At G X cells slots (pc + 3) lv (.ref z :: rest) V1) : At G X cells slots pc lv (a2 :: a1 :: .ref a0 :: rest) V := by
  simp only [Bool.and_eq_true] at hb
  obtain ⟨h0, h1, ci, fs, h2, h3⟩ := rc
  exact v_callV C M d wl wy h0 h1 h2 h3 hE rfl rfl (Nat.le_of_ble_eq_true hb.2) (Nat.le_of_ble_eq_true hb.1.1) (Nat.le_of_ble_eq_true hb.1.2) hc hs (fun E V' q => by obtain ⟨q1, -⟩ := q; cases q1) (fun v V' q => by obtain ⟨q1, q2⟩ := q; cases q1; subst q2; exact kk)
theorem cS2_i {idx nLy dy d0 mc0 ms0 : Nat} {y : MethodName} {ccy : ByteArray} {ret ret0 : Option FieldType} {rest : List Value} {a1 a2 : Value} {z : Int} {o0 : Except String (Option Value)} {V1 V0 : VV} (C : Cx G X own cc) (M : MX G X d0 mc0 ms0 ret0 o0 V0) (d : decode cc pc = .ok (.invokestatic idx, 3)) (wl : .methodLink own idx y ∈ LW) (wy : YS y ccy nLy ret 2) (hE : EvX G (xl X) y ccy nLy ret dy 0 0 [a1, a2] V (.ok (some (vI z))) V1) (hb : (Nat.ble (dy + 1) d0 && Nat.ble nLy 21 && Nat.ble (rest.map fun v => v.category).sum 8) = true) (hc : cells ≤ mc0) (hs : slots ≤ ms0)
    (kk : At G X cells slots (pc + 3) lv (vI z :: rest) V1) : At G X cells slots pc lv (a2 :: a1 :: rest) V := by
  simp only [Bool.and_eq_true] at hb
  exact v_callS C M d wl wy hE rfl rfl (Nat.le_of_ble_eq_true hb.2) (Nat.le_of_ble_eq_true hb.1.1) (Nat.le_of_ble_eq_true hb.1.2) hc hs (fun E V' q => by obtain ⟨q1, -⟩ := q; cases q1) (fun v V' q => by obtain ⟨q1, q2⟩ := q; cases q1; subst q2; exact kk)
theorem cS2_v {idx nLy dy d0 mc0 ms0 : Nat} {y : MethodName} {ccy : ByteArray} {ret ret0 : Option FieldType} {rest : List Value} {a1 a2 : Value} {o0 : Except String (Option Value)} {V1 V0 : VV} (C : Cx G X own cc) (M : MX G X d0 mc0 ms0 ret0 o0 V0) (d : decode cc pc = .ok (.invokestatic idx, 3)) (wl : .methodLink own idx y ∈ LW) (wy : YS y ccy nLy ret 2) (hE : EvX G (xl X) y ccy nLy ret dy 0 0 [a1, a2] V (.ok none) V1) (hb : (Nat.ble (dy + 1) d0 && Nat.ble nLy 21 && Nat.ble (rest.map fun v => v.category).sum 8) = true) (hc : cells ≤ mc0) (hs : slots ≤ ms0)
    (kk : At G X cells slots (pc + 3) lv (rest) V1) : At G X cells slots pc lv (a2 :: a1 :: rest) V := by
  simp only [Bool.and_eq_true] at hb
  exact v_callS C M d wl wy hE rfl rfl (Nat.le_of_ble_eq_true hb.2) (Nat.le_of_ble_eq_true hb.1.1) (Nat.le_of_ble_eq_true hb.1.2) hc hs (fun E V' q => by obtain ⟨q1, -⟩ := q; cases q1) (fun v V' q => by obtain ⟨q1, q2⟩ := q; cases q1; subst q2; exact kk)
theorem cS2_a {idx nLy dy d0 mc0 ms0 : Nat} {y : MethodName} {ccy : ByteArray} {ret ret0 : Option FieldType} {rest : List Value} {a1 a2 : Value} {z : Nat} {o0 : Except String (Option Value)} {V1 V0 : VV} (C : Cx G X own cc) (M : MX G X d0 mc0 ms0 ret0 o0 V0) (d : decode cc pc = .ok (.invokestatic idx, 3)) (wl : .methodLink own idx y ∈ LW) (wy : YS y ccy nLy ret 2) (hE : EvX G (xl X) y ccy nLy ret dy 0 0 [a1, a2] V (.ok (some (.ref z))) V1) (hb : (Nat.ble (dy + 1) d0 && Nat.ble nLy 21 && Nat.ble (rest.map fun v => v.category).sum 8) = true) (hc : cells ≤ mc0) (hs : slots ≤ ms0)
    (kk : At G X cells slots (pc + 3) lv (.ref z :: rest) V1) : At G X cells slots pc lv (a2 :: a1 :: rest) V := by
  simp only [Bool.and_eq_true] at hb
  exact v_callS C M d wl wy hE rfl rfl (Nat.le_of_ble_eq_true hb.2) (Nat.le_of_ble_eq_true hb.1.1) (Nat.le_of_ble_eq_true hb.1.2) hc hs (fun E V' q => by obtain ⟨q1, -⟩ := q; cases q1) (fun v V' q => by obtain ⟨q1, q2⟩ := q; cases q1; subst q2; exact kk)
theorem cV3_i {idx kk0 nLy dy d0 mc0 ms0 : Nat} {y : MethodName} {ccy : ByteArray} {ret ret0 : Option FieldType} {rest : List Value} {a1 a2 a3 : Value} {z : Int} {o0 : Except String (Option Value)} {V1 V0 : VV} {a0 : Nat} (C : Cx G X own cc) (M : MX G X d0 mc0 ms0 ret0 o0 V0) (d : decode cc pc = .ok (.invokevirtual idx, 3)) (wl : .methodLink own idx y ∈ LW) (wy : YV y ccy nLy ret 3) (rc : RC G kk0 a0 y.cls) (hE : EvX G (xl X) y ccy nLy ret dy 0 0 (.ref a0 :: [a1, a2, a3]) V (.ok (some (vI z))) V1) (hb : (Nat.ble (dy + 1) d0 && Nat.ble nLy 21 && Nat.ble (rest.map fun v => v.category).sum 8) = true) (hc : cells ≤ mc0) (hs : slots ≤ ms0)
    (kk : At G X cells slots (pc + 3) lv (vI z :: rest) V1) : At G X cells slots pc lv (a3 :: a2 :: a1 :: .ref a0 :: rest) V := by
  simp only [Bool.and_eq_true] at hb
  obtain ⟨h0, h1, ci, fs, h2, h3⟩ := rc
  exact v_callV C M d wl wy h0 h1 h2 h3 hE rfl rfl (Nat.le_of_ble_eq_true hb.2) (Nat.le_of_ble_eq_true hb.1.1) (Nat.le_of_ble_eq_true hb.1.2) hc hs (fun E V' q => by obtain ⟨q1, -⟩ := q; cases q1) (fun v V' q => by obtain ⟨q1, q2⟩ := q; cases q1; subst q2; exact kk)
theorem cV3_v {idx kk0 nLy dy d0 mc0 ms0 : Nat} {y : MethodName} {ccy : ByteArray} {ret ret0 : Option FieldType} {rest : List Value} {a1 a2 a3 : Value} {o0 : Except String (Option Value)} {V1 V0 : VV} {a0 : Nat} (C : Cx G X own cc) (M : MX G X d0 mc0 ms0 ret0 o0 V0) (d : decode cc pc = .ok (.invokevirtual idx, 3)) (wl : .methodLink own idx y ∈ LW) (wy : YV y ccy nLy ret 3) (rc : RC G kk0 a0 y.cls) (hE : EvX G (xl X) y ccy nLy ret dy 0 0 (.ref a0 :: [a1, a2, a3]) V (.ok none) V1) (hb : (Nat.ble (dy + 1) d0 && Nat.ble nLy 21 && Nat.ble (rest.map fun v => v.category).sum 8) = true) (hc : cells ≤ mc0) (hs : slots ≤ ms0)
    (kk : At G X cells slots (pc + 3) lv (rest) V1) : At G X cells slots pc lv (a3 :: a2 :: a1 :: .ref a0 :: rest) V := by
  simp only [Bool.and_eq_true] at hb
  obtain ⟨h0, h1, ci, fs, h2, h3⟩ := rc
  exact v_callV C M d wl wy h0 h1 h2 h3 hE rfl rfl (Nat.le_of_ble_eq_true hb.2) (Nat.le_of_ble_eq_true hb.1.1) (Nat.le_of_ble_eq_true hb.1.2) hc hs (fun E V' q => by obtain ⟨q1, -⟩ := q; cases q1) (fun v V' q => by obtain ⟨q1, q2⟩ := q; cases q1; subst q2; exact kk)
theorem cV3_a {idx kk0 nLy dy d0 mc0 ms0 : Nat} {y : MethodName} {ccy : ByteArray} {ret ret0 : Option FieldType} {rest : List Value} {a1 a2 a3 : Value} {z : Nat} {o0 : Except String (Option Value)} {V1 V0 : VV} {a0 : Nat} (C : Cx G X own cc) (M : MX G X d0 mc0 ms0 ret0 o0 V0) (d : decode cc pc = .ok (.invokevirtual idx, 3)) (wl : .methodLink own idx y ∈ LW) (wy : YV y ccy nLy ret 3) (rc : RC G kk0 a0 y.cls) (hE : EvX G (xl X) y ccy nLy ret dy 0 0 (.ref a0 :: [a1, a2, a3]) V (.ok (some (.ref z))) V1) (hb : (Nat.ble (dy + 1) d0 && Nat.ble nLy 21 && Nat.ble (rest.map fun v => v.category).sum 8) = true) (hc : cells ≤ mc0) (hs : slots ≤ ms0)
    (kk : At G X cells slots (pc + 3) lv (.ref z :: rest) V1) : At G X cells slots pc lv (a3 :: a2 :: a1 :: .ref a0 :: rest) V := by
  simp only [Bool.and_eq_true] at hb
  obtain ⟨h0, h1, ci, fs, h2, h3⟩ := rc
  exact v_callV C M d wl wy h0 h1 h2 h3 hE rfl rfl (Nat.le_of_ble_eq_true hb.2) (Nat.le_of_ble_eq_true hb.1.1) (Nat.le_of_ble_eq_true hb.1.2) hc hs (fun E V' q => by obtain ⟨q1, -⟩ := q; cases q1) (fun v V' q => by obtain ⟨q1, q2⟩ := q; cases q1; subst q2; exact kk)
theorem cS3_i {idx nLy dy d0 mc0 ms0 : Nat} {y : MethodName} {ccy : ByteArray} {ret ret0 : Option FieldType} {rest : List Value} {a1 a2 a3 : Value} {z : Int} {o0 : Except String (Option Value)} {V1 V0 : VV} (C : Cx G X own cc) (M : MX G X d0 mc0 ms0 ret0 o0 V0) (d : decode cc pc = .ok (.invokestatic idx, 3)) (wl : .methodLink own idx y ∈ LW) (wy : YS y ccy nLy ret 3) (hE : EvX G (xl X) y ccy nLy ret dy 0 0 [a1, a2, a3] V (.ok (some (vI z))) V1) (hb : (Nat.ble (dy + 1) d0 && Nat.ble nLy 21 && Nat.ble (rest.map fun v => v.category).sum 8) = true) (hc : cells ≤ mc0) (hs : slots ≤ ms0)
    (kk : At G X cells slots (pc + 3) lv (vI z :: rest) V1) : At G X cells slots pc lv (a3 :: a2 :: a1 :: rest) V := by
  simp only [Bool.and_eq_true] at hb
  exact v_callS C M d wl wy hE rfl rfl (Nat.le_of_ble_eq_true hb.2) (Nat.le_of_ble_eq_true hb.1.1) (Nat.le_of_ble_eq_true hb.1.2) hc hs (fun E V' q => by obtain ⟨q1, -⟩ := q; cases q1) (fun v V' q => by obtain ⟨q1, q2⟩ := q; cases q1; subst q2; exact kk)
theorem cS3_v {idx nLy dy d0 mc0 ms0 : Nat} {y : MethodName} {ccy : ByteArray} {ret ret0 : Option FieldType} {rest : List Value} {a1 a2 a3 : Value} {o0 : Except String (Option Value)} {V1 V0 : VV} (C : Cx G X own cc) (M : MX G X d0 mc0 ms0 ret0 o0 V0) (d : decode cc pc = .ok (.invokestatic idx, 3)) (wl : .methodLink own idx y ∈ LW) (wy : YS y ccy nLy ret 3) (hE : EvX G (xl X) y ccy nLy ret dy 0 0 [a1, a2, a3] V (.ok none) V1) (hb : (Nat.ble (dy + 1) d0 && Nat.ble nLy 21 && Nat.ble (rest.map fun v => v.category).sum 8) = true) (hc : cells ≤ mc0) (hs : slots ≤ ms0)
    (kk : At G X cells slots (pc + 3) lv (rest) V1) : At G X cells slots pc lv (a3 :: a2 :: a1 :: rest) V := by
  simp only [Bool.and_eq_true] at hb
  exact v_callS C M d wl wy hE rfl rfl (Nat.le_of_ble_eq_true hb.2) (Nat.le_of_ble_eq_true hb.1.1) (Nat.le_of_ble_eq_true hb.1.2) hc hs (fun E V' q => by obtain ⟨q1, -⟩ := q; cases q1) (fun v V' q => by obtain ⟨q1, q2⟩ := q; cases q1; subst q2; exact kk)
theorem cS3_a {idx nLy dy d0 mc0 ms0 : Nat} {y : MethodName} {ccy : ByteArray} {ret ret0 : Option FieldType} {rest : List Value} {a1 a2 a3 : Value} {z : Nat} {o0 : Except String (Option Value)} {V1 V0 : VV} (C : Cx G X own cc) (M : MX G X d0 mc0 ms0 ret0 o0 V0) (d : decode cc pc = .ok (.invokestatic idx, 3)) (wl : .methodLink own idx y ∈ LW) (wy : YS y ccy nLy ret 3) (hE : EvX G (xl X) y ccy nLy ret dy 0 0 [a1, a2, a3] V (.ok (some (.ref z))) V1) (hb : (Nat.ble (dy + 1) d0 && Nat.ble nLy 21 && Nat.ble (rest.map fun v => v.category).sum 8) = true) (hc : cells ≤ mc0) (hs : slots ≤ ms0)
    (kk : At G X cells slots (pc + 3) lv (.ref z :: rest) V1) : At G X cells slots pc lv (a3 :: a2 :: a1 :: rest) V := by
  simp only [Bool.and_eq_true] at hb
  exact v_callS C M d wl wy hE rfl rfl (Nat.le_of_ble_eq_true hb.2) (Nat.le_of_ble_eq_true hb.1.1) (Nat.le_of_ble_eq_true hb.1.2) hc hs (fun E V' q => by obtain ⟨q1, -⟩ := q; cases q1) (fun v V' q => by obtain ⟨q1, q2⟩ := q; cases q1; subst q2; exact kk)
theorem cV4_i {idx kk0 nLy dy d0 mc0 ms0 : Nat} {y : MethodName} {ccy : ByteArray} {ret ret0 : Option FieldType} {rest : List Value} {a1 a2 a3 a4 : Value} {z : Int} {o0 : Except String (Option Value)} {V1 V0 : VV} {a0 : Nat} (C : Cx G X own cc) (M : MX G X d0 mc0 ms0 ret0 o0 V0) (d : decode cc pc = .ok (.invokevirtual idx, 3)) (wl : .methodLink own idx y ∈ LW) (wy : YV y ccy nLy ret 4) (rc : RC G kk0 a0 y.cls) (hE : EvX G (xl X) y ccy nLy ret dy 0 0 (.ref a0 :: [a1, a2, a3, a4]) V (.ok (some (vI z))) V1) (hb : (Nat.ble (dy + 1) d0 && Nat.ble nLy 21 && Nat.ble (rest.map fun v => v.category).sum 8) = true) (hc : cells ≤ mc0) (hs : slots ≤ ms0)
    (kk : At G X cells slots (pc + 3) lv (vI z :: rest) V1) : At G X cells slots pc lv (a4 :: a3 :: a2 :: a1 :: .ref a0 :: rest) V := by
  simp only [Bool.and_eq_true] at hb
  obtain ⟨h0, h1, ci, fs, h2, h3⟩ := rc
  exact v_callV C M d wl wy h0 h1 h2 h3 hE rfl rfl (Nat.le_of_ble_eq_true hb.2) (Nat.le_of_ble_eq_true hb.1.1) (Nat.le_of_ble_eq_true hb.1.2) hc hs (fun E V' q => by obtain ⟨q1, -⟩ := q; cases q1) (fun v V' q => by obtain ⟨q1, q2⟩ := q; cases q1; subst q2; exact kk)
theorem cV4_v {idx kk0 nLy dy d0 mc0 ms0 : Nat} {y : MethodName} {ccy : ByteArray} {ret ret0 : Option FieldType} {rest : List Value} {a1 a2 a3 a4 : Value} {o0 : Except String (Option Value)} {V1 V0 : VV} {a0 : Nat} (C : Cx G X own cc) (M : MX G X d0 mc0 ms0 ret0 o0 V0) (d : decode cc pc = .ok (.invokevirtual idx, 3)) (wl : .methodLink own idx y ∈ LW) (wy : YV y ccy nLy ret 4) (rc : RC G kk0 a0 y.cls) (hE : EvX G (xl X) y ccy nLy ret dy 0 0 (.ref a0 :: [a1, a2, a3, a4]) V (.ok none) V1) (hb : (Nat.ble (dy + 1) d0 && Nat.ble nLy 21 && Nat.ble (rest.map fun v => v.category).sum 8) = true) (hc : cells ≤ mc0) (hs : slots ≤ ms0)
    (kk : At G X cells slots (pc + 3) lv (rest) V1) : At G X cells slots pc lv (a4 :: a3 :: a2 :: a1 :: .ref a0 :: rest) V := by
  simp only [Bool.and_eq_true] at hb
  obtain ⟨h0, h1, ci, fs, h2, h3⟩ := rc
  exact v_callV C M d wl wy h0 h1 h2 h3 hE rfl rfl (Nat.le_of_ble_eq_true hb.2) (Nat.le_of_ble_eq_true hb.1.1) (Nat.le_of_ble_eq_true hb.1.2) hc hs (fun E V' q => by obtain ⟨q1, -⟩ := q; cases q1) (fun v V' q => by obtain ⟨q1, q2⟩ := q; cases q1; subst q2; exact kk)
theorem cV4_a {idx kk0 nLy dy d0 mc0 ms0 : Nat} {y : MethodName} {ccy : ByteArray} {ret ret0 : Option FieldType} {rest : List Value} {a1 a2 a3 a4 : Value} {z : Nat} {o0 : Except String (Option Value)} {V1 V0 : VV} {a0 : Nat} (C : Cx G X own cc) (M : MX G X d0 mc0 ms0 ret0 o0 V0) (d : decode cc pc = .ok (.invokevirtual idx, 3)) (wl : .methodLink own idx y ∈ LW) (wy : YV y ccy nLy ret 4) (rc : RC G kk0 a0 y.cls) (hE : EvX G (xl X) y ccy nLy ret dy 0 0 (.ref a0 :: [a1, a2, a3, a4]) V (.ok (some (.ref z))) V1) (hb : (Nat.ble (dy + 1) d0 && Nat.ble nLy 21 && Nat.ble (rest.map fun v => v.category).sum 8) = true) (hc : cells ≤ mc0) (hs : slots ≤ ms0)
    (kk : At G X cells slots (pc + 3) lv (.ref z :: rest) V1) : At G X cells slots pc lv (a4 :: a3 :: a2 :: a1 :: .ref a0 :: rest) V := by
  simp only [Bool.and_eq_true] at hb
  obtain ⟨h0, h1, ci, fs, h2, h3⟩ := rc
  exact v_callV C M d wl wy h0 h1 h2 h3 hE rfl rfl (Nat.le_of_ble_eq_true hb.2) (Nat.le_of_ble_eq_true hb.1.1) (Nat.le_of_ble_eq_true hb.1.2) hc hs (fun E V' q => by obtain ⟨q1, -⟩ := q; cases q1) (fun v V' q => by obtain ⟨q1, q2⟩ := q; cases q1; subst q2; exact kk)
theorem cS4_i {idx nLy dy d0 mc0 ms0 : Nat} {y : MethodName} {ccy : ByteArray} {ret ret0 : Option FieldType} {rest : List Value} {a1 a2 a3 a4 : Value} {z : Int} {o0 : Except String (Option Value)} {V1 V0 : VV} (C : Cx G X own cc) (M : MX G X d0 mc0 ms0 ret0 o0 V0) (d : decode cc pc = .ok (.invokestatic idx, 3)) (wl : .methodLink own idx y ∈ LW) (wy : YS y ccy nLy ret 4) (hE : EvX G (xl X) y ccy nLy ret dy 0 0 [a1, a2, a3, a4] V (.ok (some (vI z))) V1) (hb : (Nat.ble (dy + 1) d0 && Nat.ble nLy 21 && Nat.ble (rest.map fun v => v.category).sum 8) = true) (hc : cells ≤ mc0) (hs : slots ≤ ms0)
    (kk : At G X cells slots (pc + 3) lv (vI z :: rest) V1) : At G X cells slots pc lv (a4 :: a3 :: a2 :: a1 :: rest) V := by
  simp only [Bool.and_eq_true] at hb
  exact v_callS C M d wl wy hE rfl rfl (Nat.le_of_ble_eq_true hb.2) (Nat.le_of_ble_eq_true hb.1.1) (Nat.le_of_ble_eq_true hb.1.2) hc hs (fun E V' q => by obtain ⟨q1, -⟩ := q; cases q1) (fun v V' q => by obtain ⟨q1, q2⟩ := q; cases q1; subst q2; exact kk)
theorem cS4_v {idx nLy dy d0 mc0 ms0 : Nat} {y : MethodName} {ccy : ByteArray} {ret ret0 : Option FieldType} {rest : List Value} {a1 a2 a3 a4 : Value} {o0 : Except String (Option Value)} {V1 V0 : VV} (C : Cx G X own cc) (M : MX G X d0 mc0 ms0 ret0 o0 V0) (d : decode cc pc = .ok (.invokestatic idx, 3)) (wl : .methodLink own idx y ∈ LW) (wy : YS y ccy nLy ret 4) (hE : EvX G (xl X) y ccy nLy ret dy 0 0 [a1, a2, a3, a4] V (.ok none) V1) (hb : (Nat.ble (dy + 1) d0 && Nat.ble nLy 21 && Nat.ble (rest.map fun v => v.category).sum 8) = true) (hc : cells ≤ mc0) (hs : slots ≤ ms0)
    (kk : At G X cells slots (pc + 3) lv (rest) V1) : At G X cells slots pc lv (a4 :: a3 :: a2 :: a1 :: rest) V := by
  simp only [Bool.and_eq_true] at hb
  exact v_callS C M d wl wy hE rfl rfl (Nat.le_of_ble_eq_true hb.2) (Nat.le_of_ble_eq_true hb.1.1) (Nat.le_of_ble_eq_true hb.1.2) hc hs (fun E V' q => by obtain ⟨q1, -⟩ := q; cases q1) (fun v V' q => by obtain ⟨q1, q2⟩ := q; cases q1; subst q2; exact kk)
theorem cS4_a {idx nLy dy d0 mc0 ms0 : Nat} {y : MethodName} {ccy : ByteArray} {ret ret0 : Option FieldType} {rest : List Value} {a1 a2 a3 a4 : Value} {z : Nat} {o0 : Except String (Option Value)} {V1 V0 : VV} (C : Cx G X own cc) (M : MX G X d0 mc0 ms0 ret0 o0 V0) (d : decode cc pc = .ok (.invokestatic idx, 3)) (wl : .methodLink own idx y ∈ LW) (wy : YS y ccy nLy ret 4) (hE : EvX G (xl X) y ccy nLy ret dy 0 0 [a1, a2, a3, a4] V (.ok (some (.ref z))) V1) (hb : (Nat.ble (dy + 1) d0 && Nat.ble nLy 21 && Nat.ble (rest.map fun v => v.category).sum 8) = true) (hc : cells ≤ mc0) (hs : slots ≤ ms0)
    (kk : At G X cells slots (pc + 3) lv (.ref z :: rest) V1) : At G X cells slots pc lv (a4 :: a3 :: a2 :: a1 :: rest) V := by
  simp only [Bool.and_eq_true] at hb
  exact v_callS C M d wl wy hE rfl rfl (Nat.le_of_ble_eq_true hb.2) (Nat.le_of_ble_eq_true hb.1.1) (Nat.le_of_ble_eq_true hb.1.2) hc hs (fun E V' q => by obtain ⟨q1, -⟩ := q; cases q1) (fun v V' q => by obtain ⟨q1, q2⟩ := q; cases q1; subst q2; exact kk)
theorem cV5_i {idx kk0 nLy dy d0 mc0 ms0 : Nat} {y : MethodName} {ccy : ByteArray} {ret ret0 : Option FieldType} {rest : List Value} {a1 a2 a3 a4 a5 : Value} {z : Int} {o0 : Except String (Option Value)} {V1 V0 : VV} {a0 : Nat} (C : Cx G X own cc) (M : MX G X d0 mc0 ms0 ret0 o0 V0) (d : decode cc pc = .ok (.invokevirtual idx, 3)) (wl : .methodLink own idx y ∈ LW) (wy : YV y ccy nLy ret 5) (rc : RC G kk0 a0 y.cls) (hE : EvX G (xl X) y ccy nLy ret dy 0 0 (.ref a0 :: [a1, a2, a3, a4, a5]) V (.ok (some (vI z))) V1) (hb : (Nat.ble (dy + 1) d0 && Nat.ble nLy 21 && Nat.ble (rest.map fun v => v.category).sum 8) = true) (hc : cells ≤ mc0) (hs : slots ≤ ms0)
    (kk : At G X cells slots (pc + 3) lv (vI z :: rest) V1) : At G X cells slots pc lv (a5 :: a4 :: a3 :: a2 :: a1 :: .ref a0 :: rest) V := by
  simp only [Bool.and_eq_true] at hb
  obtain ⟨h0, h1, ci, fs, h2, h3⟩ := rc
  exact v_callV C M d wl wy h0 h1 h2 h3 hE rfl rfl (Nat.le_of_ble_eq_true hb.2) (Nat.le_of_ble_eq_true hb.1.1) (Nat.le_of_ble_eq_true hb.1.2) hc hs (fun E V' q => by obtain ⟨q1, -⟩ := q; cases q1) (fun v V' q => by obtain ⟨q1, q2⟩ := q; cases q1; subst q2; exact kk)
theorem cV5_v {idx kk0 nLy dy d0 mc0 ms0 : Nat} {y : MethodName} {ccy : ByteArray} {ret ret0 : Option FieldType} {rest : List Value} {a1 a2 a3 a4 a5 : Value} {o0 : Except String (Option Value)} {V1 V0 : VV} {a0 : Nat} (C : Cx G X own cc) (M : MX G X d0 mc0 ms0 ret0 o0 V0) (d : decode cc pc = .ok (.invokevirtual idx, 3)) (wl : .methodLink own idx y ∈ LW) (wy : YV y ccy nLy ret 5) (rc : RC G kk0 a0 y.cls) (hE : EvX G (xl X) y ccy nLy ret dy 0 0 (.ref a0 :: [a1, a2, a3, a4, a5]) V (.ok none) V1) (hb : (Nat.ble (dy + 1) d0 && Nat.ble nLy 21 && Nat.ble (rest.map fun v => v.category).sum 8) = true) (hc : cells ≤ mc0) (hs : slots ≤ ms0)
    (kk : At G X cells slots (pc + 3) lv (rest) V1) : At G X cells slots pc lv (a5 :: a4 :: a3 :: a2 :: a1 :: .ref a0 :: rest) V := by
  simp only [Bool.and_eq_true] at hb
  obtain ⟨h0, h1, ci, fs, h2, h3⟩ := rc
  exact v_callV C M d wl wy h0 h1 h2 h3 hE rfl rfl (Nat.le_of_ble_eq_true hb.2) (Nat.le_of_ble_eq_true hb.1.1) (Nat.le_of_ble_eq_true hb.1.2) hc hs (fun E V' q => by obtain ⟨q1, -⟩ := q; cases q1) (fun v V' q => by obtain ⟨q1, q2⟩ := q; cases q1; subst q2; exact kk)
theorem cV5_a {idx kk0 nLy dy d0 mc0 ms0 : Nat} {y : MethodName} {ccy : ByteArray} {ret ret0 : Option FieldType} {rest : List Value} {a1 a2 a3 a4 a5 : Value} {z : Nat} {o0 : Except String (Option Value)} {V1 V0 : VV} {a0 : Nat} (C : Cx G X own cc) (M : MX G X d0 mc0 ms0 ret0 o0 V0) (d : decode cc pc = .ok (.invokevirtual idx, 3)) (wl : .methodLink own idx y ∈ LW) (wy : YV y ccy nLy ret 5) (rc : RC G kk0 a0 y.cls) (hE : EvX G (xl X) y ccy nLy ret dy 0 0 (.ref a0 :: [a1, a2, a3, a4, a5]) V (.ok (some (.ref z))) V1) (hb : (Nat.ble (dy + 1) d0 && Nat.ble nLy 21 && Nat.ble (rest.map fun v => v.category).sum 8) = true) (hc : cells ≤ mc0) (hs : slots ≤ ms0)
    (kk : At G X cells slots (pc + 3) lv (.ref z :: rest) V1) : At G X cells slots pc lv (a5 :: a4 :: a3 :: a2 :: a1 :: .ref a0 :: rest) V := by
  simp only [Bool.and_eq_true] at hb
  obtain ⟨h0, h1, ci, fs, h2, h3⟩ := rc
  exact v_callV C M d wl wy h0 h1 h2 h3 hE rfl rfl (Nat.le_of_ble_eq_true hb.2) (Nat.le_of_ble_eq_true hb.1.1) (Nat.le_of_ble_eq_true hb.1.2) hc hs (fun E V' q => by obtain ⟨q1, -⟩ := q; cases q1) (fun v V' q => by obtain ⟨q1, q2⟩ := q; cases q1; subst q2; exact kk)
theorem cS5_i {idx nLy dy d0 mc0 ms0 : Nat} {y : MethodName} {ccy : ByteArray} {ret ret0 : Option FieldType} {rest : List Value} {a1 a2 a3 a4 a5 : Value} {z : Int} {o0 : Except String (Option Value)} {V1 V0 : VV} (C : Cx G X own cc) (M : MX G X d0 mc0 ms0 ret0 o0 V0) (d : decode cc pc = .ok (.invokestatic idx, 3)) (wl : .methodLink own idx y ∈ LW) (wy : YS y ccy nLy ret 5) (hE : EvX G (xl X) y ccy nLy ret dy 0 0 [a1, a2, a3, a4, a5] V (.ok (some (vI z))) V1) (hb : (Nat.ble (dy + 1) d0 && Nat.ble nLy 21 && Nat.ble (rest.map fun v => v.category).sum 8) = true) (hc : cells ≤ mc0) (hs : slots ≤ ms0)
    (kk : At G X cells slots (pc + 3) lv (vI z :: rest) V1) : At G X cells slots pc lv (a5 :: a4 :: a3 :: a2 :: a1 :: rest) V := by
  simp only [Bool.and_eq_true] at hb
  exact v_callS C M d wl wy hE rfl rfl (Nat.le_of_ble_eq_true hb.2) (Nat.le_of_ble_eq_true hb.1.1) (Nat.le_of_ble_eq_true hb.1.2) hc hs (fun E V' q => by obtain ⟨q1, -⟩ := q; cases q1) (fun v V' q => by obtain ⟨q1, q2⟩ := q; cases q1; subst q2; exact kk)
theorem cS5_v {idx nLy dy d0 mc0 ms0 : Nat} {y : MethodName} {ccy : ByteArray} {ret ret0 : Option FieldType} {rest : List Value} {a1 a2 a3 a4 a5 : Value} {o0 : Except String (Option Value)} {V1 V0 : VV} (C : Cx G X own cc) (M : MX G X d0 mc0 ms0 ret0 o0 V0) (d : decode cc pc = .ok (.invokestatic idx, 3)) (wl : .methodLink own idx y ∈ LW) (wy : YS y ccy nLy ret 5) (hE : EvX G (xl X) y ccy nLy ret dy 0 0 [a1, a2, a3, a4, a5] V (.ok none) V1) (hb : (Nat.ble (dy + 1) d0 && Nat.ble nLy 21 && Nat.ble (rest.map fun v => v.category).sum 8) = true) (hc : cells ≤ mc0) (hs : slots ≤ ms0)
    (kk : At G X cells slots (pc + 3) lv (rest) V1) : At G X cells slots pc lv (a5 :: a4 :: a3 :: a2 :: a1 :: rest) V := by
  simp only [Bool.and_eq_true] at hb
  exact v_callS C M d wl wy hE rfl rfl (Nat.le_of_ble_eq_true hb.2) (Nat.le_of_ble_eq_true hb.1.1) (Nat.le_of_ble_eq_true hb.1.2) hc hs (fun E V' q => by obtain ⟨q1, -⟩ := q; cases q1) (fun v V' q => by obtain ⟨q1, q2⟩ := q; cases q1; subst q2; exact kk)
theorem cS5_a {idx nLy dy d0 mc0 ms0 : Nat} {y : MethodName} {ccy : ByteArray} {ret ret0 : Option FieldType} {rest : List Value} {a1 a2 a3 a4 a5 : Value} {z : Nat} {o0 : Except String (Option Value)} {V1 V0 : VV} (C : Cx G X own cc) (M : MX G X d0 mc0 ms0 ret0 o0 V0) (d : decode cc pc = .ok (.invokestatic idx, 3)) (wl : .methodLink own idx y ∈ LW) (wy : YS y ccy nLy ret 5) (hE : EvX G (xl X) y ccy nLy ret dy 0 0 [a1, a2, a3, a4, a5] V (.ok (some (.ref z))) V1) (hb : (Nat.ble (dy + 1) d0 && Nat.ble nLy 21 && Nat.ble (rest.map fun v => v.category).sum 8) = true) (hc : cells ≤ mc0) (hs : slots ≤ ms0)
    (kk : At G X cells slots (pc + 3) lv (.ref z :: rest) V1) : At G X cells slots pc lv (a5 :: a4 :: a3 :: a2 :: a1 :: rest) V := by
  simp only [Bool.and_eq_true] at hb
  exact v_callS C M d wl wy hE rfl rfl (Nat.le_of_ble_eq_true hb.2) (Nat.le_of_ble_eq_true hb.1.1) (Nat.le_of_ble_eq_true hb.1.2) hc hs (fun E V' q => by obtain ⟨q1, -⟩ := q; cases q1) (fun v V' q => by obtain ⟨q1, q2⟩ := q; cases q1; subst q2; exact kk)
theorem cV6_i {idx kk0 nLy dy d0 mc0 ms0 : Nat} {y : MethodName} {ccy : ByteArray} {ret ret0 : Option FieldType} {rest : List Value} {a1 a2 a3 a4 a5 a6 : Value} {z : Int} {o0 : Except String (Option Value)} {V1 V0 : VV} {a0 : Nat} (C : Cx G X own cc) (M : MX G X d0 mc0 ms0 ret0 o0 V0) (d : decode cc pc = .ok (.invokevirtual idx, 3)) (wl : .methodLink own idx y ∈ LW) (wy : YV y ccy nLy ret 6) (rc : RC G kk0 a0 y.cls) (hE : EvX G (xl X) y ccy nLy ret dy 0 0 (.ref a0 :: [a1, a2, a3, a4, a5, a6]) V (.ok (some (vI z))) V1) (hb : (Nat.ble (dy + 1) d0 && Nat.ble nLy 21 && Nat.ble (rest.map fun v => v.category).sum 8) = true) (hc : cells ≤ mc0) (hs : slots ≤ ms0)
    (kk : At G X cells slots (pc + 3) lv (vI z :: rest) V1) : At G X cells slots pc lv (a6 :: a5 :: a4 :: a3 :: a2 :: a1 :: .ref a0 :: rest) V := by
  simp only [Bool.and_eq_true] at hb
  obtain ⟨h0, h1, ci, fs, h2, h3⟩ := rc
  exact v_callV C M d wl wy h0 h1 h2 h3 hE rfl rfl (Nat.le_of_ble_eq_true hb.2) (Nat.le_of_ble_eq_true hb.1.1) (Nat.le_of_ble_eq_true hb.1.2) hc hs (fun E V' q => by obtain ⟨q1, -⟩ := q; cases q1) (fun v V' q => by obtain ⟨q1, q2⟩ := q; cases q1; subst q2; exact kk)
theorem cV6_v {idx kk0 nLy dy d0 mc0 ms0 : Nat} {y : MethodName} {ccy : ByteArray} {ret ret0 : Option FieldType} {rest : List Value} {a1 a2 a3 a4 a5 a6 : Value} {o0 : Except String (Option Value)} {V1 V0 : VV} {a0 : Nat} (C : Cx G X own cc) (M : MX G X d0 mc0 ms0 ret0 o0 V0) (d : decode cc pc = .ok (.invokevirtual idx, 3)) (wl : .methodLink own idx y ∈ LW) (wy : YV y ccy nLy ret 6) (rc : RC G kk0 a0 y.cls) (hE : EvX G (xl X) y ccy nLy ret dy 0 0 (.ref a0 :: [a1, a2, a3, a4, a5, a6]) V (.ok none) V1) (hb : (Nat.ble (dy + 1) d0 && Nat.ble nLy 21 && Nat.ble (rest.map fun v => v.category).sum 8) = true) (hc : cells ≤ mc0) (hs : slots ≤ ms0)
    (kk : At G X cells slots (pc + 3) lv (rest) V1) : At G X cells slots pc lv (a6 :: a5 :: a4 :: a3 :: a2 :: a1 :: .ref a0 :: rest) V := by
  simp only [Bool.and_eq_true] at hb
  obtain ⟨h0, h1, ci, fs, h2, h3⟩ := rc
  exact v_callV C M d wl wy h0 h1 h2 h3 hE rfl rfl (Nat.le_of_ble_eq_true hb.2) (Nat.le_of_ble_eq_true hb.1.1) (Nat.le_of_ble_eq_true hb.1.2) hc hs (fun E V' q => by obtain ⟨q1, -⟩ := q; cases q1) (fun v V' q => by obtain ⟨q1, q2⟩ := q; cases q1; subst q2; exact kk)
theorem cV6_a {idx kk0 nLy dy d0 mc0 ms0 : Nat} {y : MethodName} {ccy : ByteArray} {ret ret0 : Option FieldType} {rest : List Value} {a1 a2 a3 a4 a5 a6 : Value} {z : Nat} {o0 : Except String (Option Value)} {V1 V0 : VV} {a0 : Nat} (C : Cx G X own cc) (M : MX G X d0 mc0 ms0 ret0 o0 V0) (d : decode cc pc = .ok (.invokevirtual idx, 3)) (wl : .methodLink own idx y ∈ LW) (wy : YV y ccy nLy ret 6) (rc : RC G kk0 a0 y.cls) (hE : EvX G (xl X) y ccy nLy ret dy 0 0 (.ref a0 :: [a1, a2, a3, a4, a5, a6]) V (.ok (some (.ref z))) V1) (hb : (Nat.ble (dy + 1) d0 && Nat.ble nLy 21 && Nat.ble (rest.map fun v => v.category).sum 8) = true) (hc : cells ≤ mc0) (hs : slots ≤ ms0)
    (kk : At G X cells slots (pc + 3) lv (.ref z :: rest) V1) : At G X cells slots pc lv (a6 :: a5 :: a4 :: a3 :: a2 :: a1 :: .ref a0 :: rest) V := by
  simp only [Bool.and_eq_true] at hb
  obtain ⟨h0, h1, ci, fs, h2, h3⟩ := rc
  exact v_callV C M d wl wy h0 h1 h2 h3 hE rfl rfl (Nat.le_of_ble_eq_true hb.2) (Nat.le_of_ble_eq_true hb.1.1) (Nat.le_of_ble_eq_true hb.1.2) hc hs (fun E V' q => by obtain ⟨q1, -⟩ := q; cases q1) (fun v V' q => by obtain ⟨q1, q2⟩ := q; cases q1; subst q2; exact kk)
theorem cS6_i {idx nLy dy d0 mc0 ms0 : Nat} {y : MethodName} {ccy : ByteArray} {ret ret0 : Option FieldType} {rest : List Value} {a1 a2 a3 a4 a5 a6 : Value} {z : Int} {o0 : Except String (Option Value)} {V1 V0 : VV} (C : Cx G X own cc) (M : MX G X d0 mc0 ms0 ret0 o0 V0) (d : decode cc pc = .ok (.invokestatic idx, 3)) (wl : .methodLink own idx y ∈ LW) (wy : YS y ccy nLy ret 6) (hE : EvX G (xl X) y ccy nLy ret dy 0 0 [a1, a2, a3, a4, a5, a6] V (.ok (some (vI z))) V1) (hb : (Nat.ble (dy + 1) d0 && Nat.ble nLy 21 && Nat.ble (rest.map fun v => v.category).sum 8) = true) (hc : cells ≤ mc0) (hs : slots ≤ ms0)
    (kk : At G X cells slots (pc + 3) lv (vI z :: rest) V1) : At G X cells slots pc lv (a6 :: a5 :: a4 :: a3 :: a2 :: a1 :: rest) V := by
  simp only [Bool.and_eq_true] at hb
  exact v_callS C M d wl wy hE rfl rfl (Nat.le_of_ble_eq_true hb.2) (Nat.le_of_ble_eq_true hb.1.1) (Nat.le_of_ble_eq_true hb.1.2) hc hs (fun E V' q => by obtain ⟨q1, -⟩ := q; cases q1) (fun v V' q => by obtain ⟨q1, q2⟩ := q; cases q1; subst q2; exact kk)
theorem cS6_v {idx nLy dy d0 mc0 ms0 : Nat} {y : MethodName} {ccy : ByteArray} {ret ret0 : Option FieldType} {rest : List Value} {a1 a2 a3 a4 a5 a6 : Value} {o0 : Except String (Option Value)} {V1 V0 : VV} (C : Cx G X own cc) (M : MX G X d0 mc0 ms0 ret0 o0 V0) (d : decode cc pc = .ok (.invokestatic idx, 3)) (wl : .methodLink own idx y ∈ LW) (wy : YS y ccy nLy ret 6) (hE : EvX G (xl X) y ccy nLy ret dy 0 0 [a1, a2, a3, a4, a5, a6] V (.ok none) V1) (hb : (Nat.ble (dy + 1) d0 && Nat.ble nLy 21 && Nat.ble (rest.map fun v => v.category).sum 8) = true) (hc : cells ≤ mc0) (hs : slots ≤ ms0)
    (kk : At G X cells slots (pc + 3) lv (rest) V1) : At G X cells slots pc lv (a6 :: a5 :: a4 :: a3 :: a2 :: a1 :: rest) V := by
  simp only [Bool.and_eq_true] at hb
  exact v_callS C M d wl wy hE rfl rfl (Nat.le_of_ble_eq_true hb.2) (Nat.le_of_ble_eq_true hb.1.1) (Nat.le_of_ble_eq_true hb.1.2) hc hs (fun E V' q => by obtain ⟨q1, -⟩ := q; cases q1) (fun v V' q => by obtain ⟨q1, q2⟩ := q; cases q1; subst q2; exact kk)
theorem cS6_a {idx nLy dy d0 mc0 ms0 : Nat} {y : MethodName} {ccy : ByteArray} {ret ret0 : Option FieldType} {rest : List Value} {a1 a2 a3 a4 a5 a6 : Value} {z : Nat} {o0 : Except String (Option Value)} {V1 V0 : VV} (C : Cx G X own cc) (M : MX G X d0 mc0 ms0 ret0 o0 V0) (d : decode cc pc = .ok (.invokestatic idx, 3)) (wl : .methodLink own idx y ∈ LW) (wy : YS y ccy nLy ret 6) (hE : EvX G (xl X) y ccy nLy ret dy 0 0 [a1, a2, a3, a4, a5, a6] V (.ok (some (.ref z))) V1) (hb : (Nat.ble (dy + 1) d0 && Nat.ble nLy 21 && Nat.ble (rest.map fun v => v.category).sum 8) = true) (hc : cells ≤ mc0) (hs : slots ≤ ms0)
    (kk : At G X cells slots (pc + 3) lv (.ref z :: rest) V1) : At G X cells slots pc lv (a6 :: a5 :: a4 :: a3 :: a2 :: a1 :: rest) V := by
  simp only [Bool.and_eq_true] at hb
  exact v_callS C M d wl wy hE rfl rfl (Nat.le_of_ble_eq_true hb.2) (Nat.le_of_ble_eq_true hb.1.1) (Nat.le_of_ble_eq_true hb.1.2) hc hs (fun E V' q => by obtain ⟨q1, -⟩ := q; cases q1) (fun v V' q => by obtain ⟨q1, q2⟩ := q; cases q1; subst q2; exact kk)
theorem g_input_0 {idx : Nat} (C : Cx G X own cc) (d : decode cc pc = .ok (.getfield idx, 3)) (hl : .fieldLink own idx "ChannelSchedule$Input" "bytes" "[B" ∈ LW) (hN : 148 ≤ gN G) (kk : At G X cells slots (pc + 3) lv (.ref (gB G + 2) :: st) V) : At G X cells slots pc lv (.ref (gB G + 1) :: st) V := v_gf (T := T0) (K := R0) (n := 8) (sl := 0) (ci := 0) (fs := fsInput (gB G)) C d hl (ad_lo (by omega)) (by omega) (fun _ => rfl) oi0 (by omega) rfl kk
theorem g_input_1 {idx : Nat} (C : Cx G X own cc) (d : decode cc pc = .ok (.getfield idx, 3)) (hl : .fieldLink own idx "ChannelSchedule$Input" "length" "I" ∈ LW) (hN : 148 ≤ gN G) (kk : At G X cells slots (pc + 3) lv (vI (V 1 1) :: st) V) : At G X cells slots pc lv (.ref (gB G + 1) :: st) V := v_gf (T := T0) (K := R0) (n := 8) (sl := 1) (ci := 0) (fs := fsInput (gB G)) C d hl (ad_lo (by omega)) (by omega) (fun _ => rfl) oi0 (by omega) rfl kk
theorem p_input_1 {idx : Nat} {z : Int} (C : Cx G X own cc) (d : decode cc pc = .ok (.putfield idx, 3)) (hl : .fieldLink own idx "ChannelSchedule$Input" "length" "I" ∈ LW) (hN : 148 ≤ gN G) (kk : At G X cells slots (pc + 3) lv st (up2 V 1 1 z)) : At G X cells slots pc lv (vI z :: .ref (gB G + 1) :: st) V := v_pf (T := T0) (K := R0) (n := 8) (sl := 1) (ci := 0) (fs := fsInput (gB G)) C d hl (ad_lo (by omega)) (by omega) (fun _ => rfl) oi0 (by omega) rfl rfl (fun _ => Nat.le_of_ble_eq_true rfl) (fun _ => rfl) kk
theorem g_input_2 {idx : Nat} (C : Cx G X own cc) (d : decode cc pc = .ok (.getfield idx, 3)) (hl : .fieldLink own idx "ChannelSchedule$Input" "errorCode" "I" ∈ LW) (hN : 148 ≤ gN G) (kk : At G X cells slots (pc + 3) lv (vI (V 1 2) :: st) V) : At G X cells slots pc lv (.ref (gB G + 1) :: st) V := v_gf (T := T0) (K := R0) (n := 8) (sl := 2) (ci := 0) (fs := fsInput (gB G)) C d hl (ad_lo (by omega)) (by omega) (fun _ => rfl) oi0 (by omega) rfl kk
theorem p_input_2 {idx : Nat} {z : Int} (C : Cx G X own cc) (d : decode cc pc = .ok (.putfield idx, 3)) (hl : .fieldLink own idx "ChannelSchedule$Input" "errorCode" "I" ∈ LW) (hN : 148 ≤ gN G) (kk : At G X cells slots (pc + 3) lv st (up2 V 1 2 z)) : At G X cells slots pc lv (vI z :: .ref (gB G + 1) :: st) V := v_pf (T := T0) (K := R0) (n := 8) (sl := 2) (ci := 0) (fs := fsInput (gB G)) C d hl (ad_lo (by omega)) (by omega) (fun _ => rfl) oi0 (by omega) rfl rfl (fun _ => Nat.le_of_ble_eq_true rfl) (fun _ => rfl) kk
theorem g_input_3 {idx : Nat} (C : Cx G X own cc) (d : decode cc pc = .ok (.getfield idx, 3)) (hl : .fieldLink own idx "ChannelSchedule$Input" "errorPosition" "I" ∈ LW) (hN : 148 ≤ gN G) (kk : At G X cells slots (pc + 3) lv (vI (V 1 3) :: st) V) : At G X cells slots pc lv (.ref (gB G + 1) :: st) V := v_gf (T := T0) (K := R0) (n := 8) (sl := 3) (ci := 0) (fs := fsInput (gB G)) C d hl (ad_lo (by omega)) (by omega) (fun _ => rfl) oi0 (by omega) rfl kk
theorem p_input_3 {idx : Nat} {z : Int} (C : Cx G X own cc) (d : decode cc pc = .ok (.putfield idx, 3)) (hl : .fieldLink own idx "ChannelSchedule$Input" "errorPosition" "I" ∈ LW) (hN : 148 ≤ gN G) (kk : At G X cells slots (pc + 3) lv st (up2 V 1 3 z)) : At G X cells slots pc lv (vI z :: .ref (gB G + 1) :: st) V := v_pf (T := T0) (K := R0) (n := 8) (sl := 3) (ci := 0) (fs := fsInput (gB G)) C d hl (ad_lo (by omega)) (by omega) (fun _ => rfl) oi0 (by omega) rfl rfl (fun _ => Nat.le_of_ble_eq_true rfl) (fun _ => rfl) kk
theorem g_input_4 {idx : Nat} (C : Cx G X own cc) (d : decode cc pc = .ok (.getfield idx, 3)) (hl : .fieldLink own idx "ChannelSchedule$Input" "kind" "I" ∈ LW) (hN : 148 ≤ gN G) (kk : At G X cells slots (pc + 3) lv (vI (V 1 4) :: st) V) : At G X cells slots pc lv (.ref (gB G + 1) :: st) V := v_gf (T := T0) (K := R0) (n := 8) (sl := 4) (ci := 0) (fs := fsInput (gB G)) C d hl (ad_lo (by omega)) (by omega) (fun _ => rfl) oi0 (by omega) rfl kk
theorem p_input_4 {idx : Nat} {z : Int} (C : Cx G X own cc) (d : decode cc pc = .ok (.putfield idx, 3)) (hl : .fieldLink own idx "ChannelSchedule$Input" "kind" "I" ∈ LW) (hN : 148 ≤ gN G) (kk : At G X cells slots (pc + 3) lv st (up2 V 1 4 z)) : At G X cells slots pc lv (vI z :: .ref (gB G + 1) :: st) V := v_pf (T := T0) (K := R0) (n := 8) (sl := 4) (ci := 0) (fs := fsInput (gB G)) C d hl (ad_lo (by omega)) (by omega) (fun _ => rfl) oi0 (by omega) rfl rfl (fun _ => Nat.le_of_ble_eq_true rfl) (fun _ => rfl) kk
theorem g_input_5 {idx : Nat} (C : Cx G X own cc) (d : decode cc pc = .ok (.getfield idx, 3)) (hl : .fieldLink own idx "ChannelSchedule$Input" "tokenStart" "I" ∈ LW) (hN : 148 ≤ gN G) (kk : At G X cells slots (pc + 3) lv (vI (V 1 5) :: st) V) : At G X cells slots pc lv (.ref (gB G + 1) :: st) V := v_gf (T := T0) (K := R0) (n := 8) (sl := 5) (ci := 0) (fs := fsInput (gB G)) C d hl (ad_lo (by omega)) (by omega) (fun _ => rfl) oi0 (by omega) rfl kk
theorem p_input_5 {idx : Nat} {z : Int} (C : Cx G X own cc) (d : decode cc pc = .ok (.putfield idx, 3)) (hl : .fieldLink own idx "ChannelSchedule$Input" "tokenStart" "I" ∈ LW) (hN : 148 ≤ gN G) (kk : At G X cells slots (pc + 3) lv st (up2 V 1 5 z)) : At G X cells slots pc lv (vI z :: .ref (gB G + 1) :: st) V := v_pf (T := T0) (K := R0) (n := 8) (sl := 5) (ci := 0) (fs := fsInput (gB G)) C d hl (ad_lo (by omega)) (by omega) (fun _ => rfl) oi0 (by omega) rfl rfl (fun _ => Nat.le_of_ble_eq_true rfl) (fun _ => rfl) kk
theorem g_input_6 {idx : Nat} (C : Cx G X own cc) (d : decode cc pc = .ok (.getfield idx, 3)) (hl : .fieldLink own idx "ChannelSchedule$Input" "at" "I" ∈ LW) (hN : 148 ≤ gN G) (kk : At G X cells slots (pc + 3) lv (vI (V 1 6) :: st) V) : At G X cells slots pc lv (.ref (gB G + 1) :: st) V := v_gf (T := T0) (K := R0) (n := 8) (sl := 6) (ci := 0) (fs := fsInput (gB G)) C d hl (ad_lo (by omega)) (by omega) (fun _ => rfl) oi0 (by omega) rfl kk
theorem p_input_6 {idx : Nat} {z : Int} (C : Cx G X own cc) (d : decode cc pc = .ok (.putfield idx, 3)) (hl : .fieldLink own idx "ChannelSchedule$Input" "at" "I" ∈ LW) (hN : 148 ≤ gN G) (kk : At G X cells slots (pc + 3) lv st (up2 V 1 6 z)) : At G X cells slots pc lv (vI z :: .ref (gB G + 1) :: st) V := v_pf (T := T0) (K := R0) (n := 8) (sl := 6) (ci := 0) (fs := fsInput (gB G)) C d hl (ad_lo (by omega)) (by omega) (fun _ => rfl) oi0 (by omega) rfl rfl (fun _ => Nat.le_of_ble_eq_true rfl) (fun _ => rfl) kk
theorem g_input_7 {idx : Nat} (C : Cx G X own cc) (d : decode cc pc = .ok (.getfield idx, 3)) (hl : .fieldLink own idx "ChannelSchedule$Input" "number" "I" ∈ LW) (hN : 148 ≤ gN G) (kk : At G X cells slots (pc + 3) lv (vI (V 1 7) :: st) V) : At G X cells slots pc lv (.ref (gB G + 1) :: st) V := v_gf (T := T0) (K := R0) (n := 8) (sl := 7) (ci := 0) (fs := fsInput (gB G)) C d hl (ad_lo (by omega)) (by omega) (fun _ => rfl) oi0 (by omega) rfl kk
theorem p_input_7 {idx : Nat} {z : Int} (C : Cx G X own cc) (d : decode cc pc = .ok (.putfield idx, 3)) (hl : .fieldLink own idx "ChannelSchedule$Input" "number" "I" ∈ LW) (hN : 148 ≤ gN G) (kk : At G X cells slots (pc + 3) lv st (up2 V 1 7 z)) : At G X cells slots pc lv (vI z :: .ref (gB G + 1) :: st) V := v_pf (T := T0) (K := R0) (n := 8) (sl := 7) (ci := 0) (fs := fsInput (gB G)) C d hl (ad_lo (by omega)) (by omega) (fun _ => rfl) oi0 (by omega) rfl rfl (fun _ => Nat.le_of_ble_eq_true rfl) (fun _ => rfl) kk
theorem g_plan_0 {idx : Nat} (C : Cx G X own cc) (d : decode cc pc = .ok (.getfield idx, 3)) (hl : .fieldLink own idx "ChannelSchedule$Plan" "thickness" "I" ∈ LW) (hN : 148 ≤ gN G) {p : Nat} (hp : p < 10) (kk : At G X cells slots (pc + 3) lv (vI (V (aP p) 0) :: st) V) : At G X cells slots pc lv (.ref (gB G + aP p) :: st) V := v_gf (T := T1) (K := R1) (n := 15) (sl := 0) (ci := 1) (fs := fsPlan (gB G) (aP p)) C d hl (ad_lo (aP_lt0 hp)) (by have := aP_lt0 hp; omega) (celP_0 hp) oi1 (by omega) rfl kk
theorem p_plan_0 {idx : Nat} {z : Int} (C : Cx G X own cc) (d : decode cc pc = .ok (.putfield idx, 3)) (hl : .fieldLink own idx "ChannelSchedule$Plan" "thickness" "I" ∈ LW) (hN : 148 ≤ gN G) {p : Nat} (hp : p < 10) (kk : At G X cells slots (pc + 3) lv st (up2 V (aP p) 0 z)) : At G X cells slots pc lv (vI z :: .ref (gB G + aP p) :: st) V := v_pf (T := T1) (K := R1) (n := 15) (sl := 0) (ci := 1) (fs := fsPlan (gB G) (aP p)) C d hl (ad_lo (aP_lt0 hp)) (by have := aP_lt0 hp; omega) (celP_0 hp) oi1 (by omega) rfl rfl (fun _ => Nat.le_of_ble_eq_true rfl) (fun _ => rfl) kk
theorem g_plan_1 {idx : Nat} (C : Cx G X own cc) (d : decode cc pc = .ok (.getfield idx, 3)) (hl : .fieldLink own idx "ChannelSchedule$Plan" "minute" "I" ∈ LW) (hN : 148 ≤ gN G) {p : Nat} (hp : p < 10) (kk : At G X cells slots (pc + 3) lv (vI (V (aP p) 1) :: st) V) : At G X cells slots pc lv (.ref (gB G + aP p) :: st) V := v_gf (T := T1) (K := R1) (n := 15) (sl := 1) (ci := 1) (fs := fsPlan (gB G) (aP p)) C d hl (ad_lo (aP_lt0 hp)) (by have := aP_lt0 hp; omega) (celP_0 hp) oi1 (by omega) rfl kk
theorem p_plan_1 {idx : Nat} {z : Int} (C : Cx G X own cc) (d : decode cc pc = .ok (.putfield idx, 3)) (hl : .fieldLink own idx "ChannelSchedule$Plan" "minute" "I" ∈ LW) (hN : 148 ≤ gN G) {p : Nat} (hp : p < 10) (kk : At G X cells slots (pc + 3) lv st (up2 V (aP p) 1 z)) : At G X cells slots pc lv (vI z :: .ref (gB G + aP p) :: st) V := v_pf (T := T1) (K := R1) (n := 15) (sl := 1) (ci := 1) (fs := fsPlan (gB G) (aP p)) C d hl (ad_lo (aP_lt0 hp)) (by have := aP_lt0 hp; omega) (celP_0 hp) oi1 (by omega) rfl rfl (fun _ => Nat.le_of_ble_eq_true rfl) (fun _ => rfl) kk
theorem g_plan_2 {idx : Nat} (C : Cx G X own cc) (d : decode cc pc = .ok (.getfield idx, 3)) (hl : .fieldLink own idx "ChannelSchedule$Plan" "made" "I" ∈ LW) (hN : 148 ≤ gN G) {p : Nat} (hp : p < 10) (kk : At G X cells slots (pc + 3) lv (vI (V (aP p) 2) :: st) V) : At G X cells slots pc lv (.ref (gB G + aP p) :: st) V := v_gf (T := T1) (K := R1) (n := 15) (sl := 2) (ci := 1) (fs := fsPlan (gB G) (aP p)) C d hl (ad_lo (aP_lt0 hp)) (by have := aP_lt0 hp; omega) (celP_0 hp) oi1 (by omega) rfl kk
theorem p_plan_2 {idx : Nat} {z : Int} (C : Cx G X own cc) (d : decode cc pc = .ok (.putfield idx, 3)) (hl : .fieldLink own idx "ChannelSchedule$Plan" "made" "I" ∈ LW) (hN : 148 ≤ gN G) {p : Nat} (hp : p < 10) (kk : At G X cells slots (pc + 3) lv st (up2 V (aP p) 2 z)) : At G X cells slots pc lv (vI z :: .ref (gB G + aP p) :: st) V := v_pf (T := T1) (K := R1) (n := 15) (sl := 2) (ci := 1) (fs := fsPlan (gB G) (aP p)) C d hl (ad_lo (aP_lt0 hp)) (by have := aP_lt0 hp; omega) (celP_0 hp) oi1 (by omega) rfl rfl (fun _ => Nat.le_of_ble_eq_true rfl) (fun _ => rfl) kk
theorem g_plan_3 {idx : Nat} (C : Cx G X own cc) (d : decode cc pc = .ok (.getfield idx, 3)) (hl : .fieldLink own idx "ChannelSchedule$Plan" "cancelled" "I" ∈ LW) (hN : 148 ≤ gN G) {p : Nat} (hp : p < 10) (kk : At G X cells slots (pc + 3) lv (vI (V (aP p) 3) :: st) V) : At G X cells slots pc lv (.ref (gB G + aP p) :: st) V := v_gf (T := T1) (K := R1) (n := 15) (sl := 3) (ci := 1) (fs := fsPlan (gB G) (aP p)) C d hl (ad_lo (aP_lt0 hp)) (by have := aP_lt0 hp; omega) (celP_0 hp) oi1 (by omega) rfl kk
theorem p_plan_3 {idx : Nat} {z : Int} (C : Cx G X own cc) (d : decode cc pc = .ok (.putfield idx, 3)) (hl : .fieldLink own idx "ChannelSchedule$Plan" "cancelled" "I" ∈ LW) (hN : 148 ≤ gN G) {p : Nat} (hp : p < 10) (kk : At G X cells slots (pc + 3) lv st (up2 V (aP p) 3 z)) : At G X cells slots pc lv (vI z :: .ref (gB G + aP p) :: st) V := v_pf (T := T1) (K := R1) (n := 15) (sl := 3) (ci := 1) (fs := fsPlan (gB G) (aP p)) C d hl (ad_lo (aP_lt0 hp)) (by have := aP_lt0 hp; omega) (celP_0 hp) oi1 (by omega) rfl rfl (fun _ => Nat.le_of_ble_eq_true rfl) (fun _ => rfl) kk
theorem g_plan_4 {idx : Nat} (C : Cx G X own cc) (d : decode cc pc = .ok (.getfield idx, 3)) (hl : .fieldLink own idx "ChannelSchedule$Plan" "served" "I" ∈ LW) (hN : 148 ≤ gN G) {p : Nat} (hp : p < 10) (kk : At G X cells slots (pc + 3) lv (vI (V (aP p) 4) :: st) V) : At G X cells slots pc lv (.ref (gB G + aP p) :: st) V := v_gf (T := T1) (K := R1) (n := 15) (sl := 4) (ci := 1) (fs := fsPlan (gB G) (aP p)) C d hl (ad_lo (aP_lt0 hp)) (by have := aP_lt0 hp; omega) (celP_0 hp) oi1 (by omega) rfl kk
theorem p_plan_4 {idx : Nat} {z : Int} (C : Cx G X own cc) (d : decode cc pc = .ok (.putfield idx, 3)) (hl : .fieldLink own idx "ChannelSchedule$Plan" "served" "I" ∈ LW) (hN : 148 ≤ gN G) {p : Nat} (hp : p < 10) (kk : At G X cells slots (pc + 3) lv st (up2 V (aP p) 4 z)) : At G X cells slots pc lv (vI z :: .ref (gB G + aP p) :: st) V := v_pf (T := T1) (K := R1) (n := 15) (sl := 4) (ci := 1) (fs := fsPlan (gB G) (aP p)) C d hl (ad_lo (aP_lt0 hp)) (by have := aP_lt0 hp; omega) (celP_0 hp) oi1 (by omega) rfl rfl (fun _ => Nat.le_of_ble_eq_true rfl) (fun _ => rfl) kk
theorem g_plan_5 {idx : Nat} (C : Cx G X own cc) (d : decode cc pc = .ok (.getfield idx, 3)) (hl : .fieldLink own idx "ChannelSchedule$Plan" "bookings" "I" ∈ LW) (hN : 148 ≤ gN G) {p : Nat} (hp : p < 10) (kk : At G X cells slots (pc + 3) lv (vI (V (aP p) 5) :: st) V) : At G X cells slots pc lv (.ref (gB G + aP p) :: st) V := v_gf (T := T1) (K := R1) (n := 15) (sl := 5) (ci := 1) (fs := fsPlan (gB G) (aP p)) C d hl (ad_lo (aP_lt0 hp)) (by have := aP_lt0 hp; omega) (celP_0 hp) oi1 (by omega) rfl kk
theorem p_plan_5 {idx : Nat} {z : Int} (C : Cx G X own cc) (d : decode cc pc = .ok (.putfield idx, 3)) (hl : .fieldLink own idx "ChannelSchedule$Plan" "bookings" "I" ∈ LW) (hN : 148 ≤ gN G) {p : Nat} (hp : p < 10) (kk : At G X cells slots (pc + 3) lv st (up2 V (aP p) 5 z)) : At G X cells slots pc lv (vI z :: .ref (gB G + aP p) :: st) V := v_pf (T := T1) (K := R1) (n := 15) (sl := 5) (ci := 1) (fs := fsPlan (gB G) (aP p)) C d hl (ad_lo (aP_lt0 hp)) (by have := aP_lt0 hp; omega) (celP_0 hp) oi1 (by omega) rfl rfl (fun _ => Nat.le_of_ble_eq_true rfl) (fun _ => rfl) kk
theorem g_plan_6 {idx : Nat} (C : Cx G X own cc) (d : decode cc pc = .ok (.getfield idx, 3)) (hl : .fieldLink own idx "ChannelSchedule$Plan" "ships" "[I" ∈ LW) (hN : 148 ≤ gN G) {p : Nat} (hp : p < 10) (kk : At G X cells slots (pc + 3) lv (.ref (gB G + (aP p + 1)) :: st) V) : At G X cells slots pc lv (.ref (gB G + aP p) :: st) V := v_gf (T := T1) (K := R1) (n := 15) (sl := 6) (ci := 1) (fs := fsPlan (gB G) (aP p)) C d hl (ad_lo (aP_lt0 hp)) (by have := aP_lt0 hp; omega) (celP_0 hp) oi1 (by omega) rfl kk
theorem g_plan_7 {idx : Nat} (C : Cx G X own cc) (d : decode cc pc = .ok (.getfield idx, 3)) (hl : .fieldLink own idx "ChannelSchedule$Plan" "inbound" "[Z" ∈ LW) (hN : 148 ≤ gN G) {p : Nat} (hp : p < 10) (kk : At G X cells slots (pc + 3) lv (.ref (gB G + (aP p + 2)) :: st) V) : At G X cells slots pc lv (.ref (gB G + aP p) :: st) V := v_gf (T := T1) (K := R1) (n := 15) (sl := 7) (ci := 1) (fs := fsPlan (gB G) (aP p)) C d hl (ad_lo (aP_lt0 hp)) (by have := aP_lt0 hp; omega) (celP_0 hp) oi1 (by omega) rfl kk
theorem g_plan_8 {idx : Nat} (C : Cx G X own cc) (d : decode cc pc = .ok (.getfield idx, 3)) (hl : .fieldLink own idx "ChannelSchedule$Plan" "starts" "[I" ∈ LW) (hN : 148 ≤ gN G) {p : Nat} (hp : p < 10) (kk : At G X cells slots (pc + 3) lv (.ref (gB G + (aP p + 3)) :: st) V) : At G X cells slots pc lv (.ref (gB G + aP p) :: st) V := v_gf (T := T1) (K := R1) (n := 15) (sl := 8) (ci := 1) (fs := fsPlan (gB G) (aP p)) C d hl (ad_lo (aP_lt0 hp)) (by have := aP_lt0 hp; omega) (celP_0 hp) oi1 (by omega) rfl kk
theorem g_plan_9 {idx : Nat} (C : Cx G X own cc) (d : decode cc pc = .ok (.getfield idx, 3)) (hl : .fieldLink own idx "ChannelSchedule$Plan" "ends" "[I" ∈ LW) (hN : 148 ≤ gN G) {p : Nat} (hp : p < 10) (kk : At G X cells slots (pc + 3) lv (.ref (gB G + (aP p + 4)) :: st) V) : At G X cells slots pc lv (.ref (gB G + aP p) :: st) V := v_gf (T := T1) (K := R1) (n := 15) (sl := 9) (ci := 1) (fs := fsPlan (gB G) (aP p)) C d hl (ad_lo (aP_lt0 hp)) (by have := aP_lt0 hp; omega) (celP_0 hp) oi1 (by omega) rfl kk
theorem g_plan_10 {idx : Nat} (C : Cx G X own cc) (d : decode cc pc = .ok (.getfield idx, 3)) (hl : .fieldLink own idx "ChannelSchedule$Plan" "requests" "I" ∈ LW) (hN : 148 ≤ gN G) {p : Nat} (hp : p < 10) (kk : At G X cells slots (pc + 3) lv (vI (V (aP p) 10) :: st) V) : At G X cells slots pc lv (.ref (gB G + aP p) :: st) V := v_gf (T := T1) (K := R1) (n := 15) (sl := 10) (ci := 1) (fs := fsPlan (gB G) (aP p)) C d hl (ad_lo (aP_lt0 hp)) (by have := aP_lt0 hp; omega) (celP_0 hp) oi1 (by omega) rfl kk
theorem p_plan_10 {idx : Nat} {z : Int} (C : Cx G X own cc) (d : decode cc pc = .ok (.putfield idx, 3)) (hl : .fieldLink own idx "ChannelSchedule$Plan" "requests" "I" ∈ LW) (hN : 148 ≤ gN G) {p : Nat} (hp : p < 10) (kk : At G X cells slots (pc + 3) lv st (up2 V (aP p) 10 z)) : At G X cells slots pc lv (vI z :: .ref (gB G + aP p) :: st) V := v_pf (T := T1) (K := R1) (n := 15) (sl := 10) (ci := 1) (fs := fsPlan (gB G) (aP p)) C d hl (ad_lo (aP_lt0 hp)) (by have := aP_lt0 hp; omega) (celP_0 hp) oi1 (by omega) rfl rfl (fun _ => Nat.le_of_ble_eq_true rfl) (fun _ => rfl) kk
theorem g_plan_11 {idx : Nat} (C : Cx G X own cc) (d : decode cc pc = .ok (.getfield idx, 3)) (hl : .fieldLink own idx "ChannelSchedule$Plan" "waitingShips" "[I" ∈ LW) (hN : 148 ≤ gN G) {p : Nat} (hp : p < 10) (kk : At G X cells slots (pc + 3) lv (.ref (gB G + (aP p + 5)) :: st) V) : At G X cells slots pc lv (.ref (gB G + aP p) :: st) V := v_gf (T := T1) (K := R1) (n := 15) (sl := 11) (ci := 1) (fs := fsPlan (gB G) (aP p)) C d hl (ad_lo (aP_lt0 hp)) (by have := aP_lt0 hp; omega) (celP_0 hp) oi1 (by omega) rfl kk
theorem g_plan_12 {idx : Nat} (C : Cx G X own cc) (d : decode cc pc = .ok (.getfield idx, 3)) (hl : .fieldLink own idx "ChannelSchedule$Plan" "waitingInbound" "[Z" ∈ LW) (hN : 148 ≤ gN G) {p : Nat} (hp : p < 10) (kk : At G X cells slots (pc + 3) lv (.ref (gB G + (aP p + 6)) :: st) V) : At G X cells slots pc lv (.ref (gB G + aP p) :: st) V := v_gf (T := T1) (K := R1) (n := 15) (sl := 12) (ci := 1) (fs := fsPlan (gB G) (aP p)) C d hl (ad_lo (aP_lt0 hp)) (by have := aP_lt0 hp; omega) (celP_0 hp) oi1 (by omega) rfl kk
theorem g_plan_13 {idx : Nat} (C : Cx G X own cc) (d : decode cc pc = .ok (.getfield idx, 3)) (hl : .fieldLink own idx "ChannelSchedule$Plan" "earliest" "[I" ∈ LW) (hN : 148 ≤ gN G) {p : Nat} (hp : p < 10) (kk : At G X cells slots (pc + 3) lv (.ref (gB G + (aP p + 7)) :: st) V) : At G X cells slots pc lv (.ref (gB G + aP p) :: st) V := v_gf (T := T1) (K := R1) (n := 15) (sl := 13) (ci := 1) (fs := fsPlan (gB G) (aP p)) C d hl (ad_lo (aP_lt0 hp)) (by have := aP_lt0 hp; omega) (celP_0 hp) oi1 (by omega) rfl kk
theorem g_plan_14 {idx : Nat} (C : Cx G X own cc) (d : decode cc pc = .ok (.getfield idx, 3)) (hl : .fieldLink own idx "ChannelSchedule$Plan" "latest" "[I" ∈ LW) (hN : 148 ≤ gN G) {p : Nat} (hp : p < 10) (kk : At G X cells slots (pc + 3) lv (.ref (gB G + (aP p + 8)) :: st) V) : At G X cells slots pc lv (.ref (gB G + aP p) :: st) V := v_gf (T := T1) (K := R1) (n := 15) (sl := 14) (ci := 1) (fs := fsPlan (gB G) (aP p)) C d hl (ad_lo (aP_lt0 hp)) (by have := aP_lt0 hp; omega) (celP_0 hp) oi1 (by omega) rfl kk
theorem g_script_0 {idx : Nat} (C : Cx G X own cc) (d : decode cc pc = .ok (.getfield idx, 3)) (hl : .fieldLink own idx "ChannelSchedule$Script" "count" "I" ∈ LW) (hN : 148 ≤ gN G) (kk : At G X cells slots (pc + 3) lv (vI (V 3 0) :: st) V) : At G X cells slots pc lv (.ref (gB G + 3) :: st) V := v_gf (T := T2) (K := R2) (n := 6) (sl := 0) (ci := 2) (fs := fsScript (gB G)) C d hl (ad_lo (by omega)) (by omega) (fun _ => rfl) oi2 (by omega) rfl kk
theorem p_script_0 {idx : Nat} {z : Int} (C : Cx G X own cc) (d : decode cc pc = .ok (.putfield idx, 3)) (hl : .fieldLink own idx "ChannelSchedule$Script" "count" "I" ∈ LW) (hN : 148 ≤ gN G) (kk : At G X cells slots (pc + 3) lv st (up2 V 3 0 z)) : At G X cells slots pc lv (vI z :: .ref (gB G + 3) :: st) V := v_pf (T := T2) (K := R2) (n := 6) (sl := 0) (ci := 2) (fs := fsScript (gB G)) C d hl (ad_lo (by omega)) (by omega) (fun _ => rfl) oi2 (by omega) rfl rfl (fun _ => Nat.le_of_ble_eq_true rfl) (fun _ => rfl) kk
theorem g_script_1 {idx : Nat} (C : Cx G X own cc) (d : decode cc pc = .ok (.getfield idx, 3)) (hl : .fieldLink own idx "ChannelSchedule$Script" "verbs" "[I" ∈ LW) (hN : 148 ≤ gN G) (kk : At G X cells slots (pc + 3) lv (.ref (gB G + 4) :: st) V) : At G X cells slots pc lv (.ref (gB G + 3) :: st) V := v_gf (T := T2) (K := R2) (n := 6) (sl := 1) (ci := 2) (fs := fsScript (gB G)) C d hl (ad_lo (by omega)) (by omega) (fun _ => rfl) oi2 (by omega) rfl kk
theorem g_script_2 {idx : Nat} (C : Cx G X own cc) (d : decode cc pc = .ok (.getfield idx, 3)) (hl : .fieldLink own idx "ChannelSchedule$Script" "ships" "[I" ∈ LW) (hN : 148 ≤ gN G) (kk : At G X cells slots (pc + 3) lv (.ref (gB G + 5) :: st) V) : At G X cells slots pc lv (.ref (gB G + 3) :: st) V := v_gf (T := T2) (K := R2) (n := 6) (sl := 2) (ci := 2) (fs := fsScript (gB G)) C d hl (ad_lo (by omega)) (by omega) (fun _ => rfl) oi2 (by omega) rfl kk
theorem g_script_3 {idx : Nat} (C : Cx G X own cc) (d : decode cc pc = .ok (.getfield idx, 3)) (hl : .fieldLink own idx "ChannelSchedule$Script" "inbound" "[Z" ∈ LW) (hN : 148 ≤ gN G) (kk : At G X cells slots (pc + 3) lv (.ref (gB G + 6) :: st) V) : At G X cells slots pc lv (.ref (gB G + 3) :: st) V := v_gf (T := T2) (K := R2) (n := 6) (sl := 3) (ci := 2) (fs := fsScript (gB G)) C d hl (ad_lo (by omega)) (by omega) (fun _ => rfl) oi2 (by omega) rfl kk
theorem g_script_4 {idx : Nat} (C : Cx G X own cc) (d : decode cc pc = .ok (.getfield idx, 3)) (hl : .fieldLink own idx "ChannelSchedule$Script" "firsts" "[I" ∈ LW) (hN : 148 ≤ gN G) (kk : At G X cells slots (pc + 3) lv (.ref (gB G + 7) :: st) V) : At G X cells slots pc lv (.ref (gB G + 3) :: st) V := v_gf (T := T2) (K := R2) (n := 6) (sl := 4) (ci := 2) (fs := fsScript (gB G)) C d hl (ad_lo (by omega)) (by omega) (fun _ => rfl) oi2 (by omega) rfl kk
theorem g_script_5 {idx : Nat} (C : Cx G X own cc) (d : decode cc pc = .ok (.getfield idx, 3)) (hl : .fieldLink own idx "ChannelSchedule$Script" "seconds" "[I" ∈ LW) (hN : 148 ≤ gN G) (kk : At G X cells slots (pc + 3) lv (.ref (gB G + 8) :: st) V) : At G X cells slots pc lv (.ref (gB G + 3) :: st) V := v_gf (T := T2) (K := R2) (n := 6) (sl := 5) (ci := 2) (fs := fsScript (gB G)) C d hl (ad_lo (by omega)) (by omega) (fun _ => rfl) oi2 (by omega) rfl kk
theorem g_setup_0 {idx : Nat} (C : Cx G X own cc) (d : decode cc pc = .ok (.getfield idx, 3)) (hl : .fieldLink own idx "ChannelSchedule$Setup" "headway" "I" ∈ LW) (hN : 148 ≤ gN G) {q : Nat} (hq : q < 2) (kk : At G X cells slots (pc + 3) lv (vI (V (aS q) 0) :: st) V) : At G X cells slots pc lv (.ref (gB G + aS q) :: st) V := v_gf (T := T3) (K := R3) (n := 5) (sl := 0) (ci := 3) (fs := fsSetup (gB G) (aS q)) C d hl (ad_lo (aS_lt0 hq)) (by have := aS_lt0 hq; omega) (celS_0 hq) oi3 (by omega) rfl kk
theorem p_setup_0 {idx : Nat} {z : Int} (C : Cx G X own cc) (d : decode cc pc = .ok (.putfield idx, 3)) (hl : .fieldLink own idx "ChannelSchedule$Setup" "headway" "I" ∈ LW) (hN : 148 ≤ gN G) {q : Nat} (hq : q < 2) (kk : At G X cells slots (pc + 3) lv st (up2 V (aS q) 0 z)) : At G X cells slots pc lv (vI z :: .ref (gB G + aS q) :: st) V := v_pf (T := T3) (K := R3) (n := 5) (sl := 0) (ci := 3) (fs := fsSetup (gB G) (aS q)) C d hl (ad_lo (aS_lt0 hq)) (by have := aS_lt0 hq; omega) (celS_0 hq) oi3 (by omega) rfl rfl (fun _ => Nat.le_of_ble_eq_true rfl) (fun _ => rfl) kk
theorem g_setup_1 {idx : Nat} (C : Cx G X own cc) (d : decode cc pc = .ok (.getfield idx, 3)) (hl : .fieldLink own idx "ChannelSchedule$Setup" "clearance" "I" ∈ LW) (hN : 148 ≤ gN G) {q : Nat} (hq : q < 2) (kk : At G X cells slots (pc + 3) lv (vI (V (aS q) 1) :: st) V) : At G X cells slots pc lv (.ref (gB G + aS q) :: st) V := v_gf (T := T3) (K := R3) (n := 5) (sl := 1) (ci := 3) (fs := fsSetup (gB G) (aS q)) C d hl (ad_lo (aS_lt0 hq)) (by have := aS_lt0 hq; omega) (celS_0 hq) oi3 (by omega) rfl kk
theorem p_setup_1 {idx : Nat} {z : Int} (C : Cx G X own cc) (d : decode cc pc = .ok (.putfield idx, 3)) (hl : .fieldLink own idx "ChannelSchedule$Setup" "clearance" "I" ∈ LW) (hN : 148 ≤ gN G) {q : Nat} (hq : q < 2) (kk : At G X cells slots (pc + 3) lv st (up2 V (aS q) 1 z)) : At G X cells slots pc lv (vI z :: .ref (gB G + aS q) :: st) V := v_pf (T := T3) (K := R3) (n := 5) (sl := 1) (ci := 3) (fs := fsSetup (gB G) (aS q)) C d hl (ad_lo (aS_lt0 hq)) (by have := aS_lt0 hq; omega) (celS_0 hq) oi3 (by omega) rfl rfl (fun _ => Nat.le_of_ble_eq_true rfl) (fun _ => rfl) kk
theorem g_setup_2 {idx : Nat} (C : Cx G X own cc) (d : decode cc pc = .ok (.getfield idx, 3)) (hl : .fieldLink own idx "ChannelSchedule$Setup" "thickness" "I" ∈ LW) (hN : 148 ≤ gN G) {q : Nat} (hq : q < 2) (kk : At G X cells slots (pc + 3) lv (vI (V (aS q) 2) :: st) V) : At G X cells slots pc lv (.ref (gB G + aS q) :: st) V := v_gf (T := T3) (K := R3) (n := 5) (sl := 2) (ci := 3) (fs := fsSetup (gB G) (aS q)) C d hl (ad_lo (aS_lt0 hq)) (by have := aS_lt0 hq; omega) (celS_0 hq) oi3 (by omega) rfl kk
theorem p_setup_2 {idx : Nat} {z : Int} (C : Cx G X own cc) (d : decode cc pc = .ok (.putfield idx, 3)) (hl : .fieldLink own idx "ChannelSchedule$Setup" "thickness" "I" ∈ LW) (hN : 148 ≤ gN G) {q : Nat} (hq : q < 2) (kk : At G X cells slots (pc + 3) lv st (up2 V (aS q) 2 z)) : At G X cells slots pc lv (vI z :: .ref (gB G + aS q) :: st) V := v_pf (T := T3) (K := R3) (n := 5) (sl := 2) (ci := 3) (fs := fsSetup (gB G) (aS q)) C d hl (ad_lo (aS_lt0 hq)) (by have := aS_lt0 hq; omega) (celS_0 hq) oi3 (by omega) rfl rfl (fun _ => Nat.le_of_ble_eq_true rfl) (fun _ => rfl) kk
theorem g_setup_3 {idx : Nat} (C : Cx G X own cc) (d : decode cc pc = .ok (.getfield idx, 3)) (hl : .fieldLink own idx "ChannelSchedule$Setup" "shipCount" "I" ∈ LW) (hN : 148 ≤ gN G) {q : Nat} (hq : q < 2) (kk : At G X cells slots (pc + 3) lv (vI (V (aS q) 3) :: st) V) : At G X cells slots pc lv (.ref (gB G + aS q) :: st) V := v_gf (T := T3) (K := R3) (n := 5) (sl := 3) (ci := 3) (fs := fsSetup (gB G) (aS q)) C d hl (ad_lo (aS_lt0 hq)) (by have := aS_lt0 hq; omega) (celS_0 hq) oi3 (by omega) rfl kk
theorem p_setup_3 {idx : Nat} {z : Int} (C : Cx G X own cc) (d : decode cc pc = .ok (.putfield idx, 3)) (hl : .fieldLink own idx "ChannelSchedule$Setup" "shipCount" "I" ∈ LW) (hN : 148 ≤ gN G) {q : Nat} (hq : q < 2) (kk : At G X cells slots (pc + 3) lv st (up2 V (aS q) 3 z)) : At G X cells slots pc lv (vI z :: .ref (gB G + aS q) :: st) V := v_pf (T := T3) (K := R3) (n := 5) (sl := 3) (ci := 3) (fs := fsSetup (gB G) (aS q)) C d hl (ad_lo (aS_lt0 hq)) (by have := aS_lt0 hq; omega) (celS_0 hq) oi3 (by omega) rfl rfl (fun _ => Nat.le_of_ble_eq_true rfl) (fun _ => rfl) kk
theorem g_setup_4 {idx : Nat} (C : Cx G X own cc) (d : decode cc pc = .ok (.getfield idx, 3)) (hl : .fieldLink own idx "ChannelSchedule$Setup" "ships" "[LChannelSchedule$Ship;" ∈ LW) (hN : 148 ≤ gN G) {q : Nat} (hq : q < 2) (kk : At G X cells slots (pc + 3) lv (.ref (gB G + (aS q + 1)) :: st) V) : At G X cells slots pc lv (.ref (gB G + aS q) :: st) V := v_gf (T := T3) (K := R3) (n := 5) (sl := 4) (ci := 3) (fs := fsSetup (gB G) (aS q)) C d hl (ad_lo (aS_lt0 hq)) (by have := aS_lt0 hq; omega) (celS_0 hq) oi3 (by omega) rfl kk
theorem g_ship_0 {idx : Nat} (C : Cx G X own cc) (d : decode cc pc = .ok (.getfield idx, 3)) (hl : .fieldLink own idx "ChannelSchedule$Ship" "name" "[B" ∈ LW) (hN : 148 ≤ gN G) {q i : Nat} (hq : q < 2) (hi : i < 10) (kk : At G X cells slots (pc + 3) lv (.ref (gB G + ((aS q + (2 + 2 * i)) + 1)) :: st) V) : At G X cells slots pc lv (.ref (gB G + (aS q + (2 + 2 * i))) :: st) V := v_gf (T := T4) (K := R4) (n := 5) (sl := 0) (ci := 4) (fs := fsShip (gB G) (aS q + (2 + 2 * i))) C d hl (ad_lo (aS_lt (j := 2 + 2 * i) hq (by omega))) (by have := aS_lt (q := q) (j := 2 + 2 * i) hq (by omega); omega) (celS_H hq hi) oi4 (by omega) rfl kk
theorem g_ship_1 {idx : Nat} (C : Cx G X own cc) (d : decode cc pc = .ok (.getfield idx, 3)) (hl : .fieldLink own idx "ChannelSchedule$Ship" "nameLength" "I" ∈ LW) (hN : 148 ≤ gN G) {q i : Nat} (hq : q < 2) (hi : i < 10) (kk : At G X cells slots (pc + 3) lv (vI (V (aS q + (2 + 2 * i)) 1) :: st) V) : At G X cells slots pc lv (.ref (gB G + (aS q + (2 + 2 * i))) :: st) V := v_gf (T := T4) (K := R4) (n := 5) (sl := 1) (ci := 4) (fs := fsShip (gB G) (aS q + (2 + 2 * i))) C d hl (ad_lo (aS_lt (j := 2 + 2 * i) hq (by omega))) (by have := aS_lt (q := q) (j := 2 + 2 * i) hq (by omega); omega) (celS_H hq hi) oi4 (by omega) rfl kk
theorem p_ship_1 {idx : Nat} {z : Int} (C : Cx G X own cc) (d : decode cc pc = .ok (.putfield idx, 3)) (hl : .fieldLink own idx "ChannelSchedule$Ship" "nameLength" "I" ∈ LW) (hN : 148 ≤ gN G) {q i : Nat} (hq : q < 2) (hi : i < 10) (kk : At G X cells slots (pc + 3) lv st (up2 V (aS q + (2 + 2 * i)) 1 z)) : At G X cells slots pc lv (vI z :: .ref (gB G + (aS q + (2 + 2 * i))) :: st) V := v_pf (T := T4) (K := R4) (n := 5) (sl := 1) (ci := 4) (fs := fsShip (gB G) (aS q + (2 + 2 * i))) C d hl (ad_lo (aS_lt (j := 2 + 2 * i) hq (by omega))) (by have := aS_lt (q := q) (j := 2 + 2 * i) hq (by omega); omega) (celS_H hq hi) oi4 (by omega) rfl rfl (fun _ => Nat.le_of_ble_eq_true rfl) (fun _ => rfl) kk
theorem g_ship_2 {idx : Nat} (C : Cx G X own cc) (d : decode cc pc = .ok (.getfield idx, 3)) (hl : .fieldLink own idx "ChannelSchedule$Ship" "time" "I" ∈ LW) (hN : 148 ≤ gN G) {q i : Nat} (hq : q < 2) (hi : i < 10) (kk : At G X cells slots (pc + 3) lv (vI (V (aS q + (2 + 2 * i)) 2) :: st) V) : At G X cells slots pc lv (.ref (gB G + (aS q + (2 + 2 * i))) :: st) V := v_gf (T := T4) (K := R4) (n := 5) (sl := 2) (ci := 4) (fs := fsShip (gB G) (aS q + (2 + 2 * i))) C d hl (ad_lo (aS_lt (j := 2 + 2 * i) hq (by omega))) (by have := aS_lt (q := q) (j := 2 + 2 * i) hq (by omega); omega) (celS_H hq hi) oi4 (by omega) rfl kk
theorem p_ship_2 {idx : Nat} {z : Int} (C : Cx G X own cc) (d : decode cc pc = .ok (.putfield idx, 3)) (hl : .fieldLink own idx "ChannelSchedule$Ship" "time" "I" ∈ LW) (hN : 148 ≤ gN G) {q i : Nat} (hq : q < 2) (hi : i < 10) (kk : At G X cells slots (pc + 3) lv st (up2 V (aS q + (2 + 2 * i)) 2 z)) : At G X cells slots pc lv (vI z :: .ref (gB G + (aS q + (2 + 2 * i))) :: st) V := v_pf (T := T4) (K := R4) (n := 5) (sl := 2) (ci := 4) (fs := fsShip (gB G) (aS q + (2 + 2 * i))) C d hl (ad_lo (aS_lt (j := 2 + 2 * i) hq (by omega))) (by have := aS_lt (q := q) (j := 2 + 2 * i) hq (by omega); omega) (celS_H hq hi) oi4 (by omega) rfl rfl (fun _ => Nat.le_of_ble_eq_true rfl) (fun _ => rfl) kk
theorem g_ship_3 {idx : Nat} (C : Cx G X own cc) (d : decode cc pc = .ok (.getfield idx, 3)) (hl : .fieldLink own idx "ChannelSchedule$Ship" "iceClass" "I" ∈ LW) (hN : 148 ≤ gN G) {q i : Nat} (hq : q < 2) (hi : i < 10) (kk : At G X cells slots (pc + 3) lv (vI (V (aS q + (2 + 2 * i)) 3) :: st) V) : At G X cells slots pc lv (.ref (gB G + (aS q + (2 + 2 * i))) :: st) V := v_gf (T := T4) (K := R4) (n := 5) (sl := 3) (ci := 4) (fs := fsShip (gB G) (aS q + (2 + 2 * i))) C d hl (ad_lo (aS_lt (j := 2 + 2 * i) hq (by omega))) (by have := aS_lt (q := q) (j := 2 + 2 * i) hq (by omega); omega) (celS_H hq hi) oi4 (by omega) rfl kk
theorem p_ship_3 {idx : Nat} {z : Int} (C : Cx G X own cc) (d : decode cc pc = .ok (.putfield idx, 3)) (hl : .fieldLink own idx "ChannelSchedule$Ship" "iceClass" "I" ∈ LW) (hN : 148 ≤ gN G) {q i : Nat} (hq : q < 2) (hi : i < 10) (kk : At G X cells slots (pc + 3) lv st (up2 V (aS q + (2 + 2 * i)) 3 z)) : At G X cells slots pc lv (vI z :: .ref (gB G + (aS q + (2 + 2 * i))) :: st) V := v_pf (T := T4) (K := R4) (n := 5) (sl := 3) (ci := 4) (fs := fsShip (gB G) (aS q + (2 + 2 * i))) C d hl (ad_lo (aS_lt (j := 2 + 2 * i) hq (by omega))) (by have := aS_lt (q := q) (j := 2 + 2 * i) hq (by omega); omega) (celS_H hq hi) oi4 (by omega) rfl rfl (fun _ => Nat.le_of_ble_eq_true rfl) (fun _ => rfl) kk
theorem g_ship_4 {idx : Nat} (C : Cx G X own cc) (d : decode cc pc = .ok (.getfield idx, 3)) (hl : .fieldLink own idx "ChannelSchedule$Ship" "weight" "I" ∈ LW) (hN : 148 ≤ gN G) {q i : Nat} (hq : q < 2) (hi : i < 10) (kk : At G X cells slots (pc + 3) lv (vI (V (aS q + (2 + 2 * i)) 4) :: st) V) : At G X cells slots pc lv (.ref (gB G + (aS q + (2 + 2 * i))) :: st) V := v_gf (T := T4) (K := R4) (n := 5) (sl := 4) (ci := 4) (fs := fsShip (gB G) (aS q + (2 + 2 * i))) C d hl (ad_lo (aS_lt (j := 2 + 2 * i) hq (by omega))) (by have := aS_lt (q := q) (j := 2 + 2 * i) hq (by omega); omega) (celS_H hq hi) oi4 (by omega) rfl kk
theorem p_ship_4 {idx : Nat} {z : Int} (C : Cx G X own cc) (d : decode cc pc = .ok (.putfield idx, 3)) (hl : .fieldLink own idx "ChannelSchedule$Ship" "weight" "I" ∈ LW) (hN : 148 ≤ gN G) {q i : Nat} (hq : q < 2) (hi : i < 10) (kk : At G X cells slots (pc + 3) lv st (up2 V (aS q + (2 + 2 * i)) 4 z)) : At G X cells slots pc lv (vI z :: .ref (gB G + (aS q + (2 + 2 * i))) :: st) V := v_pf (T := T4) (K := R4) (n := 5) (sl := 4) (ci := 4) (fs := fsShip (gB G) (aS q + (2 + 2 * i))) C d hl (ad_lo (aS_lt (j := 2 + 2 * i) hq (by omega))) (by have := aS_lt (q := q) (j := 2 + 2 * i) hq (by omega); omega) (celS_H hq hi) oi4 (by omega) rfl rfl (fun _ => Nat.le_of_ble_eq_true rfl) (fun _ => rfl) kk
theorem g_main_0 {idx : Nat} (C : Cx G X own cc) (d : decode cc pc = .ok (.getfield idx, 3)) (hl : .fieldLink own idx "ChannelSchedule" "input" "LChannelSchedule$Input;" ∈ LW) (hN : 148 ≤ gN G) (kk : At G X cells slots (pc + 3) lv (.ref (gB G + 1) :: st) V) : At G X cells slots pc lv (.ref (gB G + 0) :: st) V := v_gf (T := T5) (K := R5) (n := 14) (sl := 0) (ci := 5) (fs := fsMain (gB G)) C d hl (ad_lo (by omega)) (by omega) (fun _ => rfl) oi5 (by omega) rfl kk
theorem g_main_1 {idx : Nat} (C : Cx G X own cc) (d : decode cc pc = .ok (.getfield idx, 3)) (hl : .fieldLink own idx "ChannelSchedule" "script" "LChannelSchedule$Script;" ∈ LW) (hN : 148 ≤ gN G) (kk : At G X cells slots (pc + 3) lv (.ref (gB G + 3) :: st) V) : At G X cells slots pc lv (.ref (gB G + 0) :: st) V := v_gf (T := T5) (K := R5) (n := 14) (sl := 1) (ci := 5) (fs := fsMain (gB G)) C d hl (ad_lo (by omega)) (by omega) (fun _ => rfl) oi5 (by omega) rfl kk
theorem g_main_2 {idx : Nat} (C : Cx G X own cc) (d : decode cc pc = .ok (.getfield idx, 3)) (hl : .fieldLink own idx "ChannelSchedule" "setup" "LChannelSchedule$Setup;" ∈ LW) (hN : 148 ≤ gN G) (kk : At G X cells slots (pc + 3) lv (.ref (gB G + aS (V 0 2).toNat) :: st) V) : At G X cells slots pc lv (.ref (gB G + 0) :: st) V := v_gf (T := T5) (K := R5) (n := 14) (sl := 2) (ci := 5) (fs := fsMain (gB G)) C d hl (ad_lo (by omega)) (by omega) (fun _ => rfl) oi5 (by omega) rfl kk
theorem g_main_3 {idx : Nat} (C : Cx G X own cc) (d : decode cc pc = .ok (.getfield idx, 3)) (hl : .fieldLink own idx "ChannelSchedule" "draft" "LChannelSchedule$Setup;" ∈ LW) (hN : 148 ≤ gN G) (kk : At G X cells slots (pc + 3) lv (.ref (gB G + aS (V 0 3).toNat) :: st) V) : At G X cells slots pc lv (.ref (gB G + 0) :: st) V := v_gf (T := T5) (K := R5) (n := 14) (sl := 3) (ci := 5) (fs := fsMain (gB G)) C d hl (ad_lo (by omega)) (by omega) (fun _ => rfl) oi5 (by omega) rfl kk
theorem g_main_4 {idx : Nat} (C : Cx G X own cc) (d : decode cc pc = .ok (.getfield idx, 3)) (hl : .fieldLink own idx "ChannelSchedule" "plan" "LChannelSchedule$Plan;" ∈ LW) (hN : 148 ≤ gN G) (kk : At G X cells slots (pc + 3) lv (.ref (gB G + aP 0) :: st) V) : At G X cells slots pc lv (.ref (gB G + 0) :: st) V := v_gf (T := T5) (K := R5) (n := 14) (sl := 4) (ci := 5) (fs := fsMain (gB G)) C d hl (ad_lo (by omega)) (by omega) (fun _ => rfl) oi5 (by omega) rfl kk
theorem g_main_5 {idx : Nat} (C : Cx G X own cc) (d : decode cc pc = .ok (.getfield idx, 3)) (hl : .fieldLink own idx "ChannelSchedule" "kept" "LChannelSchedule$Plan;" ∈ LW) (hN : 148 ≤ gN G) (kk : At G X cells slots (pc + 3) lv (.ref (gB G + aP 1) :: st) V) : At G X cells slots pc lv (.ref (gB G + 0) :: st) V := v_gf (T := T5) (K := R5) (n := 14) (sl := 5) (ci := 5) (fs := fsMain (gB G)) C d hl (ad_lo (by omega)) (by omega) (fun _ => rfl) oi5 (by omega) rfl kk
theorem g_main_6 {idx : Nat} (C : Cx G X own cc) (d : decode cc pc = .ok (.getfield idx, 3)) (hl : .fieldLink own idx "ChannelSchedule" "past" "[LChannelSchedule$Plan;" ∈ LW) (hN : 148 ≤ gN G) (kk : At G X cells slots (pc + 3) lv (.ref (gB G + 71) :: st) V) : At G X cells slots pc lv (.ref (gB G + 0) :: st) V := v_gf (T := T5) (K := R5) (n := 14) (sl := 6) (ci := 5) (fs := fsMain (gB G)) C d hl (ad_lo (by omega)) (by omega) (fun _ => rfl) oi5 (by omega) rfl kk
theorem g_main_7 {idx : Nat} (C : Cx G X own cc) (d : decode cc pc = .ok (.getfield idx, 3)) (hl : .fieldLink own idx "ChannelSchedule" "latestPast" "I" ∈ LW) (hN : 148 ≤ gN G) (kk : At G X cells slots (pc + 3) lv (vI (V 0 7) :: st) V) : At G X cells slots pc lv (.ref (gB G + 0) :: st) V := v_gf (T := T5) (K := R5) (n := 14) (sl := 7) (ci := 5) (fs := fsMain (gB G)) C d hl (ad_lo (by omega)) (by omega) (fun _ => rfl) oi5 (by omega) rfl kk
theorem p_main_7 {idx : Nat} {z : Int} (C : Cx G X own cc) (d : decode cc pc = .ok (.putfield idx, 3)) (hl : .fieldLink own idx "ChannelSchedule" "latestPast" "I" ∈ LW) (hN : 148 ≤ gN G) (kk : At G X cells slots (pc + 3) lv st (up2 V 0 7 z)) : At G X cells slots pc lv (vI z :: .ref (gB G + 0) :: st) V := v_pf (T := T5) (K := R5) (n := 14) (sl := 7) (ci := 5) (fs := fsMain (gB G)) C d hl (ad_lo (by omega)) (by omega) (fun _ => rfl) oi5 (by omega) rfl rfl (fun _ => Nat.le_of_ble_eq_true rfl) (fun _ => rfl) kk
theorem g_main_8 {idx : Nat} (C : Cx G X own cc) (d : decode cc pc = .ok (.getfield idx, 3)) (hl : .fieldLink own idx "ChannelSchedule" "pastCount" "I" ∈ LW) (hN : 148 ≤ gN G) (kk : At G X cells slots (pc + 3) lv (vI (V 0 8) :: st) V) : At G X cells slots pc lv (.ref (gB G + 0) :: st) V := v_gf (T := T5) (K := R5) (n := 14) (sl := 8) (ci := 5) (fs := fsMain (gB G)) C d hl (ad_lo (by omega)) (by omega) (fun _ => rfl) oi5 (by omega) rfl kk
theorem p_main_8 {idx : Nat} {z : Int} (C : Cx G X own cc) (d : decode cc pc = .ok (.putfield idx, 3)) (hl : .fieldLink own idx "ChannelSchedule" "pastCount" "I" ∈ LW) (hN : 148 ≤ gN G) (kk : At G X cells slots (pc + 3) lv st (up2 V 0 8 z)) : At G X cells slots pc lv (vI z :: .ref (gB G + 0) :: st) V := v_pf (T := T5) (K := R5) (n := 14) (sl := 8) (ci := 5) (fs := fsMain (gB G)) C d hl (ad_lo (by omega)) (by omega) (fun _ => rfl) oi5 (by omega) rfl rfl (fun _ => Nat.le_of_ble_eq_true rfl) (fun _ => rfl) kk
theorem g_main_9 {idx : Nat} (C : Cx G X own cc) (d : decode cc pc = .ok (.getfield idx, 3)) (hl : .fieldLink own idx "ChannelSchedule" "saved" "[LChannelSchedule$Plan;" ∈ LW) (hN : 148 ≤ gN G) (kk : At G X cells slots (pc + 3) lv (.ref (gB G + 72) :: st) V) : At G X cells slots pc lv (.ref (gB G + 0) :: st) V := v_gf (T := T5) (K := R5) (n := 14) (sl := 9) (ci := 5) (fs := fsMain (gB G)) C d hl (ad_lo (by omega)) (by omega) (fun _ => rfl) oi5 (by omega) rfl kk
theorem g_main_10 {idx : Nat} (C : Cx G X own cc) (d : decode cc pc = .ok (.getfield idx, 3)) (hl : .fieldLink own idx "ChannelSchedule" "isSaved" "[Z" ∈ LW) (hN : 148 ≤ gN G) (kk : At G X cells slots (pc + 3) lv (.ref (gB G + 73) :: st) V) : At G X cells slots pc lv (.ref (gB G + 0) :: st) V := v_gf (T := T5) (K := R5) (n := 14) (sl := 10) (ci := 5) (fs := fsMain (gB G)) C d hl (ad_lo (by omega)) (by omega) (fun _ => rfl) oi5 (by omega) rfl kk
theorem g_main_11 {idx : Nat} (C : Cx G X own cc) (d : decode cc pc = .ok (.getfield idx, 3)) (hl : .fieldLink own idx "ChannelSchedule" "excluded" "[I" ∈ LW) (hN : 148 ≤ gN G) (kk : At G X cells slots (pc + 3) lv (.ref (gB G + 74) :: st) V) : At G X cells slots pc lv (.ref (gB G + 0) :: st) V := v_gf (T := T5) (K := R5) (n := 14) (sl := 11) (ci := 5) (fs := fsMain (gB G)) C d hl (ad_lo (by omega)) (by omega) (fun _ => rfl) oi5 (by omega) rfl kk
theorem g_main_12 {idx : Nat} (C : Cx G X own cc) (d : decode cc pc = .ok (.getfield idx, 3)) (hl : .fieldLink own idx "ChannelSchedule" "output" "[B" ∈ LW) (hN : 148 ≤ gN G) (kk : At G X cells slots (pc + 3) lv (.ref (gB G + 75) :: st) V) : At G X cells slots pc lv (.ref (gB G + 0) :: st) V := v_gf (T := T5) (K := R5) (n := 14) (sl := 12) (ci := 5) (fs := fsMain (gB G)) C d hl (ad_lo (by omega)) (by omega) (fun _ => rfl) oi5 (by omega) rfl kk
theorem g_main_13 {idx : Nat} (C : Cx G X own cc) (d : decode cc pc = .ok (.getfield idx, 3)) (hl : .fieldLink own idx "ChannelSchedule" "outputLength" "I" ∈ LW) (hN : 148 ≤ gN G) (kk : At G X cells slots (pc + 3) lv (vI (V 0 13) :: st) V) : At G X cells slots pc lv (.ref (gB G + 0) :: st) V := v_gf (T := T5) (K := R5) (n := 14) (sl := 13) (ci := 5) (fs := fsMain (gB G)) C d hl (ad_lo (by omega)) (by omega) (fun _ => rfl) oi5 (by omega) rfl kk
theorem p_main_13 {idx : Nat} {z : Int} (C : Cx G X own cc) (d : decode cc pc = .ok (.putfield idx, 3)) (hl : .fieldLink own idx "ChannelSchedule" "outputLength" "I" ∈ LW) (hN : 148 ≤ gN G) (kk : At G X cells slots (pc + 3) lv st (up2 V 0 13 z)) : At G X cells slots pc lv (vI z :: .ref (gB G + 0) :: st) V := v_pf (T := T5) (K := R5) (n := 14) (sl := 13) (ci := 5) (fs := fsMain (gB G)) C d hl (ad_lo (by omega)) (by omega) (fun _ => rfl) oi5 (by omega) rfl rfl (fun _ => Nat.le_of_ble_eq_true rfl) (fun _ => rfl) kk
theorem g_own_0 {idx : Nat} (C : Cx G X own cc) (d : decode cc pc = .ok (.getfield idx, 3)) (hl : .fieldLink own idx "ChannelScheduleLaw$Own" "x" "LChannelSchedule;" ∈ LW) (hN : 157 ≤ gN G) (kk : At G X cells slots (pc + 3) lv (.ref (gB G + 0) :: st) V) : At G X cells slots pc lv (.ref (gC G + 148) :: st) V := v_gf (T := T6) (K := R6) (n := 12) (sl := 0) (ci := 6) (fs := fsOwn (gB G) (gC G)) C d hl (ad_hi (by omega)) (by omega) (fun _ => rfl) oi6 (by omega) rfl kk
theorem g_own_1 {idx : Nat} (C : Cx G X own cc) (d : decode cc pc = .ok (.getfield idx, 3)) (hl : .fieldLink own idx "ChannelScheduleLaw$Own" "ship" "[I" ∈ LW) (hN : 157 ≤ gN G) (kk : At G X cells slots (pc + 3) lv (.ref (gC G + 149) :: st) V) : At G X cells slots pc lv (.ref (gC G + 148) :: st) V := v_gf (T := T6) (K := R6) (n := 12) (sl := 1) (ci := 6) (fs := fsOwn (gB G) (gC G)) C d hl (ad_hi (by omega)) (by omega) (fun _ => rfl) oi6 (by omega) rfl kk
theorem g_own_2 {idx : Nat} (C : Cx G X own cc) (d : decode cc pc = .ok (.getfield idx, 3)) (hl : .fieldLink own idx "ChannelScheduleLaw$Own" "in" "[Z" ∈ LW) (hN : 157 ≤ gN G) (kk : At G X cells slots (pc + 3) lv (.ref (gC G + 150) :: st) V) : At G X cells slots pc lv (.ref (gC G + 148) :: st) V := v_gf (T := T6) (K := R6) (n := 12) (sl := 2) (ci := 6) (fs := fsOwn (gB G) (gC G)) C d hl (ad_hi (by omega)) (by omega) (fun _ => rfl) oi6 (by omega) rfl kk
theorem g_own_3 {idx : Nat} (C : Cx G X own cc) (d : decode cc pc = .ok (.getfield idx, 3)) (hl : .fieldLink own idx "ChannelScheduleLaw$Own" "start" "[I" ∈ LW) (hN : 157 ≤ gN G) (kk : At G X cells slots (pc + 3) lv (.ref (gC G + 151) :: st) V) : At G X cells slots pc lv (.ref (gC G + 148) :: st) V := v_gf (T := T6) (K := R6) (n := 12) (sl := 3) (ci := 6) (fs := fsOwn (gB G) (gC G)) C d hl (ad_hi (by omega)) (by omega) (fun _ => rfl) oi6 (by omega) rfl kk
theorem g_own_4 {idx : Nat} (C : Cx G X own cc) (d : decode cc pc = .ok (.getfield idx, 3)) (hl : .fieldLink own idx "ChannelScheduleLaw$Own" "end" "[I" ∈ LW) (hN : 157 ≤ gN G) (kk : At G X cells slots (pc + 3) lv (.ref (gC G + 152) :: st) V) : At G X cells slots pc lv (.ref (gC G + 148) :: st) V := v_gf (T := T6) (K := R6) (n := 12) (sl := 4) (ci := 6) (fs := fsOwn (gB G) (gC G)) C d hl (ad_hi (by omega)) (by omega) (fun _ => rfl) oi6 (by omega) rfl kk
theorem g_own_5 {idx : Nat} (C : Cx G X own cc) (d : decode cc pc = .ok (.getfield idx, 3)) (hl : .fieldLink own idx "ChannelScheduleLaw$Own" "many" "I" ∈ LW) (hN : 157 ≤ gN G) (kk : At G X cells slots (pc + 3) lv (vI (V 148 5) :: st) V) : At G X cells slots pc lv (.ref (gC G + 148) :: st) V := v_gf (T := T6) (K := R6) (n := 12) (sl := 5) (ci := 6) (fs := fsOwn (gB G) (gC G)) C d hl (ad_hi (by omega)) (by omega) (fun _ => rfl) oi6 (by omega) rfl kk
theorem p_own_5 {idx : Nat} {z : Int} (C : Cx G X own cc) (d : decode cc pc = .ok (.putfield idx, 3)) (hl : .fieldLink own idx "ChannelScheduleLaw$Own" "many" "I" ∈ LW) (hN : 157 ≤ gN G) (kk : At G X cells slots (pc + 3) lv st (up2 V 148 5 z)) : At G X cells slots pc lv (vI z :: .ref (gC G + 148) :: st) V := v_pf (T := T6) (K := R6) (n := 12) (sl := 5) (ci := 6) (fs := fsOwn (gB G) (gC G)) C d hl (ad_hi (by omega)) (by omega) (fun _ => rfl) oi6 (by omega) rfl rfl (fun _ => Nat.le_of_ble_eq_true rfl) (fun _ => rfl) kk
theorem g_own_6 {idx : Nat} (C : Cx G X own cc) (d : decode cc pc = .ok (.getfield idx, 3)) (hl : .fieldLink own idx "ChannelScheduleLaw$Own" "wantedShip" "[I" ∈ LW) (hN : 157 ≤ gN G) (kk : At G X cells slots (pc + 3) lv (.ref (gC G + 153) :: st) V) : At G X cells slots pc lv (.ref (gC G + 148) :: st) V := v_gf (T := T6) (K := R6) (n := 12) (sl := 6) (ci := 6) (fs := fsOwn (gB G) (gC G)) C d hl (ad_hi (by omega)) (by omega) (fun _ => rfl) oi6 (by omega) rfl kk
theorem g_own_7 {idx : Nat} (C : Cx G X own cc) (d : decode cc pc = .ok (.getfield idx, 3)) (hl : .fieldLink own idx "ChannelScheduleLaw$Own" "wantedIn" "[Z" ∈ LW) (hN : 157 ≤ gN G) (kk : At G X cells slots (pc + 3) lv (.ref (gC G + 154) :: st) V) : At G X cells slots pc lv (.ref (gC G + 148) :: st) V := v_gf (T := T6) (K := R6) (n := 12) (sl := 7) (ci := 6) (fs := fsOwn (gB G) (gC G)) C d hl (ad_hi (by omega)) (by omega) (fun _ => rfl) oi6 (by omega) rfl kk
theorem g_own_8 {idx : Nat} (C : Cx G X own cc) (d : decode cc pc = .ok (.getfield idx, 3)) (hl : .fieldLink own idx "ChannelScheduleLaw$Own" "first" "[I" ∈ LW) (hN : 157 ≤ gN G) (kk : At G X cells slots (pc + 3) lv (.ref (gC G + 155) :: st) V) : At G X cells slots pc lv (.ref (gC G + 148) :: st) V := v_gf (T := T6) (K := R6) (n := 12) (sl := 8) (ci := 6) (fs := fsOwn (gB G) (gC G)) C d hl (ad_hi (by omega)) (by omega) (fun _ => rfl) oi6 (by omega) rfl kk
theorem g_own_9 {idx : Nat} (C : Cx G X own cc) (d : decode cc pc = .ok (.getfield idx, 3)) (hl : .fieldLink own idx "ChannelScheduleLaw$Own" "last" "[I" ∈ LW) (hN : 157 ≤ gN G) (kk : At G X cells slots (pc + 3) lv (.ref (gC G + 156) :: st) V) : At G X cells slots pc lv (.ref (gC G + 148) :: st) V := v_gf (T := T6) (K := R6) (n := 12) (sl := 9) (ci := 6) (fs := fsOwn (gB G) (gC G)) C d hl (ad_hi (by omega)) (by omega) (fun _ => rfl) oi6 (by omega) rfl kk
theorem g_own_10 {idx : Nat} (C : Cx G X own cc) (d : decode cc pc = .ok (.getfield idx, 3)) (hl : .fieldLink own idx "ChannelScheduleLaw$Own" "waiting" "I" ∈ LW) (hN : 157 ≤ gN G) (kk : At G X cells slots (pc + 3) lv (vI (V 148 10) :: st) V) : At G X cells slots pc lv (.ref (gC G + 148) :: st) V := v_gf (T := T6) (K := R6) (n := 12) (sl := 10) (ci := 6) (fs := fsOwn (gB G) (gC G)) C d hl (ad_hi (by omega)) (by omega) (fun _ => rfl) oi6 (by omega) rfl kk
theorem p_own_10 {idx : Nat} {z : Int} (C : Cx G X own cc) (d : decode cc pc = .ok (.putfield idx, 3)) (hl : .fieldLink own idx "ChannelScheduleLaw$Own" "waiting" "I" ∈ LW) (hN : 157 ≤ gN G) (kk : At G X cells slots (pc + 3) lv st (up2 V 148 10 z)) : At G X cells slots pc lv (vI z :: .ref (gC G + 148) :: st) V := v_pf (T := T6) (K := R6) (n := 12) (sl := 10) (ci := 6) (fs := fsOwn (gB G) (gC G)) C d hl (ad_hi (by omega)) (by omega) (fun _ => rfl) oi6 (by omega) rfl rfl (fun _ => Nat.le_of_ble_eq_true rfl) (fun _ => rfl) kk
theorem g_own_11 {idx : Nat} (C : Cx G X own cc) (d : decode cc pc = .ok (.getfield idx, 3)) (hl : .fieldLink own idx "ChannelScheduleLaw$Own" "served" "I" ∈ LW) (hN : 157 ≤ gN G) (kk : At G X cells slots (pc + 3) lv (vI (V 148 11) :: st) V) : At G X cells slots pc lv (.ref (gC G + 148) :: st) V := v_gf (T := T6) (K := R6) (n := 12) (sl := 11) (ci := 6) (fs := fsOwn (gB G) (gC G)) C d hl (ad_hi (by omega)) (by omega) (fun _ => rfl) oi6 (by omega) rfl kk
theorem p_own_11 {idx : Nat} {z : Int} (C : Cx G X own cc) (d : decode cc pc = .ok (.putfield idx, 3)) (hl : .fieldLink own idx "ChannelScheduleLaw$Own" "served" "I" ∈ LW) (hN : 157 ≤ gN G) (kk : At G X cells slots (pc + 3) lv st (up2 V 148 11 z)) : At G X cells slots pc lv (vI z :: .ref (gC G + 148) :: st) V := v_pf (T := T6) (K := R6) (n := 12) (sl := 11) (ci := 6) (fs := fsOwn (gB G) (gC G)) C d hl (ad_hi (by omega)) (by omega) (fun _ => rfl) oi6 (by omega) rfl rfl (fun _ => Nat.le_of_ble_eq_true rfl) (fun _ => rfl) kk
theorem v_pfr {idx k ci n sl a a0 : Nat} {T : u_T} {K : String} {fs : (Nat → Int) → List Value} {z : Int} {ty : FieldType} (C : Cx G X own cc) (d : decode cc pc = .ok (.putfield idx, 3)) (hl : .fieldLink own idx (T sl).1 (T sl).2.1 (T sl).2.2.1 ∈ LW) (ha : ad G k = a0) (hk : k < gN G) (cf : ∀ r, celOf (gB G) (gC G) (gA G) k r = .inr (ci, fs r)) (o : OI ci K T n) (hsl : sl < n) (hfin : (T sl).2.2.2 = false) (hd : parseFieldDescriptor (T sl).2.2.1 = some ty) (hn : narrow ty (.ref a) = .ref a) (hfit : fits ty (.ref a) = true) (hlen : ∀ r, sl < (fs r).length) (hset : ∀ r, (fs r).set sl (.ref a) = fs (updI r sl z))
    (kk : At G X cells slots (pc + 3) lv st (up2 V k sl z)) : At G X cells slots pc lv (.ref a :: .ref a0 :: st) V := by
  refine r_pf C d ha hk (cf _) o hsl hl hfin hd hn hfit (hlen _) (AtH.e (hV_up ?_) kk)
  rw [cf, hset]
theorem p_main_2 {idx q : Nat} (C : Cx G X own cc) (d : decode cc pc = .ok (.putfield idx, 3)) (hl : .fieldLink own idx "ChannelSchedule" "setup" "LChannelSchedule$Setup;" ∈ LW) (hN : 148 ≤ gN G) (kk : At G X cells slots (pc + 3) lv st (up2 V 0 2 (q : Int))) : At G X cells slots pc lv (.ref (gB G + aS q) :: .ref (gB G + 0) :: st) V := v_pfr (T := T5) (K := R5) (n := 14) (sl := 2) (ci := 5) (ty := .object "ChannelSchedule$Setup") (fs := fsMain (gB G)) (z := (q : Int)) C d hl (ad_lo (by omega)) (by omega) (fun _ => rfl) oi5 (by omega) rfl (by decide +kernel) rfl rfl (fun _ => Nat.le_of_ble_eq_true rfl) (fun _ => rfl) kk
theorem p_main_3 {idx q : Nat} (C : Cx G X own cc) (d : decode cc pc = .ok (.putfield idx, 3)) (hl : .fieldLink own idx "ChannelSchedule" "draft" "LChannelSchedule$Setup;" ∈ LW) (hN : 148 ≤ gN G) (kk : At G X cells slots (pc + 3) lv st (up2 V 0 3 (q : Int))) : At G X cells slots pc lv (.ref (gB G + aS q) :: .ref (gB G + 0) :: st) V := v_pfr (T := T5) (K := R5) (n := 14) (sl := 3) (ci := 5) (ty := .object "ChannelSchedule$Setup") (fs := fsMain (gB G)) (z := (q : Int)) C d hl (ad_lo (by omega)) (by omega) (fun _ => rfl) oi5 (by omega) rfl (by decide +kernel) rfl rfl (fun _ => Nat.le_of_ble_eq_true rfl) (fun _ => rfl) kk
end
end
section
/-! ===== BEGIN a constructor that throws (launches without stack traces) ===== -/
section VXIA
variable {p : Program} {l : Launch} {e : Env} {R : Room} {s : State} {m : MethodId} {args : Array Value} {below : List Frame} {meth : Method} {c : Code} {T : State} {locs : List Loc} {cells slots : Nat}
theorem vx_callI (X : Stand p l e R s m args below meth c T locs cells slots) (hexec : p.tables.exec = Jvm.exec) {own : String} {index : Nat} {y : MethodName} {bytes : ByteArray} {maxL : Nat}
    (hown : s.vm.findClass own = some m.cls) (hy1 : y.name = "<init>") (hlink : (Cond.methodLink own index y).before args s = true) (hinst : (Cond.instanceMethod y).before args s = true)
    (hcode : (Cond.code y bytes maxL none).before args s = true) (hy : y.cls ≠ "java/lang/invoke/MethodHandle" ∧ y.cls ≠ "java/lang/invoke/VarHandle")
    {W9 : Nat} {Pre : Pt → Array Value → Prop} {Post : Pt → Array Value → Option Value → Pt → Prop} {PostX : Pt → Array Value → Addr → Pt → Prop} (hK : vx_Back l R p e below s args y 3 W9 Pre Post PostX)
    {g : JFrame} (hg : g.method = m) (hsize : g.locals.size = c.maxLocals) {a : Addr} {argsL rest : List Value} (hlen : ∀ sig, parseMethodDescriptor y.desc = some sig → argsL.length = sig.parameters.length)
    (hstack : g.stack = argsL.reverse ++ .ref a :: rest) (hW : 2 * g.monitorRoom + (rest.map fun v => v.category).sum ≤ W9) (hdg : decode c.code g.pc = .ok (.invokespecial index, 3))
    (hpre : ∀ vm₁, s.WarmedH vm₁ → Pre ⟨T.setVm vm₁, locs, cells, slots⟩ (Value.ref a :: argsL).toArray) :
    (∃ (v : Option Value) (vm₁ : Vm) (B : Pt), s.WarmedH vm₁ ∧ Stand p l e R s m args below meth c B.U B.locs B.cells B.slots ∧ Post ⟨T.setVm vm₁, locs, cells, slots⟩ (Value.ref a :: argsL).toArray v B ∧
      ∀ target, Steps p.tables e below (B.U.setTop { g with pc := g.pc + 3, stack := v.toList ++ rest }) target → Steps p.tables e below (T.setTop g) target) ∨
    (∃ (q : Addr) (vm₁ : Vm) (B : Pt), s.WarmedH vm₁ ∧ Stand p l e R s m args below meth c B.U B.locs B.cells B.slots ∧ PostX ⟨T.setVm vm₁, locs, cells, slots⟩ (Value.ref a :: argsL).toArray q B ∧
      Steps p.tables e below (T.setTop g) ((B.U.setTop { g with stack := rest }).pushFrame (.throwing q))) := by
  subst hg
  have hpl : e.platform.magicAccessors = ({} : Platform).magicAccessors := by rw [X.admits.platform]
  obtain ⟨mk, methM, cM, kP, vm₁, hnamed, hmethM, hcodeM, -, hlocalsM, -, hkP, -, hW₁, hstep₁⟩ := Steps.initColdArgs (e := e) X.here hexec X.warmed hpl hown hy1 hy hlink hinst hcode (f := g) rfl hlen hstack hdg
  have X₁ := X.noted hW₁
  rcases hK g.method meth c ⟨T.setVm vm₁, locs, cells, slots⟩ { g with stack := rest } (.invokespecial index) mk (Value.ref a :: argsL).toArray X₁ rfl hsize hdg hW (X₁.named hnamed) (hpre vm₁ X₁.warmed) with ⟨v, B, X', hpost, hsteps⟩ | ⟨q, B, X', hpost, hsteps⟩
  · exact Or.inl ⟨v, vm₁, B, X₁.warmed, X', hpost, fun target h => hstep₁ _ fun acts => by rw [doInvoke_state]; exact hsteps.trans h⟩
  · exact Or.inr ⟨q, vm₁, B, X₁.warmed, X', hpost, hstep₁ _ fun acts => by rw [doInvoke_state]; exact hsteps⟩
end VXIA
section VXIB
variable {p : Program} {l : Launch} {e : Env} {R : Room} {s : State} {m : MethodId} {args : Array Value} {below : List Frame} {meth : Method} {c : Code} {H : Heap} {locs : List Loc} {cells slots : Nat}
variable {y : MethodName} {bytes cc : ByteArray} {maxL nL mc ms n index : Nat} {ret : Option FieldType} {ws : List Cond} {rm : Room} {Pc : Array Value → State → Prop} {Qc : Array Value → State → Outcome → State → Prop} {XC : String → State → State → Prop} {free : Addr → Prop} {Ts : List Cond} {own C : String} {b : Addr} {As rest : List Value} {g : JFrame}
theorem vx_runI (S : CallFix p m c cc nL s args Ts own) (hM : vx_Met l y ws rm Pc Qc XC mc ms free) (cw : CallB R s args own index y bytes maxL none ws rm mc ms n ∧ y.name = "<init>" ∧ (Cond.instanceMethod y).before args s = true) (hp : PreS s H Pc (.ref b :: As))
    (hg : g.method = m) (hn : As.length = n) (hsize : g.locals.size = nL) (hstack : g.stack = As.reverse ++ .ref b :: rest) (hW : 2 * g.monitorRoom + (rest.map fun v => v.category).sum ≤ 8) (hdg : decode cc g.pc = .ok (.invokespecial index, 3)) (hf : cells + mc ≤ R.cells ∧ slots + ms ≤ R.slots) :
    vx_Run p l e R s m args below meth c H locs cells slots mc ms g rest (Qc (Value.ref b :: As).toArray) XC free := by
  have hK : vx_Back l R p e below s args y 3 8 (PreOf R mc ms Pc) (PostOf Qc mc ms free) (vx_Post XC mc ms free) := vx_callBack cw.1 hM hp.1
  obtain ⟨⟨-, -, -, -, -, -, hcode, -, hy, hlen, hl⟩, hy1, hin⟩ := cw
  obtain ⟨hx, hb, hml, ho, -⟩ := S
  have hPc := hp.2
  intro T hT X
  rcases vx_callI X hx (bytes := bytes) (maxL := maxL) ho hy1 hl hin hcode hy hK hg (hsize.trans hml.symm) (a := b) (argsL := As) (rest := rest) (fun sig h => hn.trans (hlen sig h)) hstack hW (by rw [hb]; exact hdg)
    (fun vm₁ hW₁ => ⟨hf.1, hf.2, hPc (T.setVm vm₁) hT hW₁⟩) with ⟨v, vm₁, ⟨U', l2, c2, s2⟩, hW₁, X', ⟨g', mk, t, L, e1, e2, hq, h1, hL, h2, h3⟩, st⟩ | ⟨q, vm₁, ⟨U', l2, c2, s2⟩, hW₁, X', ⟨g', mk, t, L, E, ce, e1, e2, hq, hce, hcv, hcl, h1, hL, h2, h3⟩, st⟩
  · dsimp only [Pt.U, Pt.locs, Pt.cells, Pt.slots] at X' e1 e2 h1 h2 h3 st
    subst h1; subst h2; subst h3
    exact Or.inl ⟨v, (T.setVm vm₁).calling g' mk (Value.ref b :: As).toArray, t, U', L, hT, X', hL, e1, e2, hq, st⟩
  · dsimp only [Pt.U, Pt.locs, Pt.cells, Pt.slots] at X' e1 e2 h1 h2 h3 st hcl
    subst h1; subst h2; subst h3
    exact Or.inr ⟨q, (T.setVm vm₁).calling g' mk (Value.ref b :: As).toArray, t, U', L, E, ce, hT, X', hL, e1, e2, hq, hce, hcv, vx_cls hW₁ hcl, st⟩
end VXIB
/-! ===== END ===== -/
/-! ===== BEGIN a private constructor of a nest mate that throws ===== -/
section VXIC
variable {p : Program} {l : Launch} {e : Env} {R : Room} {s : State} {m : MethodId} {args : Array Value} {below : List Frame} {meth : Method} {c : Code} {T : State} {locs : List Loc} {cells slots : Nat}
theorem vx_callIN (X : Stand p l e R s m args below meth c T locs cells slots) (hexec : p.tables.exec = Jvm.exec) {own : String} {index : Nat} {host : String} {y : MethodName} {bytes : ByteArray} {maxL : Nat}
    (hown : s.vm.findClass own = some m.cls) (hy1 : y.name = "<init>") (hlink : (Cond.methodLinkNest own index y host).before args s = true) (hinst : (Cond.instanceMethod y).before args s = true)
    (hcode : (Cond.code y bytes maxL none).before args s = true) (hy : y.cls ≠ "java/lang/invoke/MethodHandle" ∧ y.cls ≠ "java/lang/invoke/VarHandle")
    {W9 : Nat} {Pre : Pt → Array Value → Prop} {Post : Pt → Array Value → Option Value → Pt → Prop} {PostX : Pt → Array Value → Addr → Pt → Prop} (hK : vx_Back l R p e below s args y 3 W9 Pre Post PostX)
    {g : JFrame} (hg : g.method = m) (hsize : g.locals.size = c.maxLocals) {a : Addr} {argsL rest : List Value} (hlen : ∀ sig, parseMethodDescriptor y.desc = some sig → argsL.length = sig.parameters.length)
    (hstack : g.stack = argsL.reverse ++ .ref a :: rest) (hW : 2 * g.monitorRoom + (rest.map fun v => v.category).sum ≤ W9) (hdg : decode c.code g.pc = .ok (.invokespecial index, 3))
    (hpre : ∀ vm₁, s.WarmedH vm₁ → Pre ⟨T.setVm vm₁, locs, cells, slots⟩ (Value.ref a :: argsL).toArray) :
    (∃ (v : Option Value) (vm₁ : Vm) (B : Pt), s.WarmedH vm₁ ∧ Stand p l e R s m args below meth c B.U B.locs B.cells B.slots ∧ Post ⟨T.setVm vm₁, locs, cells, slots⟩ (Value.ref a :: argsL).toArray v B ∧
      ∀ target, Steps p.tables e below (B.U.setTop { g with pc := g.pc + 3, stack := v.toList ++ rest }) target → Steps p.tables e below (T.setTop g) target) ∨
    (∃ (q : Addr) (vm₁ : Vm) (B : Pt), s.WarmedH vm₁ ∧ Stand p l e R s m args below meth c B.U B.locs B.cells B.slots ∧ PostX ⟨T.setVm vm₁, locs, cells, slots⟩ (Value.ref a :: argsL).toArray q B ∧
      Steps p.tables e below (T.setTop g) ((B.U.setTop { g with stack := rest }).pushFrame (.throwing q))) := by
  subst hg
  have hpl : e.platform.magicAccessors = ({} : Platform).magicAccessors := by rw [X.admits.platform]
  obtain ⟨mk, methM, cM, kP, vm₁, hnamed, hmethM, hcodeM, -, hlocalsM, -, hkP, -, hW₁, hstep₁⟩ := Steps.initColdArgsNest (e := e) X.here hexec X.warmed hpl hown hy1 hy hlink hinst hcode (f := g) rfl hlen hstack hdg
  have X₁ := X.noted hW₁
  rcases hK g.method meth c ⟨T.setVm vm₁, locs, cells, slots⟩ { g with stack := rest } (.invokespecial index) mk (Value.ref a :: argsL).toArray X₁ rfl hsize hdg hW (X₁.named hnamed) (hpre vm₁ X₁.warmed) with ⟨v, B, X', hpost, hsteps⟩ | ⟨q, B, X', hpost, hsteps⟩
  · exact Or.inl ⟨v, vm₁, B, X₁.warmed, X', hpost, fun target h => hstep₁ _ fun acts => by rw [doInvoke_state]; exact hsteps.trans h⟩
  · exact Or.inr ⟨q, vm₁, B, X₁.warmed, X', hpost, hstep₁ _ fun acts => by rw [doInvoke_state]; exact hsteps⟩
end VXIC
section VXID
variable {p : Program} {l : Launch} {e : Env} {R : Room} {s : State} {m : MethodId} {args : Array Value} {below : List Frame} {meth : Method} {c : Code} {H : Heap} {locs : List Loc} {cells slots : Nat}
theorem vx_runIN {y : MethodName} {bytes cc : ByteArray} {maxL nL mc ms n index : Nat} {ws : List Cond} {rm : Room} {Pc : Array Value → State → Prop} {Qc : Array Value → State → Outcome → State → Prop} {XC : String → State → State → Prop} {free : Addr → Prop} {Ts : List Cond} {own host : String} {b : Addr} {As rest : List Value} {g : JFrame}
    (S : CallFix p m c cc nL s args Ts own) (hM : vx_Met l y ws rm Pc Qc XC mc ms free) (cw : va_CN R s args own index y host bytes maxL none ws rm mc ms n ∧ y.name = "<init>" ∧ (Cond.instanceMethod y).before args s = true) (hp : PreS s H Pc (.ref b :: As))
    (hg : g.method = m) (hn : As.length = n) (hsize : g.locals.size = nL) (hstack : g.stack = As.reverse ++ .ref b :: rest) (hW : 2 * g.monitorRoom + (rest.map fun v => v.category).sum ≤ 8) (hdg : decode cc g.pc = .ok (.invokespecial index, 3)) (hf : cells + mc ≤ R.cells ∧ slots + ms ≤ R.slots) :
    vx_Run p l e R s m args below meth c H locs cells slots mc ms g rest (Qc (Value.ref b :: As).toArray) XC free := by
  obtain ⟨⟨⟨hrc, hrs, hfr, hlo, hws, hcw⟩, hcode, hini, hy, hlen, hl⟩, hx1, hx2⟩ := cw
  have hK : vx_Back l R p e below s args y 3 8 (PreOf R mc ms Pc) (PostOf Qc mc ms free) (vx_Post XC mc ms free) := vx_back (bytes := bytes) (maxL := maxL) (ret := none) hM hp.1 hrc hrs hfr hlo hws hcw (fun a' U hW => word_at hW (Or.inl (by first | rfl | simp [Cond.onTables, Cond.keeps, Cond.steady])) hini)
  obtain ⟨hx, hb, hml, ho, -⟩ := S
  have hPc := hp.2
  intro T hT X
  rcases vx_callIN X hx (bytes := bytes) (maxL := maxL) ho hx1 hl hx2 hcode hy hK hg (hsize.trans hml.symm) (a := b) (argsL := As) (rest := rest) (fun sig h => hn.trans (hlen sig h)) hstack hW (by rw [hb]; exact hdg)
    (fun vm₁ hW₁ => ⟨hf.1, hf.2, hPc (T.setVm vm₁) hT hW₁⟩) with ⟨v, vm₁, ⟨U', l2, c2, s2⟩, hW₁, X', ⟨g', mk, t, L, e1, e2, hq, h1, hL, h2, h3⟩, st⟩ | ⟨q, vm₁, ⟨U', l2, c2, s2⟩, hW₁, X', ⟨g', mk, t, L, E, ce, e1, e2, hq, hce, hcv, hcl, h1, hL, h2, h3⟩, st⟩
  · dsimp only [Pt.U, Pt.locs, Pt.cells, Pt.slots] at X' e1 e2 h1 h2 h3 st
    subst h1; subst h2; subst h3
    exact Or.inl ⟨v, (T.setVm vm₁).calling g' mk (Value.ref b :: As).toArray, t, U', L, hT, X', hL, e1, e2, hq, st⟩
  · dsimp only [Pt.U, Pt.locs, Pt.cells, Pt.slots] at X' e1 e2 h1 h2 h3 st hcl
    subst h1; subst h2; subst h3
    exact Or.inr ⟨q, (T.setVm vm₁).calling g' mk (Value.ref b :: As).toArray, t, U', L, E, ce, hT, X', hL, e1, e2, hq, hce, hcv, vx_cls hW₁ hcl, st⟩
end VXID
/-! ===== END ===== -/
/-! ===== BEGIN a method of a class above, found by the receiver, that may throw (follows va_callVU, va_runU of this kit) ===== -/
section
variable {p : Program} {l : Launch} {e : Env} {R : Room} {s : State} {m : MethodId} {args : Array Value} {below : List Frame} {meth : Method} {c : Code} {H : Heap} {locs : List Loc} {cells slots : Nat}
theorem vx_callVU {T : State} {locs : List Loc} {cells slots : Nat} (X : Stand p l e R s m args below meth c T locs cells slots) (hexec : p.tables.exec = Jvm.exec) {own C owner : String} {index : Nat} {x y : MethodName} {bytes : ByteArray} {maxL : Nat} {ret : Option FieldType}
    (hown : s.vm.findClass own = some m.cls) (hlink : (Cond.methodLink own index x).before args s = true) (hsame : (Cond.sameMethod x.cls owner x.name x.desc).before args s = true)
    (hd0 : va_Decl s ⟨owner, x.name, x.desc⟩) (howner : owner ≠ "java/lang/invoke/MethodHandle" ∧ owner ≠ "java/lang/invoke/VarHandle")
    (hsel : (Cond.selects C x y).before args s = true) (hinst : (Cond.instanceMethod y).before args s = true) (hcode : (Cond.code y bytes maxL ret).before args s = true)
    {W : Nat} {Pre : Pt → Array Value → Prop} {Post : Pt → Array Value → Option Value → Pt → Prop} {PostX : Pt → Array Value → Addr → Pt → Prop} (hK : vx_Back l R p e below s args y 3 W Pre Post PostX)
    {b : Addr} {cellB : Cell} (hcell : T.heap[b]? = some cellB) (hobj : cellB.vm.isStatics = false) (hcls : s.vm.findClass C = some cellB.cls)
    {g : JFrame} (hg : g.method = m) (hsize : g.locals.size = c.maxLocals) {argsL rest : List Value} (hlen : ∀ sig, parseMethodDescriptor x.desc = some sig → argsL.length = sig.parameters.length)
    (hstack : g.stack = argsL.reverse ++ .ref b :: rest) (hW : 2 * g.monitorRoom + (rest.map fun v => v.category).sum ≤ W) (hdg : decode c.code g.pc = .ok (.invokevirtual index, 3))
    (hpre : ∀ vm₁, s.WarmedH vm₁ → Pre ⟨T.setVm vm₁, locs, cells, slots⟩ (Value.ref b :: argsL).toArray) :
    (∃ (v : Option Value) (vm₁ : Vm) (B : Pt), s.WarmedH vm₁ ∧ Stand p l e R s m args below meth c B.U B.locs B.cells B.slots ∧ Post ⟨T.setVm vm₁, locs, cells, slots⟩ (Value.ref b :: argsL).toArray v B ∧
      ∀ target, Steps p.tables e below (B.U.setTop { g with pc := g.pc + 3, stack := v.toList ++ rest }) target → Steps p.tables e below (T.setTop g) target) ∨
    (∃ (q : Addr) (vm₁ : Vm) (B : Pt), s.WarmedH vm₁ ∧ Stand p l e R s m args below meth c B.U B.locs B.cells B.slots ∧ PostX ⟨T.setVm vm₁, locs, cells, slots⟩ (Value.ref b :: argsL).toArray q B ∧
      Steps p.tables e below (T.setTop g) ((B.U.setTop { g with stack := rest }).pushFrame (.throwing q))) := by
  obtain ⟨r0, r, hn, hrm, hstR, hsigR⟩ := hd0
  obtain ⟨cn, ck, r1, hcn, hck, hni, hf, hn1⟩ := Cond.sameMethod_found hsame
  cases hn.symm.trans hn1
  obtain ⟨mk, methM, hnamed, hmethM, -, habM⟩ := Cond.instanceMethod_spec hinst
  obtain ⟨c2, r2, m2, q1, q2, q3, q4, kP, hkP, hkPi⟩ := Cond.selects_spec hsel
  cases hcls.symm.trans q1
  cases hf.symm.trans q2
  cases hnamed.symm.trans q3
  have hselP : selectMethod e.platform s.vm cellB.cls r0 = .method mk := by rw [Launch.admits_selectMethod X.admits]; exact q4
  obtain ⟨vm₁, X₁, hstep₁⟩ := X.invokevirtualUp hexec hown hlink hsame howner hn hrm hstR (a := b) (cell := cellB) hcell
    (fun z h => by rw [h] at hobj; cases hobj) hselP hmethM habM hkP hkPi (g := g) hg (argsL := argsL) (rest := rest) (hlen _ hsigR) hstack hdg
  rcases hK m meth c ⟨T.setVm vm₁, locs, cells, slots⟩ { g with stack := rest } (.invokevirtual index) mk (Value.ref b :: argsL).toArray X₁ hg hsize hdg hW (X₁.named hnamed) (hpre vm₁ X₁.warmed) with ⟨v, B, X', hpost, hsteps⟩ | ⟨q, B, X', hpost, hsteps⟩
  · exact Or.inl ⟨v, vm₁, B, X₁.warmed, X', hpost, fun target h => hstep₁ _ fun acts => by rw [doInvoke_state]; exact hsteps.trans h⟩
  · exact Or.inr ⟨q, vm₁, B, X₁.warmed, X', hpost, hstep₁ _ fun acts => by rw [doInvoke_state]; exact hsteps⟩
theorem vx_runU {x y : MethodName} {bytes cc : ByteArray} {maxL nL mc ms n index : Nat} {ret : Option FieldType} {ws : List Cond} {rm : Room} {Pc : Array Value → State → Prop} {Qc : Array Value → State → Outcome → State → Prop} {XC : String → State → State → Prop} {free : Addr → Prop} {Ts : List Cond} {own C owner : String} {b : Addr} {As rest : List Value} {g : JFrame}
    (S : CallFix p m c cc nL s args Ts own) (hM : vx_Met l y ws rm Pc Qc XC mc ms free) (cw : va_CU R s args own C owner index x y bytes maxL ret ws rm mc ms n) (hp : PreV s H C b Pc As)
    (hg : g.method = m) (hn : As.length = n) (hsize : g.locals.size = nL) (hstack : g.stack = As.reverse ++ .ref b :: rest) (hW : 2 * g.monitorRoom + (rest.map fun v => v.category).sum ≤ 8) (hdg : decode cc g.pc = .ok (.invokevirtual index, 3)) (hf : cells + mc ≤ R.cells ∧ slots + ms ≤ R.slots) :
    vx_Run p l e R s m args below meth c H locs cells slots mc ms g rest (Qc (Value.ref b :: As).toArray) XC free := by
  obtain ⟨hrc, hrs, hfr, hlo, hws, hcw⟩ := cw.back
  have hini := cw.init
  have hK : vx_Back l R p e below s args y 3 8 (PreOf R mc ms Pc) (PostOf Qc mc ms free) (vx_Post XC mc ms free) := vx_back (bytes := bytes) (maxL := maxL) (ret := ret) hM hp.1 hrc hrs hfr hlo hws hcw (fun a' U hW => word_at hW (Or.inl (by first | rfl | simp [Cond.onTables, Cond.keeps, Cond.steady])) hini)
  obtain ⟨hx, hb, hml, ho, -⟩ := S
  obtain ⟨-, ⟨cellB, hcB, hoB, hclB⟩, hPc⟩ := hp
  intro T hT X
  rcases vx_callVU X hx (C := C) (owner := owner) (bytes := bytes) (maxL := maxL) (ret := ret) ho cw.link cw.same cw.decl cw.notMH cw.sel cw.inst cw.code hK (by rw [hT]; exact hcB) hoB hclB hg (hsize.trans hml.symm) (argsL := As) (rest := rest) (fun sig h => hn.trans (cw.len sig h)) hstack hW (by rw [hb]; exact hdg)
    (fun vm₁ hW₁ => ⟨hf.1, hf.2, hPc (T.setVm vm₁) hT hW₁⟩) with ⟨v, vm₁, ⟨U', l2, c2, s2⟩, hW₁, X', ⟨g', mk, t, L, e1, e2, hq, h1, hL, h2, h3⟩, st⟩ | ⟨q, vm₁, ⟨U', l2, c2, s2⟩, hW₁, X', ⟨g', mk, t, L, E, ce, e1, e2, hq, hce, hcv, hcl, h1, hL, h2, h3⟩, st⟩
  · dsimp only [Pt.U, Pt.locs, Pt.cells, Pt.slots] at X' e1 e2 h1 h2 h3 st
    subst h1; subst h2; subst h3
    exact Or.inl ⟨v, (T.setVm vm₁).calling g' mk (Value.ref b :: As).toArray, t, U', L, hT, X', hL, e1, e2, hq, st⟩
  · dsimp only [Pt.U, Pt.locs, Pt.cells, Pt.slots] at X' e1 e2 h1 h2 h3 st hcl
    subst h1; subst h2; subst h3
    exact Or.inr ⟨q, (T.setVm vm₁).calling g' mk (Value.ref b :: As).toArray, t, U', L, E, ce, hT, X', hL, e1, e2, hq, hce, hcv, vx_cls hW₁ hcl, st⟩
end
/-! ===== END ===== -/
/-! ===== BEGIN super.m(..) that may throw (follows va_callSU, va_runSU) ===== -/
section
variable {p : Program} {l : Launch} {e : Env} {R : Room} {s : State} {m : MethodId} {args : Array Value} {below : List Frame} {meth : Method} {c : Code} {H : Heap} {locs : List Loc} {cells slots : Nat}
theorem vx_callSU {T : State} {locs : List Loc} {cells slots : Nat} (X : Stand p l e R s m args below meth c T locs cells slots) (hexec : p.tables.exec = Jvm.exec) {own : String} {index : Nat} {y : MethodName} {bytes : ByteArray} {maxL : Nat} {ret : Option FieldType}
    (hown : s.vm.findClass own = some m.cls) (hlink : (Cond.methodLink own index y).before args s = true) (hsame : (Cond.sameMethod y.cls y.cls y.name y.desc).before args s = true) (hsup : (Cond.superclass own y.cls).before args s = true)
    (hinst : (Cond.instanceMethod y).before args s = true) (hcode : (Cond.code y bytes maxL ret).before args s = true) (hno : y.name ≠ "<init>")
    {W : Nat} {Pre : Pt → Array Value → Prop} {Post : Pt → Array Value → Option Value → Pt → Prop} {PostX : Pt → Array Value → Addr → Pt → Prop} (hK : vx_Back l R p e below s args y 3 W Pre Post PostX)
    {b : Addr} {cellB : Cell} {kB : Class} (hcell : T.heap[b]? = some cellB) (hobj : cellB.vm.isStatics = false) (hkB : s.vm.classes[cellB.cls]? = some kB)
    {g : JFrame} (hg : g.method = m) (hsize : g.locals.size = c.maxLocals) {argsL rest : List Value} (hlen : ∀ sig, parseMethodDescriptor y.desc = some sig → argsL.length = sig.parameters.length)
    (hstack : g.stack = argsL.reverse ++ .ref b :: rest) (hW : 2 * g.monitorRoom + (rest.map fun v => v.category).sum ≤ W) (hdg : decode c.code g.pc = .ok (.invokespecial index, 3))
    (hpre : ∀ vm₁, s.WarmedH vm₁ → Pre ⟨T.setVm vm₁, locs, cells, slots⟩ (Value.ref b :: argsL).toArray) :
    (∃ (v : Option Value) (vm₁ : Vm) (B : Pt), s.WarmedH vm₁ ∧ Stand p l e R s m args below meth c B.U B.locs B.cells B.slots ∧ Post ⟨T.setVm vm₁, locs, cells, slots⟩ (Value.ref b :: argsL).toArray v B ∧
      ∀ target, Steps p.tables e below (B.U.setTop { g with pc := g.pc + 3, stack := v.toList ++ rest }) target → Steps p.tables e below (T.setTop g) target) ∨
    (∃ (q : Addr) (vm₁ : Vm) (B : Pt), s.WarmedH vm₁ ∧ Stand p l e R s m args below meth c B.U B.locs B.cells B.slots ∧ PostX ⟨T.setVm vm₁, locs, cells, slots⟩ (Value.ref b :: argsL).toArray q B ∧
      Steps p.tables e below (T.setTop g) ((B.U.setTop { g with stack := rest }).pushFrame (.throwing q))) := by
  obtain ⟨mk, methM, hnamed, hmethM, hstM, habM⟩ := Cond.instanceMethod_spec hinst
  obtain ⟨methM', cM, hmethM', -, -, -, -, -, -, hsigM⟩ := Cond.code_spec hnamed hcode
  cases hmethM.symm.trans hmethM'
  obtain ⟨ps, dk, kp, hps, hdk, hkp, hsuper, -, -, hnid⟩ := Cond.superclass_spec hown hsup
  have hn : s.methodNamed? ⟨y.cls, y.name, y.desc⟩ = some mk := hnamed
  have hpm : ps = mk.cls := Option.some.inj (hps.symm.trans (findClass_of_methodNamed hnamed))
  have hsub : s.vm.isSubclass ps mk.cls = true := by rw [hpm]; simp [Vm.isSubclass, Vm.isSubclassAux]
  obtain ⟨vm₁, X₁, hstep₁⟩ := X.invokespecialUp hexec hown hlink hsame hn hmethM hstM habM hno hdk hnid hps hsuper hsub (a := b) (cell := cellB) hcell
    (fun z h => by rw [h] at hobj; cases hobj) hkB (g := g) hg (argsL := argsL) (rest := rest) (hlen _ hsigM) hstack hdg
  rcases hK m meth c ⟨T.setVm vm₁, locs, cells, slots⟩ { g with stack := rest } (.invokespecial index) mk (Value.ref b :: argsL).toArray X₁ hg hsize hdg hW (X₁.named hnamed) (hpre vm₁ X₁.warmed) with ⟨v, B, X', hpost, hsteps⟩ | ⟨q, B, X', hpost, hsteps⟩
  · exact Or.inl ⟨v, vm₁, B, X₁.warmed, X', hpost, fun target h => hstep₁ _ (by rw [doInvoke_state]; exact hsteps.trans h)⟩
  · exact Or.inr ⟨q, vm₁, B, X₁.warmed, X', hpost, hstep₁ _ (by rw [doInvoke_state]; exact hsteps)⟩
theorem vx_runSU {y : MethodName} {bytes cc : ByteArray} {maxL nL mc ms n index : Nat} {ret : Option FieldType} {ws : List Cond} {rm : Room} {Pc : Array Value → State → Prop} {Qc : Array Value → State → Outcome → State → Prop} {XC : String → State → State → Prop} {free : Addr → Prop} {Ts : List Cond} {own C : String} {cC : ClassId} {b : Addr} {As rest : List Value} {g : JFrame}
    (hat : ClassAt s C cC) (S : CallFix p m c cc nL s args Ts own) (hM : vx_Met l y ws rm Pc Qc XC mc ms free) (cw : va_CS R s args own index y bytes maxL ret ws rm mc ms n) (hp : PreV s H C b Pc As)
    (hg : g.method = m) (hn : As.length = n) (hsize : g.locals.size = nL) (hstack : g.stack = As.reverse ++ .ref b :: rest) (hW : 2 * g.monitorRoom + (rest.map fun v => v.category).sum ≤ 8) (hdg : decode cc g.pc = .ok (.invokespecial index, 3)) (hf : cells + mc ≤ R.cells ∧ slots + ms ≤ R.slots) :
    vx_Run p l e R s m args below meth c H locs cells slots mc ms g rest (Qc (Value.ref b :: As).toArray) XC free := by
  obtain ⟨⟨hrc, hrs, hfr, hlo, hws, hcw⟩, hl1, hl2, hl3, hl4, hini, hcode, hno, hlen⟩ := cw
  have hK : vx_Back l R p e below s args y 3 8 (PreOf R mc ms Pc) (PostOf Qc mc ms free) (vx_Post XC mc ms free) := vx_back (bytes := bytes) (maxL := maxL) (ret := ret) hM hp.1 hrc hrs hfr hlo hws hcw (fun a' U hW => word_at hW (Or.inl (by first | rfl | simp [Cond.onTables, Cond.keeps, Cond.steady])) hini)
  obtain ⟨hx, hb, hml, ho, -⟩ := S
  obtain ⟨-, ⟨cellB, hcB, hoB, hclB⟩, hPc⟩ := hp
  obtain ⟨hfc, kB, hkB, -⟩ := hat
  cases hfc.symm.trans hclB
  intro T hT X
  rcases vx_callSU X hx (bytes := bytes) (maxL := maxL) (ret := ret) ho hl1 hl2 hl3 hl4 hcode hno hK (by rw [hT]; exact hcB) hoB hkB hg (hsize.trans hml.symm) (argsL := As) (rest := rest) (fun sig h => hn.trans (hlen sig h)) hstack hW (by rw [hb]; exact hdg)
    (fun vm₁ hW₁ => ⟨hf.1, hf.2, hPc (T.setVm vm₁) hT hW₁⟩) with ⟨v, vm₁, ⟨U', l2, c2, s2⟩, hW₁, X', ⟨g', mk, t, L, e1, e2, hq, h1, hL, h2, h3⟩, st⟩ | ⟨q, vm₁, ⟨U', l2, c2, s2⟩, hW₁, X', ⟨g', mk, t, L, E, ce, e1, e2, hq, hce, hcv, hcl, h1, hL, h2, h3⟩, st⟩
  · dsimp only [Pt.U, Pt.locs, Pt.cells, Pt.slots] at X' e1 e2 h1 h2 h3 st
    subst h1; subst h2; subst h3
    exact Or.inl ⟨v, (T.setVm vm₁).calling g' mk (Value.ref b :: As).toArray, t, U', L, hT, X', hL, e1, e2, hq, st⟩
  · dsimp only [Pt.U, Pt.locs, Pt.cells, Pt.slots] at X' e1 e2 h1 h2 h3 st hcl
    subst h1; subst h2; subst h3
    exact Or.inr ⟨q, (T.setVm vm₁).calling g' mk (Value.ref b :: As).toArray, t, U', L, E, ce, hT, X', hL, e1, e2, hq, hce, hcv, vx_cls hW₁ hcl, st⟩
end
/-! ===== END ===== -/
/-! ===== BEGIN a private method of a nest mate that may throw (follows va_callVN, va_callSN, va_runVN, va_runSN) ===== -/
section
variable {p : Program} {l : Launch} {e : Env} {R : Room} {s : State} {m : MethodId} {args : Array Value} {below : List Frame} {meth : Method} {c : Code} {H : Heap} {locs : List Loc} {cells slots : Nat}
variable {T : State}
theorem vx_callVN (X : Stand p l e R s m args below meth c T locs cells slots) (hexec : p.tables.exec = Jvm.exec) {own C : String} {index : Nat} {host : String} {y : MethodName} {bytes : ByteArray} {maxL : Nat} {ret : Option FieldType}
    (hown : s.vm.findClass own = some m.cls) (hlink : (Cond.methodLinkNest own index y host).before args s = true) (hinst : (Cond.instanceMethod y).before args s = true) (hsel : (Cond.selects C y y).before args s = true)
    (hcode : (Cond.code y bytes maxL ret).before args s = true) (hy : y.cls ≠ "java/lang/invoke/MethodHandle" ∧ y.cls ≠ "java/lang/invoke/VarHandle")
    {W : Nat} {Pre : Pt → Array Value → Prop} {Post : Pt → Array Value → Option Value → Pt → Prop} {PostX : Pt → Array Value → Addr → Pt → Prop} (hK : vx_Back l R p e below s args y 3 W Pre Post PostX)
    {b : Addr} {cellB : Cell} (hcell : T.heap[b]? = some cellB) (hobj : cellB.vm.isStatics = false) (hcls : s.vm.findClass C = some cellB.cls)
    {g : JFrame} (hg : g.method = m) (hsize : g.locals.size = c.maxLocals) {argsL rest : List Value} (hlen : ∀ sig, parseMethodDescriptor y.desc = some sig → argsL.length = sig.parameters.length)
    (hstack : g.stack = argsL.reverse ++ .ref b :: rest) (hW : 2 * g.monitorRoom + (rest.map fun v => v.category).sum ≤ W) (hdg : decode c.code g.pc = .ok (.invokevirtual index, 3))
    (hpre : ∀ vm₁, s.WarmedH vm₁ → Pre ⟨T.setVm vm₁, locs, cells, slots⟩ (Value.ref b :: argsL).toArray) :
    (∃ (v : Option Value) (vm₁ : Vm) (B : Pt), s.WarmedH vm₁ ∧ Stand p l e R s m args below meth c B.U B.locs B.cells B.slots ∧ Post ⟨T.setVm vm₁, locs, cells, slots⟩ (Value.ref b :: argsL).toArray v B ∧
      ∀ target, Steps p.tables e below (B.U.setTop { g with pc := g.pc + 3, stack := v.toList ++ rest }) target → Steps p.tables e below (T.setTop g) target) ∨
    (∃ (q : Addr) (vm₁ : Vm) (B : Pt), s.WarmedH vm₁ ∧ Stand p l e R s m args below meth c B.U B.locs B.cells B.slots ∧ PostX ⟨T.setVm vm₁, locs, cells, slots⟩ (Value.ref b :: argsL).toArray q B ∧
      Steps p.tables e below (T.setTop g) ((B.U.setTop { g with stack := rest }).pushFrame (.throwing q))) := by
  obtain ⟨mk, methM, hnamed, hmethM, hstM, habM⟩ := Cond.instanceMethod_spec hinst
  obtain ⟨methM', cM, hmethM', -, -, -, -, -, -, hsigM⟩ := Cond.code_spec hnamed hcode
  cases hmethM.symm.trans hmethM'
  obtain ⟨c2, r2, m2, q1, q2, q3, q4, kP, hkP, hkPi⟩ := Cond.selects_spec hsel
  cases hcls.symm.trans q1
  cases (State.methodFound?_of_named hnamed hy).symm.trans q2
  cases hnamed.symm.trans q3
  have hselP : selectMethod e.platform s.vm cellB.cls mk = .method mk := by rw [Launch.admits_selectMethod X.admits]; exact q4
  obtain ⟨vm₁, X₁, hstep₁⟩ := X.invokevirtualNest hexec hown hlink hnamed hmethM hstM hkP hkPi hy (a := b) (cell := cellB) hcell
    (fun z h => by rw [h] at hobj; cases hobj) hselP hmethM habM hkP hkPi (g := g) hg (argsL := argsL) (rest := rest) (hlen _ hsigM) hstack hdg
  rcases hK m meth c ⟨T.setVm vm₁, locs, cells, slots⟩ { g with stack := rest } (.invokevirtual index) mk (Value.ref b :: argsL).toArray X₁ hg hsize hdg hW (X₁.named hnamed) (hpre vm₁ X₁.warmed) with ⟨v, B, X', hpost, hsteps⟩ | ⟨q, B, X', hpost, hsteps⟩
  · exact Or.inl ⟨v, vm₁, B, X₁.warmed, X', hpost, fun target h => hstep₁ _ fun acts => by rw [doInvoke_state]; exact hsteps.trans h⟩
  · exact Or.inr ⟨q, vm₁, B, X₁.warmed, X', hpost, hstep₁ _ fun acts => by rw [doInvoke_state]; exact hsteps⟩
theorem vx_callSN (X : Stand p l e R s m args below meth c T locs cells slots) (hexec : p.tables.exec = Jvm.exec) {own : String} {index : Nat} {host : String} {y : MethodName} {bytes : ByteArray} {maxL : Nat} {ret : Option FieldType}
    (hown : s.vm.findClass own = some m.cls) (hlink : (Cond.methodLinkNest own index y host).before args s = true) (hstat : (Cond.static y).before args s = true) (hinit : (Cond.initialized y.cls).before args s = true)
    (hcode : (Cond.code y bytes maxL ret).before args s = true) (hy : y.cls ≠ "java/lang/invoke/MethodHandle" ∧ y.cls ≠ "java/lang/invoke/VarHandle")
    {W : Nat} {Pre : Pt → Array Value → Prop} {Post : Pt → Array Value → Option Value → Pt → Prop} {PostX : Pt → Array Value → Addr → Pt → Prop} (hK : vx_Back l R p e below s args y 3 W Pre Post PostX)
    {g : JFrame} (hg : g.method = m) (hsize : g.locals.size = c.maxLocals) {argsL rest : List Value} (hlen : ∀ sig, parseMethodDescriptor y.desc = some sig → argsL.length = sig.parameters.length)
    (hstack : g.stack = argsL.reverse ++ rest) (hW : 2 * g.monitorRoom + (rest.map fun v => v.category).sum ≤ W) (hdg : decode c.code g.pc = .ok (.invokestatic index, 3))
    (hpre : ∀ vm₁, s.WarmedH vm₁ → Pre ⟨T.setVm vm₁, locs, cells, slots⟩ argsL.toArray) :
    (∃ (v : Option Value) (vm₁ : Vm) (B : Pt), s.WarmedH vm₁ ∧ Stand p l e R s m args below meth c B.U B.locs B.cells B.slots ∧ Post ⟨T.setVm vm₁, locs, cells, slots⟩ argsL.toArray v B ∧
      ∀ target, Steps p.tables e below (B.U.setTop { g with pc := g.pc + 3, stack := v.toList ++ rest }) target → Steps p.tables e below (T.setTop g) target) ∨
    (∃ (q : Addr) (vm₁ : Vm) (B : Pt), s.WarmedH vm₁ ∧ Stand p l e R s m args below meth c B.U B.locs B.cells B.slots ∧ PostX ⟨T.setVm vm₁, locs, cells, slots⟩ argsL.toArray q B ∧
      Steps p.tables e below (T.setTop g) ((B.U.setTop { g with stack := rest }).pushFrame (.throwing q))) := by
  obtain ⟨mk, hnamed⟩ := Cond.code_named hcode
  obtain ⟨methM, cM, hmethM, -, -, -, -, -, -, hsigM⟩ := Cond.code_spec hnamed hcode
  have hstatic : methM.isStatic = true := Cond.static_spec hnamed hmethM hstat
  obtain ⟨kP, hkP, -⟩ := className_of_methodNamed hnamed
  have hinitP : kP.init = .initialized := Cond.initialized_spec (findClass_of_methodNamed hnamed) hkP hinit
  obtain ⟨vm₁, X₁, hstep₁⟩ := X.invokestaticNest hexec hown hlink hnamed hmethM hstatic hkP hinitP hy (g := g) hg (argsL := argsL) (rest := rest) (hlen _ hsigM) hstack hdg
  rcases hK m meth c ⟨T.setVm vm₁, locs, cells, slots⟩ { g with stack := rest } (.invokestatic index) mk argsL.toArray X₁ hg hsize hdg hW (X₁.named hnamed) (hpre vm₁ X₁.warmed) with ⟨v, B, X', hpost, hsteps⟩ | ⟨q, B, X', hpost, hsteps⟩
  · exact Or.inl ⟨v, vm₁, B, X₁.warmed, X', hpost, fun target h => hstep₁ _ fun acts => by rw [doInvoke_state]; exact hsteps.trans h⟩
  · exact Or.inr ⟨q, vm₁, B, X₁.warmed, X', hpost, hstep₁ _ fun acts => by rw [doInvoke_state]; exact hsteps⟩
theorem vx_runVN {y : MethodName} {bytes cc : ByteArray} {maxL nL mc ms n index : Nat} {ret : Option FieldType} {ws : List Cond} {rm : Room} {Pc : Array Value → State → Prop} {Qc : Array Value → State → Outcome → State → Prop} {XC : String → State → State → Prop} {free : Addr → Prop} {Ts : List Cond} {own C host : String} {b : Addr} {As rest : List Value} {g : JFrame}
    (S : CallFix p m c cc nL s args Ts own) (hM : vx_Met l y ws rm Pc Qc XC mc ms free) (cw : va_CN R s args own index y host bytes maxL ret ws rm mc ms n ∧ (Cond.instanceMethod y).before args s = true ∧ (Cond.selects C y y).before args s = true) (hp : PreV s H C b Pc As)
    (hg : g.method = m) (hn : As.length = n) (hsize : g.locals.size = nL) (hstack : g.stack = As.reverse ++ .ref b :: rest) (hW : 2 * g.monitorRoom + (rest.map fun v => v.category).sum ≤ 8) (hdg : decode cc g.pc = .ok (.invokevirtual index, 3)) (hf : cells + mc ≤ R.cells ∧ slots + ms ≤ R.slots) :
    vx_Run p l e R s m args below meth c H locs cells slots mc ms g rest (Qc (Value.ref b :: As).toArray) XC free := by
  obtain ⟨⟨⟨hrc, hrs, hfr, hlo, hws, hcw⟩, hcode, hini, hy, hlen, hl⟩, hx1, hx2⟩ := cw
  have hK : vx_Back l R p e below s args y 3 8 (PreOf R mc ms Pc) (PostOf Qc mc ms free) (vx_Post XC mc ms free) := vx_back (bytes := bytes) (maxL := maxL) (ret := ret) hM hp.1 hrc hrs hfr hlo hws hcw (fun a' U hW => word_at hW (Or.inl (by first | rfl | simp [Cond.onTables, Cond.keeps, Cond.steady])) hini)
  obtain ⟨hx, hb, hml, ho, -⟩ := S
  obtain ⟨-, ⟨cellB, hcB, hoB, hclB⟩, hPc⟩ := hp
  intro T hT X
  rcases vx_callVN X hx (C := C) (bytes := bytes) (maxL := maxL) (ret := ret) ho hl hx1 hx2 hcode hy hK (by rw [hT]; exact hcB) hoB hclB hg (hsize.trans hml.symm) (argsL := As) (rest := rest) (fun sig h => hn.trans (hlen sig h)) hstack hW (by rw [hb]; exact hdg)
    (fun vm₁ hW₁ => ⟨hf.1, hf.2, hPc (T.setVm vm₁) hT hW₁⟩) with ⟨v, vm₁, ⟨U', l2, c2, s2⟩, hW₁, X', ⟨g', mk, t, L, e1, e2, hq, h1, hL, h2, h3⟩, st⟩ | ⟨q, vm₁, ⟨U', l2, c2, s2⟩, hW₁, X', ⟨g', mk, t, L, E, ce, e1, e2, hq, hce, hcv, hcl, h1, hL, h2, h3⟩, st⟩
  · dsimp only [Pt.U, Pt.locs, Pt.cells, Pt.slots] at X' e1 e2 h1 h2 h3 st
    subst h1; subst h2; subst h3
    exact Or.inl ⟨v, (T.setVm vm₁).calling g' mk (Value.ref b :: As).toArray, t, U', L, hT, X', hL, e1, e2, hq, st⟩
  · dsimp only [Pt.U, Pt.locs, Pt.cells, Pt.slots] at X' e1 e2 h1 h2 h3 st hcl
    subst h1; subst h2; subst h3
    exact Or.inr ⟨q, (T.setVm vm₁).calling g' mk (Value.ref b :: As).toArray, t, U', L, E, ce, hT, X', hL, e1, e2, hq, hce, hcv, vx_cls hW₁ hcl, st⟩
theorem vx_runSN {y : MethodName} {bytes cc : ByteArray} {maxL nL mc ms n index : Nat} {ret : Option FieldType} {ws : List Cond} {rm : Room} {Pc : Array Value → State → Prop} {Qc : Array Value → State → Outcome → State → Prop} {XC : String → State → State → Prop} {free : Addr → Prop} {Ts : List Cond} {own host : String} {As rest : List Value} {g : JFrame}
    (S : CallFix p m c cc nL s args Ts own) (hM : vx_Met l y ws rm Pc Qc XC mc ms free) (cw : va_CN R s args own index y host bytes maxL ret ws rm mc ms n ∧ (Cond.static y).before args s = true ∧ True) (hp : PreS s H Pc As)
    (hg : g.method = m) (hn : As.length = n) (hsize : g.locals.size = nL) (hstack : g.stack = As.reverse ++ rest) (hW : 2 * g.monitorRoom + (rest.map fun v => v.category).sum ≤ 8) (hdg : decode cc g.pc = .ok (.invokestatic index, 3)) (hf : cells + mc ≤ R.cells ∧ slots + ms ≤ R.slots) :
    vx_Run p l e R s m args below meth c H locs cells slots mc ms g rest (Qc As.toArray) XC free := by
  obtain ⟨⟨⟨hrc, hrs, hfr, hlo, hws, hcw⟩, hcode, hini, hy, hlen, hl⟩, hx1, hx2⟩ := cw
  have hK : vx_Back l R p e below s args y 3 8 (PreOf R mc ms Pc) (PostOf Qc mc ms free) (vx_Post XC mc ms free) := vx_back (bytes := bytes) (maxL := maxL) (ret := ret) hM hp.1 hrc hrs hfr hlo hws hcw (fun a' U hW => word_at hW (Or.inl (by first | rfl | simp [Cond.onTables, Cond.keeps, Cond.steady])) hini)
  obtain ⟨hx, hb, hml, ho, -⟩ := S
  have hPc := hp.2
  intro T hT X
  rcases vx_callSN X hx (bytes := bytes) (maxL := maxL) (ret := ret) ho hl hx1 hini hcode hy hK hg (hsize.trans hml.symm) (argsL := As) (rest := rest) (fun sig h => hn.trans (hlen sig h)) hstack hW (by rw [hb]; exact hdg)
    (fun vm₁ hW₁ => ⟨hf.1, hf.2, hPc (T.setVm vm₁) hT hW₁⟩) with ⟨v, vm₁, ⟨U', l2, c2, s2⟩, hW₁, X', ⟨g', mk, t, L, e1, e2, hq, h1, hL, h2, h3⟩, st⟩ | ⟨q, vm₁, ⟨U', l2, c2, s2⟩, hW₁, X', ⟨g', mk, t, L, E, ce, e1, e2, hq, hce, hcv, hcl, h1, hL, h2, h3⟩, st⟩
  · dsimp only [Pt.U, Pt.locs, Pt.cells, Pt.slots] at X' e1 e2 h1 h2 h3 st
    subst h1; subst h2; subst h3
    exact Or.inl ⟨v, (T.setVm vm₁).calling g' mk As.toArray, t, U', L, hT, X', hL, e1, e2, hq, st⟩
  · dsimp only [Pt.U, Pt.locs, Pt.cells, Pt.slots] at X' e1 e2 h1 h2 h3 st hcl
    subst h1; subst h2; subst h3
    exact Or.inr ⟨q, (T.setVm vm₁).calling g' mk As.toArray, t, U', L, E, ce, hT, X', hL, e1, e2, hq, hce, hcv, vx_cls hW₁ hcl, st⟩
end
/-! ===== END ===== -/
end
section
/-! contracts of the JDK's String members over the constants, of the helpers that throw; what walk.py's prints need besides -/
theorem av1 {av : List Value} : ∀ {i : Nat}, (av.all fun v => v.category == 1) = true → ∀ q ∈ lv_args i av, q.2.category = 1 := by
  induction av with
  | nil => intro i _ q hq; exact absurd hq List.not_mem_nil
  | cons a l ih =>
    intro i h q hq
    rw [List.all_cons, Bool.and_eq_true] at h
    rw [lv_args] at hq
    rcases List.mem_cons.mp hq with e | e
    · rw [e]; simpa using h.1
    · exact ih h.2 q e
theorem ev_w {G : GT} {l : Launch} {y : MethodName} {cc : ByteArray} {nL : Nat} {ret : Option FieldType} {d mc ms : Nat} {av : List Value} {V : VV} {o : Except String (Option Value)} {V1 : VV} (hlt : l.stackTraces = false) (hy : plainName y.cls = true) (hlen : Nat.ble (lg_sl av).length nL = true) (hav : (av.all fun v => v.category == 1) = true)
    (body : ∀ X : CT, xl X = l → xN X = nL → Cx G X y.cls cc → MX G X d mc ms ret o V1 → At G X 0 0 0 (lv_args 0 av) [] V) : EvX G l y cc nL ret d mc ms av V o V1 :=
  ev_of hlt hy (Nat.le_of_ble_eq_true hlen) (av1 hav) (Or.inr trivial) body
theorem bdl_of {α β : Type} {o : Option (Sum β α)} {f : α → Option β} {r : β} (h : bdl o f = some r) : ∃ s, o = some s ∧ (∀ q, s = .inl q → some q = some r) ∧ ∀ a, s = .inr a → f a = some r := by
  obtain ⟨s, h1, h2⟩ := Option.bind_eq_some_iff.mp h
  refine ⟨s, h1, fun q e => ?_, fun a e => ?_⟩
  · subst e; exact h2
  · subst e; exact h2
theorem p0 : (0 : Nat) < 10 := by decide
theorem p1 : (1 : Nat) < 10 := by decide
def slI (k : Nat) : Int := ((leS.getD k 0 : Nat) : Int)
def scI (k j : Nat) : Int := (((bySn.getD k []).getD j 0 : Nat) : Int)
theorem slI_rg : ∀ i, i < 5 → 0 < slI i ∧ slI i ≤ 100 ∧ sI (slI i) 0 = slI i := by decide +kernel
section
variable {G : GT} {X : CT} {cells slots pc N : Nat} {lv : List (Nat × Value)} {st : List Value} {h : HT} {own : String} {cc : ByteArray}
theorem r_getsC {idx : Nat} (C : Cx G X own cc) (d : decode cc pc = .ok (.getstatic idx, 3)) (hl : .fieldLink own idx "java/lang/String" "COMPACT_STRINGS" "Z" ∈ LW) (k : AtH G X cells slots (pc + 3) lv (vI 1 :: st) N h) : AtH G X cells slots pc lv st N h := by
  obtain ⟨p, l, e, R, s, m, args, below, meth, c, Q, nL⟩ := X
  intro H locs ls hW hS hls
  exact va_gets C.1 C.2.1 C.2.2.2.2.2.2.1.1 hS C.2.2.2.1 (C.2.2.2.2.1 _ hl) (fun _ h => h) d (k H locs ls hW hS hls)
theorem r_getsF {idx : Nat} (C : Cx G X own cc) (d : decode cc pc = .ok (.getstatic idx, 3)) (hl : .fieldLink own idx "jdk/internal/util/Preconditions" "SIOOBE_FORMATTER" "Ljava/util/function/BiFunction;" ∈ LW) (k : ∀ v : Value, (v = .null ∨ ∃ t : Nat, v = .ref t) → AtH G X cells slots (pc + 3) lv (v :: st) N h) : AtH G X cells slots pc lv st N h := by
  obtain ⟨p, l, e, R, s, m, args, below, meth, c, Q, nL⟩ := X
  intro H locs ls hW hS hls
  rcases C.2.2.2.2.2.2.1.2.1 with hz | ⟨t, hz⟩
  · exact va_gets C.1 C.2.1 hz hS C.2.2.2.1 (C.2.2.2.2.1 _ hl) (fun _ h => h) d (k .null (Or.inl rfl) H locs ls hW hS hls)
  · exact va_gets C.1 C.2.1 hz hS C.2.2.2.1 (C.2.2.2.2.1 _ hl) (fun _ h => h) d (k (.ref t) (Or.inr ⟨t, rfl⟩) H locs ls hW hS hls)
theorem r_kcoder {idx i : Nat} (C : Cx G X own cc) (d : decode cc pc = .ok (.getfield idx, 3)) (hl : .fieldLink own idx "java/lang/String" "coder" "B" ∈ LW) (hi : i < 5) (k : AtH G X cells slots (pc + 3) lv (vI 0 :: st) N h) : AtH G X cells slots pc lv (.ref (gK G i) :: st) N h := by
  obtain ⟨p, l, e, R, s, m, args, below, meth, c, Q, nL⟩ := X
  intro H locs ls hW hS hls
  exact vk_getf C.1 C.2.1 (C.2.2.2.2.2.2.1.2.2.2.1.1 i hi).2.1 hS C.2.2.2.1 (C.2.2.2.2.1 _ hl) (fun _ h => h) d (k H locs ls hW hS hls)
theorem r_kvalue {idx i : Nat} (C : Cx G X own cc) (d : decode cc pc = .ok (.getfield idx, 3)) (hl : .fieldLink own idx "java/lang/String" "value" "[B" ∈ LW) (hi : i < 5) (k : AtH G X cells slots (pc + 3) lv (.ref (gV G i) :: st) N h) : AtH G X cells slots pc lv (.ref (gK G i) :: st) N h := by
  obtain ⟨p, l, e, R, s, m, args, below, meth, c, Q, nL⟩ := X
  intro H locs ls hW hS hls
  exact vk_getf C.1 C.2.1 (C.2.2.2.2.2.2.1.2.2.2.1.1 i hi).2.2.1 hS C.2.2.2.1 (C.2.2.2.2.1 _ hl) (fun _ h => h) d (k H locs ls hW hS hls)
theorem r_klen {i : Nat} (C : Cx G X own cc) (d : decode cc pc = .ok (.arraylength, 1)) (hi : i < 5) (k : AtH G X cells slots (pc + 1) lv (vI (slI i) :: st) N h) : AtH G X cells slots pc lv (.ref (gV G i) :: st) N h := by
  obtain ⟨p, l, e, R, s, m, args, below, meth, c, Q, nL⟩ := X
  intro H locs ls hW hS hls
  exact va_tlen C.1 C.2.1 (C.2.2.2.2.2.2.1.2.2.2.1.1 i hi).2.2.2 hS (v := iI (slI i)) (iI_nI _) d (k H locs ls hW hS hls)
theorem kb_all : ∀ i, i < 5 → ∀ j, j < leS.getD i 0 → (byS.getD i []).getD j 0 = iI (scI i j) ∧ aI (scI i j) 255 = scI i j ∧ ((iI (scI i j)).toUInt32 % 65536).toInt32 = iI (scI i j) ∧ narrow .char (.int (iI (scI i j))) = .int (iI (scI i j)) := by decide +kernel
theorem r_kbyte {i : Nat} {j : Int} (C : Cx G X own cc) (d : decode cc pc = .ok (.baload, 1)) (hi : i < 5) (hj : 0 ≤ j ∧ j < slI i) (k : AtH G X cells slots (pc + 1) lv (vI (scI i j.toNat) :: st) N h) : AtH G X cells slots pc lv (vI j :: .ref (gV G i) :: st) N h := by
  obtain ⟨p, l, e, R, s, m, args, below, meth, c, Q, nL⟩ := X
  intro H locs ls hW hS hls
  have hr := slI_rg i hi
  have h9 : j < ((leS.getD i 0 : Nat) : Int) := hj.2
  have h8 : ((leS.getD i 0 : Nat) : Int) ≤ 100 := hr.2.1
  refine va_tb C.1 C.2.1 (C.2.2.2.2.2.2.1.2.2.2.1.1 i hi).2.2.2 hS (i := iI j) (iI_in hj.1 h9 (by omega)) (v := vI (scI i j.toNat)) ?_ d (k H locs ls hW hS hls)
  rw [iI_clamp hj.1 ⟨by omega, by omega⟩, (kb_all i hi j.toNat (by omega)).1]
theorem r_i2cK {i j : Nat} (C : Cx G X own cc) (d : decode cc pc = .ok (.i2c, 1)) (hi : i < 5) (hj : j < leS.getD i 0) (k : AtH G X cells slots (pc + 1) lv (vI (scI i j) :: st) N h) : AtH G X cells slots pc lv (vI (aI (scI i j) 255) :: st) N h := by
  obtain ⟨p, l, e, R, s, m, args, below, meth, c, Q, nL⟩ := X
  intro H locs ls hW hS hls
  rw [(kb_all i hi j hj).2.1]
  exact lv_i2c C.1 C.2.1 d (kb_all i hi j hj).2.2.1 (k H locs ls hW hS hls)
theorem r_ldcK {idx i : Nat} {tx : String} (C : Cx G X own cc) (hk : ∀ s : State, SF G s s.heap → vk_R own idx tx (gK G i) s) (d : decode cc pc = .ok (.ldc idx, 2)) (k : AtH G X cells slots (pc + 2) lv (.ref (gK G i) :: st) N h) : AtH G X cells slots pc lv st N h := by
  obtain ⟨p, l, e, R, s, m, args, below, meth, c, Q, nL⟩ := X
  intro H locs ls hW hS hls
  exact va_ldcS C.1 C.2.1 C.2.2.2.1 (hk s C.2.2.2.2.2.2.1) d (k H locs ls hW hS hls)
theorem r_ldcwK {idx i : Nat} {tx : String} (C : Cx G X own cc) (hk : ∀ s : State, SF G s s.heap → vk_R own idx tx (gK G i) s) (d : decode cc pc = .ok (.ldc_w idx, 3)) (k : AtH G X cells slots (pc + 3) lv (.ref (gK G i) :: st) N h) : AtH G X cells slots pc lv st N h := by
  obtain ⟨p, l, e, R, s, m, args, below, meth, c, Q, nL⟩ := X
  intro H locs ls hW hS hls
  have hZ := hk s C.2.2.2.2.2.2.1
  intro T hT X0
  obtain ⟨t, a1, b1⟩ := k H locs ls hW hS hls T hT X0
  exact ⟨t, X0.ldcStringW C.1 C.2.2.2.1 (text := tx) (a := gK G i) hZ.1 hZ.2 (g := F0 m pc ls st) rfl (by rw [C.2.1]; exact d) t a1, b1⟩
theorem x_ldcX {k : Nat} (C : Cx G X "ChannelSchedule" cc) (d : decode cc pc = .ok (.ldc (ixX.getD k 0), 2)) (hk : k < 3) (kk : AtH G X cells slots (pc + 2) lv (.ref (gK G k) :: st) N h) : AtH G X cells slots pc lv st N h := r_ldcK C (fun _ q => q.2.2.2.2.1 k hk) d kk
theorem x_ldc_wX {k : Nat} (C : Cx G X "ChannelSchedule" cc) (d : decode cc pc = .ok (.ldc_w (ixX.getD k 0), 3)) (hk : k < 3) (kk : AtH G X cells slots (pc + 3) lv (.ref (gK G k) :: st) N h) : AtH G X cells slots pc lv st N h := r_ldcwK C (fun _ q => q.2.2.2.2.1 k hk) d kk
theorem x_ldcL {k : Nat} (C : Cx G X "ChannelScheduleLaw" cc) (d : decode cc pc = .ok (.ldc (ixL.getD k 0), 2)) (hk : k < 2) (kk : AtH G X cells slots (pc + 2) lv (.ref (gK G (3 + k)) :: st) N h) : AtH G X cells slots pc lv st N h := r_ldcK C (fun _ q => q.2.2.2.2.2.1 k hk) d kk
/-- a call of a constant's method -/
theorem r_callK {idx i nLy n dy mc ms d0 mc0 ms0 : Nat} {y : MethodName} {ccy : ByteArray} {ret ret0 : Option FieldType} {As rest st0 : List Value} {post : Option Value → Nat → HT → Prop} {postX : String → Nat → HT → Prop} {p0 : Option Value → Nat → HT → Prop} {pX0 : String → Nat → HT → Prop}
    (C : Cx G X own cc) (M : Mx G X d0 mc0 ms0 ret0 p0 pX0) (d : decode cc pc = .ok (.invokevirtual idx, 3)) (wl : .methodLink own idx y ∈ LW) (wy : YV y ccy nLy ret n) (hE : EvH G (xl X) y ccy nLy ret dy mc ms (.ref (gK G i) :: As) N h post postX) (hst : st0 = As.reverse ++ .ref (gK G i) :: rest) (hn : As.length = n) (hi : i < 5) (hci : y.cls = "java/lang/String")
    (hcat : (rest.map fun v => v.category).sum ≤ 8) (hd : dy + 1 ≤ d0) (hnl : nLy ≤ 21) (hmc : cells + mc ≤ mc0) (hms : slots + ms ≤ ms0)
    (hx : ∀ (E : String) (N' : Nat) (h' : HT), postX E N' h' → pX0 E N' h')
    (kk : ∀ (v : Option Value) (N' : Nat) (h' : HT), post v N' h' → AtH G X (cells + mc) (slots + ms) (pc + 3) lv (v.toList ++ rest) N' h') : AtH G X cells slots pc lv st0 N h := by
  obtain ⟨p, l, e, R, s, m, args, below, meth, c, Q, nL⟩ := X
  intro H locs ls hW hS hls
  obtain ⟨hR, hQ, -, htab⟩ := M
  subst hR
  obtain ⟨hexec, hb, hml, hown, hts, hK, hF, hlocks, -, hbs⟩ := C
  obtain ⟨w1, w2, w3, w4, w5, w6⟩ := wy
  have hcb : CallB (rmD d0 mc0 ms0) s args own idx y ccy nLy ret (.code y ccy nLy ret :: LW) (rmD dy mc ms) mc ms n := LW_callB hts wl w3 w4 w5 w6 (by show dy + 1 ≤ d0; exact hd) (by show 8 + (nLy + 11) + 40 * dy ≤ 40 * d0; omega)
  have hA : ∀ q, q < H.size → gR G q → gR G q := fun _ _ q => q
  have hpre : PreV s H y.cls (gK G i) (PH G (.ref (gK G i) :: As) N h) As := by
    refine ⟨PH_blind, by rw [hci]; exact vk_recv hF.2.2.2.1 hi hS, fun U hU hWm => ⟨rfl, by rw [hU]; exact hW, va_K.moved hWm.alike hK, ?_⟩⟩
    rw [hU]
    exact (hF.kept (fun a h1 h2 => hS.2.1 a h1 h2)).moved hWm
  have hrun := vx_runV (H := H) (locs := locs) (cells := cells) (slots := slots) (p := p) (e := e) (below := below) (meth := meth) (rest := rest) (As := As) (b := gK G i) (g := F0 m pc ls st0) ⟨hexec, hb, hml, hown, hts⟩ hE ⟨hcb, hts _ w1, hts _ w2⟩ hpre rfl hn hls.1 hst (lv_room hcat) d ⟨hmc, hms⟩
  intro T hT X0
  rcases hrun T hT X0 with ⟨v, st₀, t, T', L, h0, X', hL, e1, e2, ⟨v', N', h', hv, hp, hWd, hFr⟩, stp⟩ | ⟨q, st₀, t, T', L, E, ce, h0, X', hL, e1, e2, ⟨N', h', hp, hWd, hFr⟩, hce, hcv, hcl, stp⟩
  · cases hv
    obtain ⟨k1, k2, k3⟩ := vx_keep h0 e1 hS hA (fun _ q => q) hL hFr
    obtain ⟨t2, a1, b1⟩ := kk v N' h' hp T'.heap (locs ++ L) ls (by rw [e1]; exact hWd) k3 hls T' rfl X'
    exact ⟨t2, stp t2 a1, b1⟩
  · obtain ⟨k1, k2, k3⟩ := vx_keep h0 e1 hS hA (fun _ q => q) hL hFr
    subst hQ
    have hout := vx_out (p := p) (l := l) (e := e) (R := rmD d0 mc0 ms0) (args := args) (below := below) (Qc := QH G p0) (XC := XH G pX0) (meth := meth) (c := c) (pc := pc) (ls := ls) (rest := rest) (free := gR G) (m := m) (H := T'.heap) (locs := locs ++ L) (fun x hx9 => (htab x hx9).elim) hlocks (by rw [e1]; exact hce) hcv hcl (fun t9 ht9 hal9 => ⟨N', h', hx E N' h' hp, by rw [ht9, e1]; exact hWd, k3.F ht9⟩) k3.2.2 hmc hms
    obtain ⟨t2, a1, b1⟩ := hout T' rfl X'
    exact ⟨t2, stp.trans a1, b1⟩
/-- a call of a static method of the nest's host -/
theorem r_callSN {nLy n dy mc ms d0 mc0 ms0 : Nat} {y : MethodName} {ccy : ByteArray} {ret ret0 : Option FieldType} {As rest st0 : List Value} {post : Option Value → Nat → HT → Prop} {postX : String → Nat → HT → Prop} {p0 : Option Value → Nat → HT → Prop} {pX0 : String → Nat → HT → Prop}
    (C : Cx G X "ChannelScheduleLaw$Own" cc) (M : Mx G X d0 mc0 ms0 ret0 p0 pX0) (d : decode cc pc = .ok (.invokestatic 87, 3)) (hy : y = ⟨"ChannelScheduleLaw", "conflict", "(LChannelSchedule;ZIIZII)Z"⟩) (wy : YS y ccy nLy ret n) (hE : EvH G (xl X) y ccy nLy ret dy mc ms As N h post postX) (hst : st0 = As.reverse ++ rest) (hn : As.length = n)
    (hcat : (rest.map fun v => v.category).sum ≤ 8) (hd : dy + 1 ≤ d0) (hnl : nLy ≤ 21) (hmc : cells + mc ≤ mc0) (hms : slots + ms ≤ ms0)
    (hx : ∀ (E : String) (N' : Nat) (h' : HT), postX E N' h' → pX0 E N' h')
    (kk : ∀ (v : Option Value) (N' : Nat) (h' : HT), post v N' h' → AtH G X (cells + mc) (slots + ms) (pc + 3) lv (v.toList ++ rest) N' h') : AtH G X cells slots pc lv st0 N h := by
  obtain ⟨p, l, e, R, s, m, args, below, meth, c, Q, nL⟩ := X
  intro H locs ls hW hS hls
  obtain ⟨hR, hQ, -, htab⟩ := M
  subst hR
  obtain ⟨hexec, hb, hml, hown, hts, hK, hF, hlocks, -, hbs⟩ := C
  obtain ⟨w2, w3, w4, w5, w6⟩ := wy
  have hN9 := hF.2.2.2.2.2.2.2.1
  rw [← hy] at hN9
  have hcb : va_CN (rmD d0 mc0 ms0) s args "ChannelScheduleLaw$Own" 87 y "ChannelScheduleLaw" ccy nLy ret (.code y ccy nLy ret :: LW) (rmD dy mc ms) mc ms n := by
    refine ⟨⟨rfl, rfl, hd, by show 8 + (nLy + 11) + 40 * dy ≤ 40 * d0; omega, ?_, List.mem_cons_self⟩, hts _ w4, hts _ w3, w5, fun sig h => ?_, va_Nw.use rfl hN9⟩
    · intro w hw a' U hW
      have hm : w ∈ LW := by
        rcases List.mem_cons.mp hw with e | e
        · rw [e]; exact w4
        · exact e
      exact word_at hW (LW_good hm) (hts w hm)
    · rw [h] at w6
      exact (Option.some.inj w6).symm
  have hA : ∀ q, q < H.size → gR G q → gR G q := fun _ _ q => q
  have hpre : PreS s H (PH G As N h) As := by
    refine ⟨PH_blind, fun U hU hWm => ⟨rfl, by rw [hU]; exact hW, va_K.moved hWm.alike hK, ?_⟩⟩
    rw [hU]
    exact (hF.kept (fun a h1 h2 => hS.2.1 a h1 h2)).moved hWm
  have hrun := vx_runSN (H := H) (locs := locs) (cells := cells) (slots := slots) (p := p) (e := e) (below := below) (meth := meth) (rest := rest) (As := As) (g := F0 m pc ls st0) ⟨hexec, hb, hml, hown, hts⟩ hE ⟨hcb, hts _ w2, trivial⟩ hpre rfl hn hls.1 hst (lv_room hcat) d ⟨hmc, hms⟩
  intro T hT X0
  rcases hrun T hT X0 with ⟨v, st₀, t, T', L, h0, X', hL, e1, e2, ⟨v', N', h', hv, hp, hWd, hFr⟩, stp⟩ | ⟨q, st₀, t, T', L, E, ce, h0, X', hL, e1, e2, ⟨N', h', hp, hWd, hFr⟩, hce, hcv, hcl, stp⟩
  · cases hv
    obtain ⟨k1, k2, k3⟩ := vx_keep h0 e1 hS hA (fun _ q => q) hL hFr
    obtain ⟨t2, a1, b1⟩ := kk v N' h' hp T'.heap (locs ++ L) ls (by rw [e1]; exact hWd) k3 hls T' rfl X'
    exact ⟨t2, stp t2 a1, b1⟩
  · obtain ⟨k1, k2, k3⟩ := vx_keep h0 e1 hS hA (fun _ q => q) hL hFr
    subst hQ
    have hout := vx_out (p := p) (l := l) (e := e) (R := rmD d0 mc0 ms0) (args := args) (below := below) (Qc := QH G p0) (XC := XH G pX0) (meth := meth) (c := c) (pc := pc) (ls := ls) (rest := rest) (free := gR G) (m := m) (H := T'.heap) (locs := locs ++ L) (fun x hx9 => (htab x hx9).elim) hlocks (by rw [e1]; exact hce) hcv hcl (fun t9 ht9 hal9 => ⟨N', h', hx E N' h' hp, by rw [ht9, e1]; exact hWd, k3.F ht9⟩) k3.2.2 hmc hms
    obtain ⟨t2, a1, b1⟩ := hout T' rfl X'
    exact ⟨t2, stp.trans a1, b1⟩
theorem cN7_i {V V0 : VV} {nLy dy d0 mc0 ms0 : Nat} {y : MethodName} {ccy : ByteArray} {ret ret0 : Option FieldType} {rest : List Value} {a1 a2 a3 a4 a5 a6 a7 : Value} {z : Int} {o0 : Except String (Option Value)} (C : Cx G X "ChannelScheduleLaw$Own" cc) (M : MX G X d0 mc0 ms0 ret0 o0 V0) (d : decode cc pc = .ok (.invokestatic 87, 3)) (hy : y = ⟨"ChannelScheduleLaw", "conflict", "(LChannelSchedule;ZIIZII)Z"⟩) (wy : YS y ccy nLy ret 7) (hE : EvX G (xl X) y ccy nLy ret dy 0 0 [a1, a2, a3, a4, a5, a6, a7] V (.ok (some (vI z))) V) (hb : (Nat.ble (dy + 1) d0 && Nat.ble nLy 21 && Nat.ble (rest.map fun v => v.category).sum 8) = true) (hc : cells ≤ mc0) (hs : slots ≤ ms0)
    (kk : At G X cells slots (pc + 3) lv (vI z :: rest) V) : At G X cells slots pc lv (a7 :: a6 :: a5 :: a4 :: a3 :: a2 :: a1 :: rest) V := by
  simp only [Bool.and_eq_true] at hb
  refine r_callSN C M d hy wy hE rfl rfl (Nat.le_of_ble_eq_true hb.2) (Nat.le_of_ble_eq_true hb.1.1) (Nat.le_of_ble_eq_true hb.1.2) hc hs (fun E N' h' q => ?_) (fun v N' h' q => ?_)
  · obtain ⟨q1, V', q2, q3, q4⟩ := q; cases q3
  · obtain ⟨q1, V', q2, q3, q4⟩ := q; subst q1; subst q2; cases q3; subst q4; exact kk
end
section
variable {G : GT} {X : CT} {cells slots pc : Nat} {lv : List (Nat × Value)} {st : List Value} {V : VV} {own : String} {cc : ByteArray}
theorem cK {idx i nLy n dy d0 mc0 ms0 : Nat} {y : MethodName} {ccy : ByteArray} {ret ret0 : Option FieldType} {As rest st0 : List Value} {z : Int} {o0 : Except String (Option Value)} {V0 : VV} (C : Cx G X own cc) (M : MX G X d0 mc0 ms0 ret0 o0 V0) (d : decode cc pc = .ok (.invokevirtual idx, 3)) (wl : .methodLink own idx y ∈ LW) (wy : YV y ccy nLy ret n) (hi : i < 5) (hci : y.cls = "java/lang/String") (hE : EvX G (xl X) y ccy nLy ret dy 0 0 (.ref (gK G i) :: As) V (.ok (some (vI z))) V) (hst : st0 = As.reverse ++ .ref (gK G i) :: rest) (hn : As.length = n) (hb : (Nat.ble (dy + 1) d0 && Nat.ble nLy 21 && Nat.ble (rest.map fun v => v.category).sum 8) = true) (hc : cells ≤ mc0) (hs : slots ≤ ms0)
    (kk : At G X cells slots (pc + 3) lv (vI z :: rest) V) : At G X cells slots pc lv st0 V := by
  simp only [Bool.and_eq_true] at hb
  refine r_callK C M d wl wy hE hst hn hi hci (Nat.le_of_ble_eq_true hb.2) (Nat.le_of_ble_eq_true hb.1.1) (Nat.le_of_ble_eq_true hb.1.2) hc hs (fun E N' h' q => ?_) (fun v N' h' q => ?_)
  · obtain ⟨q1, V', q2, q3, q4⟩ := q; cases q3
  · obtain ⟨q1, V', q2, q3, q4⟩ := q; subst q1; subst q2; cases q3; subst q4; exact kk
theorem ev_coder {l : Launch} (hlt : l.stackTraces = false) {i : Nat} (hi : i < 5) : EvX G l yJ0_coder_7d493 bJ0_coder_7d493 1 (some .byte) 0 0 0 [.ref (gK G i)] V (.ok (some (vI 0))) V := by
  refine ev_w hlt (by decide +kernel) rfl rfl (fun X hl hx C M => ?_)
  subst hl
  replace C : Cx G X "java/lang/String" bJ0_coder_7d493 := C
  show At G X 0 0 0 [(0, .ref (gK G i))] [] V
  refine r_getsC C dJ0_coder_7d493_0 fJ0_38 ?_
  refine x_ifeq (tgt := 13) C dJ0_coder_7d493_3 rfl (fun c => absurd c (by decide +kernel)) (fun c => ?_)
  refine r_aload_n C dJ0_coder_7d493_6 rfl ?_
  refine r_kcoder C dJ0_coder_7d493_7 fJ0_15 hi ?_
  refine r_goto (tgt := 14) C dJ0_coder_7d493_10 rfl ?_
  exact r_iret C M dJ0_coder_7d493_14 rfl (Nat.le_refl _) (Nat.le_refl _) ⟨rfl, V, rfl, rfl, rfl⟩
theorem ev_isLatin1 {l : Launch} (hlt : l.stackTraces = false) {i : Nat} (hi : i < 5) : EvX G l yJ0_isLatin1_aae02 bJ0_isLatin1_aae02 1 (some .boolean) 0 0 0 [.ref (gK G i)] V (.ok (some (vI 1))) V := by
  refine ev_w hlt (by decide +kernel) rfl rfl (fun X hl hx C M => ?_)
  subst hl
  replace C : Cx G X "java/lang/String" bJ0_isLatin1_aae02 := C
  show At G X 0 0 0 [(0, .ref (gK G i))] [] V
  refine r_getsC C dJ0_isLatin1_aae02_0 fJ0_38 ?_
  refine x_ifeq (tgt := 17) C dJ0_isLatin1_aae02_3 rfl (fun c => absurd c (by decide +kernel)) (fun c => ?_)
  refine r_aload_n C dJ0_isLatin1_aae02_6 rfl ?_
  refine r_kcoder C dJ0_isLatin1_aae02_7 fJ0_15 hi ?_
  refine x_ifne (tgt := 17) C dJ0_isLatin1_aae02_10 rfl (fun c => ?_) (fun c => absurd (by decide +kernel) c)
  refine r_iconst C dJ0_isLatin1_aae02_13 ?_
  refine r_goto (tgt := 18) C dJ0_isLatin1_aae02_14 rfl ?_
  exact r_iret C M dJ0_isLatin1_aae02_18 rfl (Nat.le_refl _) (Nat.le_refl _) ⟨rfl, V, rfl, rfl, rfl⟩
theorem ev_length {l : Launch} (hlt : l.stackTraces = false) {i : Nat} (hi : i < 5) : EvX G l yJ0_length_8abf5 bJ0_length_8abf5 1 (some .int) 1 0 0 [.ref (gK G i)] V (.ok (some (vI (slI i)))) V := by
  refine ev_w hlt (by decide +kernel) rfl rfl (fun X hl hx C M => ?_)
  subst hl
  replace C : Cx G X "java/lang/String" bJ0_length_8abf5 := C
  show At G X 0 0 0 [(0, .ref (gK G i))] [] V
  refine r_aload_n C dJ0_length_8abf5_0 rfl ?_
  refine r_kvalue C dJ0_length_8abf5_1 fJ0_9 hi ?_
  refine r_klen C dJ0_length_8abf5_4 hi ?_
  refine r_aload_n C dJ0_length_8abf5_5 rfl ?_
  refine cK (As := []) C M dJ0_length_8abf5_6 lJ0_335 wJ0_coder_7d493 hi rfl (ev_coder C.lt hi) rfl rfl rfl (Nat.le_refl _) (Nat.le_refl _) ?_
  refine x_ishr C dJ0_length_8abf5_9 ?_
  refine r_top (slI_rg i hi).2.2 ?_
  exact r_iret C M dJ0_length_8abf5_10 rfl (Nat.le_refl _) (Nat.le_refl _) ⟨rfl, V, rfl, rfl, rfl⟩
theorem ev_chk3 {l : Launch} (hlt : l.stackTraces = false) {j n : Int} {v : Value} (hv : v = .null ∨ ∃ t : Nat, v = .ref t) (hj : 0 ≤ j ∧ j < n) (hn : n ≤ 2147483647) : EvX G l yJ3_checkIndex_8e157 bJ3_checkIndex_8e157 3 (some .int) 0 0 0 [vI j, vI n, v] V (.ok (some (vI j))) V := by
  have e1 : nrm j = j := nrm_of (by omega) (by omega)
  have e2 : nrm n = n := nrm_of (by omega) (by omega)
  have key : ∀ v : Value, Nat.ble (lg_sl [vI j, vI n, v]).length 3 = true → ([vI j, vI n, v].all fun v => v.category == 1) = true → lv_args 0 [vI j, vI n, v] = [(0, vI j), (1, vI n), (2, v)] → EvX G l yJ3_checkIndex_8e157 bJ3_checkIndex_8e157 3 (some .int) 0 0 0 [vI j, vI n, v] V (.ok (some (vI j))) V := by
    intro v h1 h2 h3
    refine ev_w hlt (by decide +kernel) h1 h2 (fun X hl hx C M => ?_)
    subst hl
    replace C : Cx G X "jdk/internal/util/Preconditions" bJ3_checkIndex_8e157 := C
    rw [h3]
    refine r_iload_n C dJ3_checkIndex_8e157_0 rfl ?_
    refine x_iflt (tgt := 9) C dJ3_checkIndex_8e157_1 rfl (fun c => by omega) (fun c => ?_)
    refine r_iload_n C dJ3_checkIndex_8e157_4 rfl ?_
    refine r_iload_n C dJ3_checkIndex_8e157_5 rfl ?_
    refine x_icmplt (tgt := 16) C dJ3_checkIndex_8e157_6 rfl (fun c => ?_) (fun c => by omega)
    refine r_iload_n C dJ3_checkIndex_8e157_16 rfl ?_
    exact r_iret C M dJ3_checkIndex_8e157_17 rfl (Nat.le_refl _) (Nat.le_refl _) ⟨rfl, V, rfl, rfl, rfl⟩
  rcases hv with e | ⟨t, e⟩
  · subst e; exact key _ rfl rfl rfl
  · subst e; exact key _ rfl rfl rfl
theorem ev_chk0 {l : Launch} (hlt : l.stackTraces = false) {j n : Int} (hj : 0 ≤ j ∧ j < n) (hn : n ≤ 2147483647) : EvX G l yJ0_checkIndex_df160 bJ0_checkIndex_df160 2 none 1 0 0 [vI j, vI n] V (.ok none) V := by
  refine ev_w hlt (by decide +kernel) rfl rfl (fun X hl hx C M => ?_)
  subst hl
  replace C : Cx G X "java/lang/String" bJ0_checkIndex_df160 := C
  show At G X 0 0 0 [(0, vI j), (1, vI n)] [] V
  refine r_iload_n C dJ0_checkIndex_df160_0 rfl ?_
  refine r_iload_n C dJ0_checkIndex_df160_1 rfl ?_
  refine r_getsF C dJ0_checkIndex_df160_2 fJ0_1053 (fun v hv => ?_)
  refine cS3_i C M dJ0_checkIndex_df160_5 lJ0_1059 wJ3_checkIndex_8e157 (ev_chk3 C.lt hv hj hn) rfl (Nat.le_refl _) (Nat.le_refl _) ?_
  refine r_pop C dJ0_checkIndex_df160_8 rfl ?_
  exact e_v C M dJ0_checkIndex_df160_9 (Nat.le_refl _) (Nat.le_refl _) rfl
theorem ev_charAt1 {l : Launch} (hlt : l.stackTraces = false) {i : Nat} {j : Int} (hi : i < 5) (hj : 0 ≤ j ∧ j < slI i) : EvX G l yJ1_charAt_3b067 bJ1_charAt_3b067 2 (some .char) 2 0 0 [.ref (gV G i), vI j] V (.ok (some (vI (scI i j.toNat)))) V := by
  have hr := slI_rg i hi
  have h9 : j < ((leS.getD i 0 : Nat) : Int) := hj.2
  refine ev_w hlt (by decide +kernel) rfl rfl (fun X hl hx C M => ?_)
  subst hl
  replace C : Cx G X "java/lang/StringLatin1" bJ1_charAt_3b067 := C
  show At G X 0 0 0 [(0, .ref (gV G i)), (1, vI j)] [] V
  refine r_iload_n C dJ1_charAt_3b067_0 rfl ?_
  refine r_aload_n C dJ1_charAt_3b067_1 rfl ?_
  refine r_klen C dJ1_charAt_3b067_2 hi ?_
  refine cS2_v C M dJ1_charAt_3b067_3 lJ1_9 wJ0_checkIndex_df160 (ev_chk0 C.lt hj (by omega)) rfl (Nat.le_refl _) (Nat.le_refl _) ?_
  refine r_aload_n C dJ1_charAt_3b067_6 rfl ?_
  refine r_iload_n C dJ1_charAt_3b067_7 rfl ?_
  refine r_kbyte C dJ1_charAt_3b067_8 hi hj ?_
  refine r_sipush C dJ1_charAt_3b067_9 (by decide +kernel) ?_
  refine x_iand C dJ1_charAt_3b067_12 ?_
  refine r_i2cK C dJ1_charAt_3b067_13 hi (by omega) ?_
  exact r_iret C M dJ1_charAt_3b067_14 (kb_all i hi j.toNat (by omega)).2.2.2 (Nat.le_refl _) (Nat.le_refl _) ⟨rfl, V, rfl, rfl, rfl⟩
theorem ev_charAt {l : Launch} (hlt : l.stackTraces = false) {i : Nat} {j : Int} (hi : i < 5) (hj : 0 ≤ j ∧ j < slI i) : EvX G l yJ0_charAt_5068e bJ0_charAt_5068e 2 (some .char) 3 0 0 [.ref (gK G i), vI j] V (.ok (some (vI (scI i j.toNat)))) V := by
  have h9 : j < ((leS.getD i 0 : Nat) : Int) := hj.2
  refine ev_w hlt (by decide +kernel) rfl rfl (fun X hl hx C M => ?_)
  subst hl
  replace C : Cx G X "java/lang/String" bJ0_charAt_5068e := C
  show At G X 0 0 0 [(0, .ref (gK G i)), (1, vI j)] [] V
  refine r_aload_n C dJ0_charAt_5068e_0 rfl ?_
  refine cK (As := []) C M dJ0_charAt_5068e_1 lJ0_492 wJ0_isLatin1_aae02 hi rfl (ev_isLatin1 C.lt hi) rfl rfl rfl (Nat.le_refl _) (Nat.le_refl _) ?_
  refine x_ifeq (tgt := 16) C dJ0_charAt_5068e_4 rfl (fun c => absurd c (by decide +kernel)) (fun c => ?_)
  refine r_aload_n C dJ0_charAt_5068e_7 rfl ?_
  refine r_kvalue C dJ0_charAt_5068e_8 fJ0_9 hi ?_
  refine r_iload_n C dJ0_charAt_5068e_11 rfl ?_
  refine cS2_i C M dJ0_charAt_5068e_12 lJ0_495 wJ1_charAt_3b067 (ev_charAt1 C.lt hi hj) rfl (Nat.le_refl _) (Nat.le_refl _) ?_
  exact r_iret C M dJ0_charAt_5068e_15 (kb_all i hi j.toNat (by omega)).2.2.2 (Nat.le_refl _) (Nat.le_refl _) ⟨rfl, V, rfl, rfl, rfl⟩
theorem x_slen {idx i d0 mc0 ms0 : Nat} {ret0 : Option FieldType} {rest : List Value} {o0 : Except String (Option Value)} {V0 : VV} (C : Cx G X own cc) (M : MX G X d0 mc0 ms0 ret0 o0 V0) (d : decode cc pc = .ok (.invokevirtual idx, 3)) (wl : .methodLink own idx ⟨"java/lang/String", "length", "()I"⟩ ∈ LW) (hi : i < 5) (hb : (Nat.ble 2 d0 && Nat.ble 1 21 && Nat.ble (rest.map fun v => v.category).sum 8) = true) (hc : cells ≤ mc0) (hs : slots ≤ ms0)
    (kk : At G X cells slots (pc + 3) lv (vI (slI i) :: rest) V) : At G X cells slots pc lv (.ref (gK G i) :: rest) V :=
  cK (As := []) C M d wl wJ0_length_8abf5 hi rfl (ev_length C.lt hi) rfl rfl hb hc hs kk
theorem x_schar {idx i d0 mc0 ms0 : Nat} {j : Int} {ret0 : Option FieldType} {rest : List Value} {o0 : Except String (Option Value)} {V0 : VV} (C : Cx G X own cc) (M : MX G X d0 mc0 ms0 ret0 o0 V0) (d : decode cc pc = .ok (.invokevirtual idx, 3)) (wl : .methodLink own idx ⟨"java/lang/String", "charAt", "(I)C"⟩ ∈ LW) (hi : i < 5) (hj : 0 ≤ j ∧ j < slI i) (hb : (Nat.ble 4 d0 && Nat.ble 2 21 && Nat.ble (rest.map fun v => v.category).sum 8) = true) (hc : cells ≤ mc0) (hs : slots ≤ ms0)
    (kk : At G X cells slots (pc + 3) lv (vI (scI i j.toNat) :: rest) V) : At G X cells slots pc lv (vI j :: .ref (gK G i) :: rest) V :=
  cK (As := [vI j]) C M d wl wJ0_charAt_5068e hi rfl (ev_charAt C.lt hi hj) rfl rfl hb hc hs kk
theorem e_s {d0 mc0 ms0 z r : Nat} (C : Cx G X own cc) (M : MX G X d0 mc0 ms0 (some (.object "java/lang/String")) (.ok (some (.ref (gK G r)))) V) (d : decode cc pc = .ok (.areturn, 1)) (hc : cells ≤ mc0) (hs : slots ≤ ms0) (h : some z = some r) : At G X cells slots pc lv [.ref (gK G z)] V := by
  cases h
  obtain ⟨p, l, e, R, s, m, args, below, meth, c, Q, nL⟩ := X
  intro H locs ls hW hS hls
  obtain ⟨hR, hQ, hr, -⟩ := M
  have hlocks : meth.locks = false := C.2.2.2.2.2.2.2.1
  subst hQ
  refine W.widen hc hs (vx_ret ?_)
  exact W.aret C.1 C.2.1 hr (Or.inl ⟨_, rfl⟩) (Or.inr ⟨_, rfl⟩) (fun t ht hW9 => ⟨_, gN G, hV G V, rfl, ⟨rfl, V, rfl, rfl, rfl⟩, by rw [ht]; exact hW, hS.F ht⟩) hS.2.2 d hlocks
end
/-! the helpers that ask: where they do not throw -/
theorem ev5_requireIndex {G : GT} {V : VV} {l : Launch} {z : Int} (hlt : l.stackTraces = false) (hz : ¬ nrm z = 0) : EvX G l y5_requireIndex b5_requireIndex 1 none 0 0 0 [vI z] V (.ok none) V := by
  refine ev_w hlt (by decide +kernel) rfl rfl (fun X hl hx C M => ?_)
  subst hl
  replace C : Cx G X "ChannelSchedule" b5_requireIndex := C
  show At G X 0 0 0 [(0, vI z)] [] V
  refine r_iload_n C d5_requireIndex_0 rfl ?_
  refine x_ifne (tgt := 12) C d5_requireIndex_1 rfl (fun c => absurd c hz) (fun c => ?_)
  exact v_vret C M d5_requireIndex_12 (Nat.le_refl _) (Nat.le_refl _) ⟨rfl, rfl⟩
theorem ev5_requireArgument {G : GT} {V : VV} {l : Launch} {z : Int} (hlt : l.stackTraces = false) (hz : ¬ nrm z = 0) : EvX G l y5_requireArgument b5_requireArgument 1 none 0 0 0 [vI z] V (.ok none) V := by
  refine ev_w hlt (by decide +kernel) rfl rfl (fun X hl hx C M => ?_)
  subst hl
  replace C : Cx G X "ChannelSchedule" b5_requireArgument := C
  show At G X 0 0 0 [(0, vI z)] [] V
  refine r_iload_n C d5_requireArgument_0 rfl ?_
  refine x_ifne (tgt := 12) C d5_requireArgument_1 rfl (fun c => absurd c hz) (fun c => ?_)
  exact v_vret C M d5_requireArgument_12 (Nat.le_refl _) (Nat.le_refl _) ⟨rfl, rfl⟩
theorem ev5_requireState {G : GT} {V : VV} {l : Launch} {z : Int} (hlt : l.stackTraces = false) (hz : ¬ nrm z = 0) : EvX G l y5_requireState b5_requireState 1 none 0 0 0 [vI z] V (.ok none) V := by
  refine ev_w hlt (by decide +kernel) rfl rfl (fun X hl hx C M => ?_)
  subst hl
  replace C : Cx G X "ChannelSchedule" b5_requireState := C
  show At G X 0 0 0 [(0, vI z)] [] V
  refine r_iload_n C d5_requireState_0 rfl ?_
  refine x_ifne (tgt := 12) C d5_requireState_1 rfl (fun c => absurd c hz) (fun c => ?_)
  exact v_vret C M d5_requireState_12 (Nat.le_refl _) (Nat.le_refl _) ⟨rfl, rfl⟩
theorem ev5_refuse {G : GT} {V : VV} {l : Launch} {z : Int} (hlt : l.stackTraces = false) (hz : ¬ nrm z = 1 ∧ ¬ nrm z = 2 ∧ ¬ nrm z = 3) : EvX G l y5_refuse b5_refuse 1 none 1 0 0 [vI z] V (.ok none) V := by
  refine ev_w hlt (by decide +kernel) rfl rfl (fun X hl hx C M => ?_)
  subst hl
  replace C : Cx G X "ChannelSchedule" b5_refuse := C
  show At G X 0 0 0 [(0, vI z)] [] V
  have n1 : nrm 1 = 1 := rfl
  have n2 : nrm 2 = 2 := rfl
  have n3 : nrm 3 = 3 := rfl
  refine r_iload_n C d5_refuse_0 rfl ?_
  refine r_iconst C d5_refuse_1 ?_
  suffices J1 : ∀ w : Int, (nrm z = 1 → w = 0) → (¬ nrm z = 1 → w = 1) → At G X 0 0 10 [(0, vI z)] [vI w] V by
    refine x_icmpeq (tgt := 9) C d5_refuse_2 rfl (fun c => ?_) (fun c => ?_)
    · refine r_iconst C d5_refuse_9 (J1 0 (fun _ => rfl) (fun q => absurd c q))
    · refine r_iconst C d5_refuse_5 ?_
      exact r_goto (tgt := 10) C d5_refuse_6 rfl (J1 1 (fun q => absurd q c) (fun _ => rfl))
  intro w w1 w2
  have g1 : ¬ nrm z = 1 := hz.1
  refine cS1_v C M d5_refuse_10 l5_136 w5_requireIndex (ev5_requireIndex C.lt (by rw [w2 g1]; decide +kernel)) rfl (Nat.le_refl _) (Nat.le_refl _) ?_
  clear w1 w2
  refine r_iload_n C d5_refuse_13 rfl ?_
  refine r_iconst C d5_refuse_14 ?_
  suffices J1 : ∀ w : Int, (nrm z = 2 → w = 0) → (¬ nrm z = 2 → w = 1) → At G X 0 0 23 [(0, vI z)] [vI w] V by
    refine x_icmpeq (tgt := 22) C d5_refuse_15 rfl (fun c => ?_) (fun c => ?_)
    · refine r_iconst C d5_refuse_22 (J1 0 (fun _ => rfl) (fun q => absurd c q))
    · refine r_iconst C d5_refuse_18 ?_
      exact r_goto (tgt := 23) C d5_refuse_19 rfl (J1 1 (fun q => absurd q c) (fun _ => rfl))
  clear w
  intro w w1 w2
  have g2 : ¬ nrm z = 2 := hz.2.1
  refine cS1_v C M d5_refuse_23 l5_108 w5_requireArgument (ev5_requireArgument C.lt (by rw [w2 g2]; decide +kernel)) rfl (Nat.le_refl _) (Nat.le_refl _) ?_
  clear w1 w2
  refine r_iload_n C d5_refuse_26 rfl ?_
  refine r_iconst C d5_refuse_27 ?_
  suffices J1 : ∀ w : Int, (nrm z = 3 → w = 0) → (¬ nrm z = 3 → w = 1) → At G X 0 0 36 [(0, vI z)] [vI w] V by
    refine x_icmpeq (tgt := 35) C d5_refuse_28 rfl (fun c => ?_) (fun c => ?_)
    · refine r_iconst C d5_refuse_35 (J1 0 (fun _ => rfl) (fun q => absurd c q))
    · refine r_iconst C d5_refuse_31 ?_
      exact r_goto (tgt := 36) C d5_refuse_32 rfl (J1 1 (fun q => absurd q c) (fun _ => rfl))
  clear w
  intro w w1 w2
  have g3 : ¬ nrm z = 3 := hz.2.2
  refine cS1_v C M d5_refuse_36 l5_97 w5_requireState (ev5_requireState C.lt (by rw [w2 g3]; decide +kernel)) rfl (Nat.le_refl _) (Nat.le_refl _) ?_
  exact v_vret C M d5_refuse_39 (Nat.le_refl _) (Nat.le_refl _) ⟨rfl, rfl⟩
end
section
/-! more rows for the walks -/
def mxI (a b : Int) : Int := if nrm a < nrm b then b else a
def mnI (a b : Int) : Int := if nrm b < nrm a then b else a
section
variable {G : GT} {X : CT} {cells slots pc : Nat} {lv : List (Nat × Value)} {st : List Value} {V : VV} {own : String} {cc : ByteArray}
theorem AtH.sw {N : Nat} {h : HT} {lw : List (Nat × Value)} (k : AtH G X cells slots pc lw st N h) (hw : subL lw lv) : AtH G X cells slots pc lv st N h := AtH.w (subL_all hw) k
theorem nrm_iI (z : Int) : (iI z).toInt = nrm z := rfl
theorem x_mmax {idx d0 mc0 ms0 : Nat} {x y : Int} {ret0 : Option FieldType} {rest : List Value} {o0 : Except String (Option Value)} {V0 : VV} (C : Cx G X own cc) (M : MX G X d0 mc0 ms0 ret0 o0 V0) (d : decode cc pc = .ok (.invokestatic idx, 3)) (wl : .methodLink own idx ⟨"java/lang/Math", "max", "(II)I"⟩ ∈ LW) (hb : (Nat.ble 1 d0 && Nat.ble (rest.map fun v => v.category).sum 8) = true) (hc : cells ≤ mc0) (hs : slots ≤ ms0)
    (kk : At G X cells slots (pc + 3) lv (vI (mxI x y) :: rest) V) : At G X cells slots pc lv (vI y :: vI x :: rest) V := by
  obtain ⟨p, l, e, R, s, m, args, below, meth, c, Q, nL⟩ := X
  intro H locs ls hW hS hls
  obtain ⟨hR, -, -, -⟩ := M
  subst hR
  simp only [Bool.and_eq_true] at hb
  have hb1 := Nat.le_of_ble_eq_true hb.1
  have hb2 := Nat.le_of_ble_eq_true hb.2
  refine va_mmax C.1 C.2.1 (by rw [hls.1]; exact C.2.2.1) C.2.2.2.1 (C.2.2.2.2.1 _ wl) (C.2.2.2.2.1 _ wJ9_max_7cf53.1) (C.2.2.2.2.1 _ wJ9_max_7cf53.2.1) (C.2.2.2.2.1 _ wJ9_max_7cf53.2.2.1) hb1 (by show _ ≤ 40 * d0; omega) hc hs d ?_
  have e : (Value.int (if iI x < iI y then iI y else iI x)) = vI (mxI x y) := by
    unfold mxI
    by_cases q : nrm x < nrm y
    · rw [if_pos q, if_pos (Int32.lt_iff_toInt_lt.mpr q)]
    · rw [if_neg q, if_neg (fun z => q (Int32.lt_iff_toInt_lt.mp z))]
  rw [e]
  exact kk H locs ls hW hS hls
theorem x_mmin {idx d0 mc0 ms0 : Nat} {x y : Int} {ret0 : Option FieldType} {rest : List Value} {o0 : Except String (Option Value)} {V0 : VV} (C : Cx G X own cc) (M : MX G X d0 mc0 ms0 ret0 o0 V0) (d : decode cc pc = .ok (.invokestatic idx, 3)) (wl : .methodLink own idx ⟨"java/lang/Math", "min", "(II)I"⟩ ∈ LW) (hb : (Nat.ble 1 d0 && Nat.ble (rest.map fun v => v.category).sum 8) = true) (hc : cells ≤ mc0) (hs : slots ≤ ms0)
    (kk : At G X cells slots (pc + 3) lv (vI (mnI x y) :: rest) V) : At G X cells slots pc lv (vI y :: vI x :: rest) V := by
  obtain ⟨p, l, e, R, s, m, args, below, meth, c, Q, nL⟩ := X
  intro H locs ls hW hS hls
  obtain ⟨hR, -, -, -⟩ := M
  subst hR
  simp only [Bool.and_eq_true] at hb
  have hb1 := Nat.le_of_ble_eq_true hb.1
  have hb2 := Nat.le_of_ble_eq_true hb.2
  refine va_mmin C.1 C.2.1 (by rw [hls.1]; exact C.2.2.1) C.2.2.2.1 (C.2.2.2.2.1 _ wl) (C.2.2.2.2.1 _ wJ9_min_7cf53.1) (C.2.2.2.2.1 _ wJ9_min_7cf53.2.1) (C.2.2.2.2.1 _ wJ9_min_7cf53.2.2.1) hb1 (by show _ ≤ 40 * d0; omega) hc hs d ?_
  have e : (Value.int (if iI y < iI x then iI y else iI x)) = vI (mnI x y) := by
    unfold mnI
    by_cases q : nrm y < nrm x
    · rw [if_pos q, if_pos (Int32.lt_iff_toInt_lt.mpr q)]
    · rw [if_neg q, if_neg (fun z => q (Int32.lt_iff_toInt_lt.mp z))]
  rw [e]
  exact kk H locs ls hW hS hls
end
end
section
/-! calls over any room: the law's own frame -/
abbrev xS (X : CT) : State := X.2.2.2.2.1
section
variable {G : GT} {X : CT} {cells slots pc : Nat} {lv : List (Nat × Value)} {own : String} {cc : ByteArray} {R0 : Room}
/-- what goes on behind a call -/
theorem run_on {p : Program} {l : Launch} {e : Env} {R : Room} {s : State} {m : MethodId} {args a : Array Value} {below : List Frame} {meth : Method} {c : Code} {Q : State → Prop} {H : Heap} {locs : List Loc} {ls : Array Slot} {mc ms : Nat} {st0 rest : List Value} {post : Option Value → Nat → HT → Prop} {postX : String → Nat → HT → Prop} (hrun : vx_Run p l e R s m args below meth c H locs cells slots mc ms (F0 m pc ls st0) rest (QH G post a) (XH G postX) (gR G)) (hS : va_S (gR G) s.heap H locs)
    (kx : ∀ (E : String) (N' : Nat) (h' : HT), ¬ postX E N' h')
    (kk : ∀ (v : Option Value) (N' : Nat) (h' : HT) (H1 : Heap) (locs1 : List Loc), post v N' h' → Wd G N' h' H1 → va_S (gR G) s.heap H1 locs1 → W p l e R s m args below meth c H1 locs1 (cells + mc) (slots + ms) Q (F0 m (pc + 3) ls (v.toList ++ rest))) : W p l e R s m args below meth c H locs cells slots Q (F0 m pc ls st0) := by
  have hA : ∀ q, q < H.size → gR G q → gR G q := fun _ _ q => q
  intro T hT X0
  rcases hrun T hT X0 with ⟨v, st₀, t, T', L, h0, X', hL, e1, e2, ⟨v', N', h', hv, hp, hWd, hFr⟩, stp⟩ | ⟨q, st₀, t, T', L, E, ce, h0, X', hL, e1, e2, ⟨N', h', hp, hWd, hFr⟩, hce, hcv, hcl, stp⟩
  · cases hv
    obtain ⟨k1, k2, k3⟩ := vx_keep h0 e1 hS hA (fun _ q => q) hL hFr
    obtain ⟨t2, a1, b1⟩ := kk v N' h' T'.heap (locs ++ L) hp (by rw [e1]; exact hWd) k3 T' rfl X'
    exact ⟨t2, stp t2 a1, b1⟩
  · exact absurd hp (kx E N' h')
/-- a method that ends well is called, over any room -/
theorem q_callV {idx kk0 nLy n dy a0 : Nat} {y : MethodName} {ccy : ByteArray} {ret : Option FieldType} {As rest st0 : List Value} {o : Option Value} {V V1 : VV}
    (C : Cx G X own cc) (hR : xR X = R0) (d : decode cc pc = .ok (.invokevirtual idx, 3)) (wl : .methodLink own idx y ∈ LW) (wy : YV y ccy nLy ret n) (rc : RC G kk0 a0 y.cls) (hE : EvX G (xl X) y ccy nLy ret dy 0 0 (.ref a0 :: As) V (.ok o) V1) (hst : st0 = As.reverse ++ .ref a0 :: rest) (hn : As.length = n)
    (hcat : (rest.map fun v => v.category).sum ≤ 8) (hd : dy + 1 ≤ R0.frames) (hlo : 8 + (nLy + 11) + 40 * dy ≤ R0.locals) (hmc : cells ≤ R0.cells) (hms : slots ≤ R0.slots)
    (kk : At G X cells slots (pc + 3) lv (o.toList ++ rest) V1) : At G X cells slots pc lv st0 V := by
  obtain ⟨p, l, e, R, s, m, args, below, meth, c, Q, nL⟩ := X
  intro H locs ls hW hS hls
  subst hR
  obtain ⟨hexec, hb, hml, hown, hts, hK, hF, hlocks, -, hbs⟩ := C
  obtain ⟨w1, w2, w3, w4, w5, w6⟩ := wy
  obtain ⟨ha, hk, ci, fs, cf, hci⟩ := rc
  subst ha
  have hcb : CallB R s args own idx y ccy nLy ret (.code y ccy nLy ret :: LW) (rmD dy 0 0) 0 0 n := by
    refine ⟨rfl, rfl, hd, hlo, ?_, List.mem_cons_self, hts _ w4, hts _ w3, w5, fun sig h => ?_, hts _ wl⟩
    · intro w hw a' U hW
      have hm : w ∈ LW := by
        rcases List.mem_cons.mp hw with e | e
        · rw [e]; exact w4
        · exact e
      exact word_at hW (LW_good hm) (hts w hm)
    · rw [h] at w6
      exact (Option.some.inj w6).symm
  have hwat := hW.at hk
  rw [show hV G V kk0 = .inr (ci, fs (V kk0)) from cf _] at hwat
  obtain ⟨r9, hr9, cell9, q1, q2, q3, -⟩ := hwat
  have hcls : s.vm.findClass y.cls = some cell9.cls := by
    have h1 := (hK.1 ci r9 hr9).2.1
    rw [hr9] at hci
    have h2 : r9.1 = y.cls := Option.some.inj hci
    rw [← h2, q2]
    exact h1
  have hpre : PreV s H y.cls (ad G kk0) (PH G (.ref (ad G kk0) :: As) (gN G) (hV G V)) As := by
    refine ⟨PH_blind, ⟨cell9, q1, by rw [q3]; rfl, hcls⟩, fun U hU hWm => ⟨rfl, by rw [hU]; exact hW, va_K.moved hWm.alike hK, ?_⟩⟩
    rw [hU]
    exact (hF.kept (fun a h1 h2 => hS.2.1 a h1 h2)).moved hWm
  have hrun := vx_runV (H := H) (locs := locs) (cells := cells) (slots := slots) (p := p) (e := e) (below := below) (meth := meth) (rest := rest) (As := As) (b := ad G kk0) (g := F0 m pc ls st0) ⟨hexec, hb, hml, hown, hts⟩ hE ⟨hcb, hts _ w1, hts _ w2⟩ hpre rfl hn hls.1 hst (lv_room hcat) d ⟨hmc, hms⟩
  refine run_on hrun hS (fun E N' h' hp => by obtain ⟨-, V', -, q, -⟩ := hp; cases q) (fun v N' h' H1 locs1 hp hWd hS1 => ?_)
  obtain ⟨p1, V', p2, p3, p4⟩ := hp
  subst p1; subst p2; cases p3; subst p4
  exact kk H1 locs1 ls hWd hS1 hls
theorem q_callS {idx nLy n dy : Nat} {y : MethodName} {ccy : ByteArray} {ret : Option FieldType} {As rest st0 : List Value} {o : Option Value} {V V1 : VV}
    (C : Cx G X own cc) (hR : xR X = R0) (d : decode cc pc = .ok (.invokestatic idx, 3)) (wl : .methodLink own idx y ∈ LW) (wy : YS y ccy nLy ret n) (hE : EvX G (xl X) y ccy nLy ret dy 0 0 As V (.ok o) V1) (hst : st0 = As.reverse ++ rest) (hn : As.length = n)
    (hcat : (rest.map fun v => v.category).sum ≤ 8) (hd : dy + 1 ≤ R0.frames) (hlo : 8 + (nLy + 11) + 40 * dy ≤ R0.locals) (hmc : cells ≤ R0.cells) (hms : slots ≤ R0.slots)
    (kk : At G X cells slots (pc + 3) lv (o.toList ++ rest) V1) : At G X cells slots pc lv st0 V := by
  obtain ⟨p, l, e, R, s, m, args, below, meth, c, Q, nL⟩ := X
  intro H locs ls hW hS hls
  subst hR
  obtain ⟨hexec, hb, hml, hown, hts, hK, hF, hlocks, -, hbs⟩ := C
  obtain ⟨w2, w3, w4, w5, w6⟩ := wy
  have hcb : CallB R s args own idx y ccy nLy ret (.code y ccy nLy ret :: LW) (rmD dy 0 0) 0 0 n := by
    refine ⟨rfl, rfl, hd, hlo, ?_, List.mem_cons_self, hts _ w4, hts _ w3, w5, fun sig h => ?_, hts _ wl⟩
    · intro w hw a' U hW
      have hm : w ∈ LW := by
        rcases List.mem_cons.mp hw with e | e
        · rw [e]; exact w4
        · exact e
      exact word_at hW (LW_good hm) (hts w hm)
    · rw [h] at w6
      exact (Option.some.inj w6).symm
  have hpre : PreS s H (PH G As (gN G) (hV G V)) As := by
    refine ⟨PH_blind, fun U hU hWm => ⟨rfl, by rw [hU]; exact hW, va_K.moved hWm.alike hK, ?_⟩⟩
    rw [hU]
    exact (hF.kept (fun a h1 h2 => hS.2.1 a h1 h2)).moved hWm
  have hrun := vx_runS (H := H) (locs := locs) (cells := cells) (slots := slots) (p := p) (e := e) (below := below) (meth := meth) (rest := rest) (As := As) (g := F0 m pc ls st0) ⟨hexec, hb, hml, hown, hts⟩ hE ⟨hcb, hts _ w2⟩ hpre rfl hn hls.1 hst (lv_room hcat) d ⟨hmc, hms⟩
  refine run_on hrun hS (fun E N' h' hp => by obtain ⟨-, V', -, q, -⟩ := hp; cases q) (fun v N' h' H1 locs1 hp hWd hS1 => ?_)
  obtain ⟨p1, V', p2, p3, p4⟩ := hp
  subst p1; subst p2; cases p3; subst p4
  exact kk H1 locs1 ls hWd hS1 hls
theorem qV0_i {idx kk0 a0 nLy dy : Nat} {y : MethodName} {ccy : ByteArray} {ret : Option FieldType} {rest : List Value} {z : Int} {V V1 : VV} (C : Cx G X own cc) (hR : xR X = room_1) (d : decode cc pc = .ok (.invokevirtual idx, 3)) (wl : .methodLink own idx y ∈ LW) (wy : YV y ccy nLy ret 0) (rc : RC G kk0 a0 y.cls) (hE : EvX G (xl X) y ccy nLy ret dy 0 0 (.ref a0 :: []) V (.ok (some (vI z))) V1) (hb : (Nat.ble (dy + 1) 16 && Nat.ble (8 + (nLy + 11) + 40 * dy) 626 && Nat.ble (rest.map fun v => v.category).sum 8) = true) (hc : cells ≤ 600086) (hs : slots ≤ 7301442)
    (kk : At G X cells slots (pc + 3) lv (vI z :: rest) V1) : At G X cells slots pc lv (.ref a0 :: rest) V := by
  simp only [Bool.and_eq_true] at hb
  exact q_callV C hR d wl wy rc hE rfl rfl (Nat.le_of_ble_eq_true hb.2) (Nat.le_of_ble_eq_true hb.1.1) (Nat.le_of_ble_eq_true hb.1.2) hc hs kk
theorem qV0_v {idx kk0 a0 nLy dy : Nat} {y : MethodName} {ccy : ByteArray} {ret : Option FieldType} {rest : List Value} {V V1 : VV} (C : Cx G X own cc) (hR : xR X = room_1) (d : decode cc pc = .ok (.invokevirtual idx, 3)) (wl : .methodLink own idx y ∈ LW) (wy : YV y ccy nLy ret 0) (rc : RC G kk0 a0 y.cls) (hE : EvX G (xl X) y ccy nLy ret dy 0 0 (.ref a0 :: []) V (.ok none) V1) (hb : (Nat.ble (dy + 1) 16 && Nat.ble (8 + (nLy + 11) + 40 * dy) 626 && Nat.ble (rest.map fun v => v.category).sum 8) = true) (hc : cells ≤ 600086) (hs : slots ≤ 7301442)
    (kk : At G X cells slots (pc + 3) lv (rest) V1) : At G X cells slots pc lv (.ref a0 :: rest) V := by
  simp only [Bool.and_eq_true] at hb
  exact q_callV C hR d wl wy rc hE rfl rfl (Nat.le_of_ble_eq_true hb.2) (Nat.le_of_ble_eq_true hb.1.1) (Nat.le_of_ble_eq_true hb.1.2) hc hs kk
theorem qS0_i {idx nLy dy : Nat} {y : MethodName} {ccy : ByteArray} {ret : Option FieldType} {rest : List Value} {z : Int} {V V1 : VV} (C : Cx G X own cc) (hR : xR X = room_1) (d : decode cc pc = .ok (.invokestatic idx, 3)) (wl : .methodLink own idx y ∈ LW) (wy : YS y ccy nLy ret 0) (hE : EvX G (xl X) y ccy nLy ret dy 0 0 [] V (.ok (some (vI z))) V1) (hb : (Nat.ble (dy + 1) 16 && Nat.ble (8 + (nLy + 11) + 40 * dy) 626 && Nat.ble (rest.map fun v => v.category).sum 8) = true) (hc : cells ≤ 600086) (hs : slots ≤ 7301442)
    (kk : At G X cells slots (pc + 3) lv (vI z :: rest) V1) : At G X cells slots pc lv (rest) V := by
  simp only [Bool.and_eq_true] at hb
  exact q_callS C hR d wl wy hE rfl rfl (Nat.le_of_ble_eq_true hb.2) (Nat.le_of_ble_eq_true hb.1.1) (Nat.le_of_ble_eq_true hb.1.2) hc hs kk
theorem qS0_v {idx nLy dy : Nat} {y : MethodName} {ccy : ByteArray} {ret : Option FieldType} {rest : List Value} {V V1 : VV} (C : Cx G X own cc) (hR : xR X = room_1) (d : decode cc pc = .ok (.invokestatic idx, 3)) (wl : .methodLink own idx y ∈ LW) (wy : YS y ccy nLy ret 0) (hE : EvX G (xl X) y ccy nLy ret dy 0 0 [] V (.ok none) V1) (hb : (Nat.ble (dy + 1) 16 && Nat.ble (8 + (nLy + 11) + 40 * dy) 626 && Nat.ble (rest.map fun v => v.category).sum 8) = true) (hc : cells ≤ 600086) (hs : slots ≤ 7301442)
    (kk : At G X cells slots (pc + 3) lv (rest) V1) : At G X cells slots pc lv (rest) V := by
  simp only [Bool.and_eq_true] at hb
  exact q_callS C hR d wl wy hE rfl rfl (Nat.le_of_ble_eq_true hb.2) (Nat.le_of_ble_eq_true hb.1.1) (Nat.le_of_ble_eq_true hb.1.2) hc hs kk
theorem qV1_i {idx kk0 a0 nLy dy : Nat} {y : MethodName} {ccy : ByteArray} {ret : Option FieldType} {rest : List Value} {a1 : Value} {z : Int} {V V1 : VV} (C : Cx G X own cc) (hR : xR X = room_1) (d : decode cc pc = .ok (.invokevirtual idx, 3)) (wl : .methodLink own idx y ∈ LW) (wy : YV y ccy nLy ret 1) (rc : RC G kk0 a0 y.cls) (hE : EvX G (xl X) y ccy nLy ret dy 0 0 (.ref a0 :: [a1]) V (.ok (some (vI z))) V1) (hb : (Nat.ble (dy + 1) 16 && Nat.ble (8 + (nLy + 11) + 40 * dy) 626 && Nat.ble (rest.map fun v => v.category).sum 8) = true) (hc : cells ≤ 600086) (hs : slots ≤ 7301442)
    (kk : At G X cells slots (pc + 3) lv (vI z :: rest) V1) : At G X cells slots pc lv (a1 :: .ref a0 :: rest) V := by
  simp only [Bool.and_eq_true] at hb
  exact q_callV C hR d wl wy rc hE rfl rfl (Nat.le_of_ble_eq_true hb.2) (Nat.le_of_ble_eq_true hb.1.1) (Nat.le_of_ble_eq_true hb.1.2) hc hs kk
theorem qV1_v {idx kk0 a0 nLy dy : Nat} {y : MethodName} {ccy : ByteArray} {ret : Option FieldType} {rest : List Value} {a1 : Value} {V V1 : VV} (C : Cx G X own cc) (hR : xR X = room_1) (d : decode cc pc = .ok (.invokevirtual idx, 3)) (wl : .methodLink own idx y ∈ LW) (wy : YV y ccy nLy ret 1) (rc : RC G kk0 a0 y.cls) (hE : EvX G (xl X) y ccy nLy ret dy 0 0 (.ref a0 :: [a1]) V (.ok none) V1) (hb : (Nat.ble (dy + 1) 16 && Nat.ble (8 + (nLy + 11) + 40 * dy) 626 && Nat.ble (rest.map fun v => v.category).sum 8) = true) (hc : cells ≤ 600086) (hs : slots ≤ 7301442)
    (kk : At G X cells slots (pc + 3) lv (rest) V1) : At G X cells slots pc lv (a1 :: .ref a0 :: rest) V := by
  simp only [Bool.and_eq_true] at hb
  exact q_callV C hR d wl wy rc hE rfl rfl (Nat.le_of_ble_eq_true hb.2) (Nat.le_of_ble_eq_true hb.1.1) (Nat.le_of_ble_eq_true hb.1.2) hc hs kk
theorem qS1_i {idx nLy dy : Nat} {y : MethodName} {ccy : ByteArray} {ret : Option FieldType} {rest : List Value} {a1 : Value} {z : Int} {V V1 : VV} (C : Cx G X own cc) (hR : xR X = room_1) (d : decode cc pc = .ok (.invokestatic idx, 3)) (wl : .methodLink own idx y ∈ LW) (wy : YS y ccy nLy ret 1) (hE : EvX G (xl X) y ccy nLy ret dy 0 0 [a1] V (.ok (some (vI z))) V1) (hb : (Nat.ble (dy + 1) 16 && Nat.ble (8 + (nLy + 11) + 40 * dy) 626 && Nat.ble (rest.map fun v => v.category).sum 8) = true) (hc : cells ≤ 600086) (hs : slots ≤ 7301442)
    (kk : At G X cells slots (pc + 3) lv (vI z :: rest) V1) : At G X cells slots pc lv (a1 :: rest) V := by
  simp only [Bool.and_eq_true] at hb
  exact q_callS C hR d wl wy hE rfl rfl (Nat.le_of_ble_eq_true hb.2) (Nat.le_of_ble_eq_true hb.1.1) (Nat.le_of_ble_eq_true hb.1.2) hc hs kk
theorem qS1_v {idx nLy dy : Nat} {y : MethodName} {ccy : ByteArray} {ret : Option FieldType} {rest : List Value} {a1 : Value} {V V1 : VV} (C : Cx G X own cc) (hR : xR X = room_1) (d : decode cc pc = .ok (.invokestatic idx, 3)) (wl : .methodLink own idx y ∈ LW) (wy : YS y ccy nLy ret 1) (hE : EvX G (xl X) y ccy nLy ret dy 0 0 [a1] V (.ok none) V1) (hb : (Nat.ble (dy + 1) 16 && Nat.ble (8 + (nLy + 11) + 40 * dy) 626 && Nat.ble (rest.map fun v => v.category).sum 8) = true) (hc : cells ≤ 600086) (hs : slots ≤ 7301442)
    (kk : At G X cells slots (pc + 3) lv (rest) V1) : At G X cells slots pc lv (a1 :: rest) V := by
  simp only [Bool.and_eq_true] at hb
  exact q_callS C hR d wl wy hE rfl rfl (Nat.le_of_ble_eq_true hb.2) (Nat.le_of_ble_eq_true hb.1.1) (Nat.le_of_ble_eq_true hb.1.2) hc hs kk
theorem qV2_i {idx kk0 a0 nLy dy : Nat} {y : MethodName} {ccy : ByteArray} {ret : Option FieldType} {rest : List Value} {a1 a2 : Value} {z : Int} {V V1 : VV} (C : Cx G X own cc) (hR : xR X = room_1) (d : decode cc pc = .ok (.invokevirtual idx, 3)) (wl : .methodLink own idx y ∈ LW) (wy : YV y ccy nLy ret 2) (rc : RC G kk0 a0 y.cls) (hE : EvX G (xl X) y ccy nLy ret dy 0 0 (.ref a0 :: [a1, a2]) V (.ok (some (vI z))) V1) (hb : (Nat.ble (dy + 1) 16 && Nat.ble (8 + (nLy + 11) + 40 * dy) 626 && Nat.ble (rest.map fun v => v.category).sum 8) = true) (hc : cells ≤ 600086) (hs : slots ≤ 7301442)
    (kk : At G X cells slots (pc + 3) lv (vI z :: rest) V1) : At G X cells slots pc lv (a2 :: a1 :: .ref a0 :: rest) V := by
  simp only [Bool.and_eq_true] at hb
  exact q_callV C hR d wl wy rc hE rfl rfl (Nat.le_of_ble_eq_true hb.2) (Nat.le_of_ble_eq_true hb.1.1) (Nat.le_of_ble_eq_true hb.1.2) hc hs kk
theorem qV2_v {idx kk0 a0 nLy dy : Nat} {y : MethodName} {ccy : ByteArray} {ret : Option FieldType} {rest : List Value} {a1 a2 : Value} {V V1 : VV} (C : Cx G X own cc) (hR : xR X = room_1) (d : decode cc pc = .ok (.invokevirtual idx, 3)) (wl : .methodLink own idx y ∈ LW) (wy : YV y ccy nLy ret 2) (rc : RC G kk0 a0 y.cls) (hE : EvX G (xl X) y ccy nLy ret dy 0 0 (.ref a0 :: [a1, a2]) V (.ok none) V1) (hb : (Nat.ble (dy + 1) 16 && Nat.ble (8 + (nLy + 11) + 40 * dy) 626 && Nat.ble (rest.map fun v => v.category).sum 8) = true) (hc : cells ≤ 600086) (hs : slots ≤ 7301442)
    (kk : At G X cells slots (pc + 3) lv (rest) V1) : At G X cells slots pc lv (a2 :: a1 :: .ref a0 :: rest) V := by
  simp only [Bool.and_eq_true] at hb
  exact q_callV C hR d wl wy rc hE rfl rfl (Nat.le_of_ble_eq_true hb.2) (Nat.le_of_ble_eq_true hb.1.1) (Nat.le_of_ble_eq_true hb.1.2) hc hs kk
theorem qS2_i {idx nLy dy : Nat} {y : MethodName} {ccy : ByteArray} {ret : Option FieldType} {rest : List Value} {a1 a2 : Value} {z : Int} {V V1 : VV} (C : Cx G X own cc) (hR : xR X = room_1) (d : decode cc pc = .ok (.invokestatic idx, 3)) (wl : .methodLink own idx y ∈ LW) (wy : YS y ccy nLy ret 2) (hE : EvX G (xl X) y ccy nLy ret dy 0 0 [a1, a2] V (.ok (some (vI z))) V1) (hb : (Nat.ble (dy + 1) 16 && Nat.ble (8 + (nLy + 11) + 40 * dy) 626 && Nat.ble (rest.map fun v => v.category).sum 8) = true) (hc : cells ≤ 600086) (hs : slots ≤ 7301442)
    (kk : At G X cells slots (pc + 3) lv (vI z :: rest) V1) : At G X cells slots pc lv (a2 :: a1 :: rest) V := by
  simp only [Bool.and_eq_true] at hb
  exact q_callS C hR d wl wy hE rfl rfl (Nat.le_of_ble_eq_true hb.2) (Nat.le_of_ble_eq_true hb.1.1) (Nat.le_of_ble_eq_true hb.1.2) hc hs kk
theorem qS2_v {idx nLy dy : Nat} {y : MethodName} {ccy : ByteArray} {ret : Option FieldType} {rest : List Value} {a1 a2 : Value} {V V1 : VV} (C : Cx G X own cc) (hR : xR X = room_1) (d : decode cc pc = .ok (.invokestatic idx, 3)) (wl : .methodLink own idx y ∈ LW) (wy : YS y ccy nLy ret 2) (hE : EvX G (xl X) y ccy nLy ret dy 0 0 [a1, a2] V (.ok none) V1) (hb : (Nat.ble (dy + 1) 16 && Nat.ble (8 + (nLy + 11) + 40 * dy) 626 && Nat.ble (rest.map fun v => v.category).sum 8) = true) (hc : cells ≤ 600086) (hs : slots ≤ 7301442)
    (kk : At G X cells slots (pc + 3) lv (rest) V1) : At G X cells slots pc lv (a2 :: a1 :: rest) V := by
  simp only [Bool.and_eq_true] at hb
  exact q_callS C hR d wl wy hE rfl rfl (Nat.le_of_ble_eq_true hb.2) (Nat.le_of_ble_eq_true hb.1.1) (Nat.le_of_ble_eq_true hb.1.2) hc hs kk
theorem qV3_i {idx kk0 a0 nLy dy : Nat} {y : MethodName} {ccy : ByteArray} {ret : Option FieldType} {rest : List Value} {a1 a2 a3 : Value} {z : Int} {V V1 : VV} (C : Cx G X own cc) (hR : xR X = room_1) (d : decode cc pc = .ok (.invokevirtual idx, 3)) (wl : .methodLink own idx y ∈ LW) (wy : YV y ccy nLy ret 3) (rc : RC G kk0 a0 y.cls) (hE : EvX G (xl X) y ccy nLy ret dy 0 0 (.ref a0 :: [a1, a2, a3]) V (.ok (some (vI z))) V1) (hb : (Nat.ble (dy + 1) 16 && Nat.ble (8 + (nLy + 11) + 40 * dy) 626 && Nat.ble (rest.map fun v => v.category).sum 8) = true) (hc : cells ≤ 600086) (hs : slots ≤ 7301442)
    (kk : At G X cells slots (pc + 3) lv (vI z :: rest) V1) : At G X cells slots pc lv (a3 :: a2 :: a1 :: .ref a0 :: rest) V := by
  simp only [Bool.and_eq_true] at hb
  exact q_callV C hR d wl wy rc hE rfl rfl (Nat.le_of_ble_eq_true hb.2) (Nat.le_of_ble_eq_true hb.1.1) (Nat.le_of_ble_eq_true hb.1.2) hc hs kk
theorem qV3_v {idx kk0 a0 nLy dy : Nat} {y : MethodName} {ccy : ByteArray} {ret : Option FieldType} {rest : List Value} {a1 a2 a3 : Value} {V V1 : VV} (C : Cx G X own cc) (hR : xR X = room_1) (d : decode cc pc = .ok (.invokevirtual idx, 3)) (wl : .methodLink own idx y ∈ LW) (wy : YV y ccy nLy ret 3) (rc : RC G kk0 a0 y.cls) (hE : EvX G (xl X) y ccy nLy ret dy 0 0 (.ref a0 :: [a1, a2, a3]) V (.ok none) V1) (hb : (Nat.ble (dy + 1) 16 && Nat.ble (8 + (nLy + 11) + 40 * dy) 626 && Nat.ble (rest.map fun v => v.category).sum 8) = true) (hc : cells ≤ 600086) (hs : slots ≤ 7301442)
    (kk : At G X cells slots (pc + 3) lv (rest) V1) : At G X cells slots pc lv (a3 :: a2 :: a1 :: .ref a0 :: rest) V := by
  simp only [Bool.and_eq_true] at hb
  exact q_callV C hR d wl wy rc hE rfl rfl (Nat.le_of_ble_eq_true hb.2) (Nat.le_of_ble_eq_true hb.1.1) (Nat.le_of_ble_eq_true hb.1.2) hc hs kk
theorem qS3_i {idx nLy dy : Nat} {y : MethodName} {ccy : ByteArray} {ret : Option FieldType} {rest : List Value} {a1 a2 a3 : Value} {z : Int} {V V1 : VV} (C : Cx G X own cc) (hR : xR X = room_1) (d : decode cc pc = .ok (.invokestatic idx, 3)) (wl : .methodLink own idx y ∈ LW) (wy : YS y ccy nLy ret 3) (hE : EvX G (xl X) y ccy nLy ret dy 0 0 [a1, a2, a3] V (.ok (some (vI z))) V1) (hb : (Nat.ble (dy + 1) 16 && Nat.ble (8 + (nLy + 11) + 40 * dy) 626 && Nat.ble (rest.map fun v => v.category).sum 8) = true) (hc : cells ≤ 600086) (hs : slots ≤ 7301442)
    (kk : At G X cells slots (pc + 3) lv (vI z :: rest) V1) : At G X cells slots pc lv (a3 :: a2 :: a1 :: rest) V := by
  simp only [Bool.and_eq_true] at hb
  exact q_callS C hR d wl wy hE rfl rfl (Nat.le_of_ble_eq_true hb.2) (Nat.le_of_ble_eq_true hb.1.1) (Nat.le_of_ble_eq_true hb.1.2) hc hs kk
theorem qS3_v {idx nLy dy : Nat} {y : MethodName} {ccy : ByteArray} {ret : Option FieldType} {rest : List Value} {a1 a2 a3 : Value} {V V1 : VV} (C : Cx G X own cc) (hR : xR X = room_1) (d : decode cc pc = .ok (.invokestatic idx, 3)) (wl : .methodLink own idx y ∈ LW) (wy : YS y ccy nLy ret 3) (hE : EvX G (xl X) y ccy nLy ret dy 0 0 [a1, a2, a3] V (.ok none) V1) (hb : (Nat.ble (dy + 1) 16 && Nat.ble (8 + (nLy + 11) + 40 * dy) 626 && Nat.ble (rest.map fun v => v.category).sum 8) = true) (hc : cells ≤ 600086) (hs : slots ≤ 7301442)
    (kk : At G X cells slots (pc + 3) lv (rest) V1) : At G X cells slots pc lv (a3 :: a2 :: a1 :: rest) V := by
  simp only [Bool.and_eq_true] at hb
  exact q_callS C hR d wl wy hE rfl rfl (Nat.le_of_ble_eq_true hb.2) (Nat.le_of_ble_eq_true hb.1.1) (Nat.le_of_ble_eq_true hb.1.2) hc hs kk
theorem qV4_i {idx kk0 a0 nLy dy : Nat} {y : MethodName} {ccy : ByteArray} {ret : Option FieldType} {rest : List Value} {a1 a2 a3 a4 : Value} {z : Int} {V V1 : VV} (C : Cx G X own cc) (hR : xR X = room_1) (d : decode cc pc = .ok (.invokevirtual idx, 3)) (wl : .methodLink own idx y ∈ LW) (wy : YV y ccy nLy ret 4) (rc : RC G kk0 a0 y.cls) (hE : EvX G (xl X) y ccy nLy ret dy 0 0 (.ref a0 :: [a1, a2, a3, a4]) V (.ok (some (vI z))) V1) (hb : (Nat.ble (dy + 1) 16 && Nat.ble (8 + (nLy + 11) + 40 * dy) 626 && Nat.ble (rest.map fun v => v.category).sum 8) = true) (hc : cells ≤ 600086) (hs : slots ≤ 7301442)
    (kk : At G X cells slots (pc + 3) lv (vI z :: rest) V1) : At G X cells slots pc lv (a4 :: a3 :: a2 :: a1 :: .ref a0 :: rest) V := by
  simp only [Bool.and_eq_true] at hb
  exact q_callV C hR d wl wy rc hE rfl rfl (Nat.le_of_ble_eq_true hb.2) (Nat.le_of_ble_eq_true hb.1.1) (Nat.le_of_ble_eq_true hb.1.2) hc hs kk
theorem qV4_v {idx kk0 a0 nLy dy : Nat} {y : MethodName} {ccy : ByteArray} {ret : Option FieldType} {rest : List Value} {a1 a2 a3 a4 : Value} {V V1 : VV} (C : Cx G X own cc) (hR : xR X = room_1) (d : decode cc pc = .ok (.invokevirtual idx, 3)) (wl : .methodLink own idx y ∈ LW) (wy : YV y ccy nLy ret 4) (rc : RC G kk0 a0 y.cls) (hE : EvX G (xl X) y ccy nLy ret dy 0 0 (.ref a0 :: [a1, a2, a3, a4]) V (.ok none) V1) (hb : (Nat.ble (dy + 1) 16 && Nat.ble (8 + (nLy + 11) + 40 * dy) 626 && Nat.ble (rest.map fun v => v.category).sum 8) = true) (hc : cells ≤ 600086) (hs : slots ≤ 7301442)
    (kk : At G X cells slots (pc + 3) lv (rest) V1) : At G X cells slots pc lv (a4 :: a3 :: a2 :: a1 :: .ref a0 :: rest) V := by
  simp only [Bool.and_eq_true] at hb
  exact q_callV C hR d wl wy rc hE rfl rfl (Nat.le_of_ble_eq_true hb.2) (Nat.le_of_ble_eq_true hb.1.1) (Nat.le_of_ble_eq_true hb.1.2) hc hs kk
theorem qS4_i {idx nLy dy : Nat} {y : MethodName} {ccy : ByteArray} {ret : Option FieldType} {rest : List Value} {a1 a2 a3 a4 : Value} {z : Int} {V V1 : VV} (C : Cx G X own cc) (hR : xR X = room_1) (d : decode cc pc = .ok (.invokestatic idx, 3)) (wl : .methodLink own idx y ∈ LW) (wy : YS y ccy nLy ret 4) (hE : EvX G (xl X) y ccy nLy ret dy 0 0 [a1, a2, a3, a4] V (.ok (some (vI z))) V1) (hb : (Nat.ble (dy + 1) 16 && Nat.ble (8 + (nLy + 11) + 40 * dy) 626 && Nat.ble (rest.map fun v => v.category).sum 8) = true) (hc : cells ≤ 600086) (hs : slots ≤ 7301442)
    (kk : At G X cells slots (pc + 3) lv (vI z :: rest) V1) : At G X cells slots pc lv (a4 :: a3 :: a2 :: a1 :: rest) V := by
  simp only [Bool.and_eq_true] at hb
  exact q_callS C hR d wl wy hE rfl rfl (Nat.le_of_ble_eq_true hb.2) (Nat.le_of_ble_eq_true hb.1.1) (Nat.le_of_ble_eq_true hb.1.2) hc hs kk
theorem qS4_v {idx nLy dy : Nat} {y : MethodName} {ccy : ByteArray} {ret : Option FieldType} {rest : List Value} {a1 a2 a3 a4 : Value} {V V1 : VV} (C : Cx G X own cc) (hR : xR X = room_1) (d : decode cc pc = .ok (.invokestatic idx, 3)) (wl : .methodLink own idx y ∈ LW) (wy : YS y ccy nLy ret 4) (hE : EvX G (xl X) y ccy nLy ret dy 0 0 [a1, a2, a3, a4] V (.ok none) V1) (hb : (Nat.ble (dy + 1) 16 && Nat.ble (8 + (nLy + 11) + 40 * dy) 626 && Nat.ble (rest.map fun v => v.category).sum 8) = true) (hc : cells ≤ 600086) (hs : slots ≤ 7301442)
    (kk : At G X cells slots (pc + 3) lv (rest) V1) : At G X cells slots pc lv (a4 :: a3 :: a2 :: a1 :: rest) V := by
  simp only [Bool.and_eq_true] at hb
  exact q_callS C hR d wl wy hE rfl rfl (Nat.le_of_ble_eq_true hb.2) (Nat.le_of_ble_eq_true hb.1.1) (Nat.le_of_ble_eq_true hb.1.2) hc hs kk
theorem qV5_i {idx kk0 a0 nLy dy : Nat} {y : MethodName} {ccy : ByteArray} {ret : Option FieldType} {rest : List Value} {a1 a2 a3 a4 a5 : Value} {z : Int} {V V1 : VV} (C : Cx G X own cc) (hR : xR X = room_1) (d : decode cc pc = .ok (.invokevirtual idx, 3)) (wl : .methodLink own idx y ∈ LW) (wy : YV y ccy nLy ret 5) (rc : RC G kk0 a0 y.cls) (hE : EvX G (xl X) y ccy nLy ret dy 0 0 (.ref a0 :: [a1, a2, a3, a4, a5]) V (.ok (some (vI z))) V1) (hb : (Nat.ble (dy + 1) 16 && Nat.ble (8 + (nLy + 11) + 40 * dy) 626 && Nat.ble (rest.map fun v => v.category).sum 8) = true) (hc : cells ≤ 600086) (hs : slots ≤ 7301442)
    (kk : At G X cells slots (pc + 3) lv (vI z :: rest) V1) : At G X cells slots pc lv (a5 :: a4 :: a3 :: a2 :: a1 :: .ref a0 :: rest) V := by
  simp only [Bool.and_eq_true] at hb
  exact q_callV C hR d wl wy rc hE rfl rfl (Nat.le_of_ble_eq_true hb.2) (Nat.le_of_ble_eq_true hb.1.1) (Nat.le_of_ble_eq_true hb.1.2) hc hs kk
theorem qV5_v {idx kk0 a0 nLy dy : Nat} {y : MethodName} {ccy : ByteArray} {ret : Option FieldType} {rest : List Value} {a1 a2 a3 a4 a5 : Value} {V V1 : VV} (C : Cx G X own cc) (hR : xR X = room_1) (d : decode cc pc = .ok (.invokevirtual idx, 3)) (wl : .methodLink own idx y ∈ LW) (wy : YV y ccy nLy ret 5) (rc : RC G kk0 a0 y.cls) (hE : EvX G (xl X) y ccy nLy ret dy 0 0 (.ref a0 :: [a1, a2, a3, a4, a5]) V (.ok none) V1) (hb : (Nat.ble (dy + 1) 16 && Nat.ble (8 + (nLy + 11) + 40 * dy) 626 && Nat.ble (rest.map fun v => v.category).sum 8) = true) (hc : cells ≤ 600086) (hs : slots ≤ 7301442)
    (kk : At G X cells slots (pc + 3) lv (rest) V1) : At G X cells slots pc lv (a5 :: a4 :: a3 :: a2 :: a1 :: .ref a0 :: rest) V := by
  simp only [Bool.and_eq_true] at hb
  exact q_callV C hR d wl wy rc hE rfl rfl (Nat.le_of_ble_eq_true hb.2) (Nat.le_of_ble_eq_true hb.1.1) (Nat.le_of_ble_eq_true hb.1.2) hc hs kk
theorem qS5_i {idx nLy dy : Nat} {y : MethodName} {ccy : ByteArray} {ret : Option FieldType} {rest : List Value} {a1 a2 a3 a4 a5 : Value} {z : Int} {V V1 : VV} (C : Cx G X own cc) (hR : xR X = room_1) (d : decode cc pc = .ok (.invokestatic idx, 3)) (wl : .methodLink own idx y ∈ LW) (wy : YS y ccy nLy ret 5) (hE : EvX G (xl X) y ccy nLy ret dy 0 0 [a1, a2, a3, a4, a5] V (.ok (some (vI z))) V1) (hb : (Nat.ble (dy + 1) 16 && Nat.ble (8 + (nLy + 11) + 40 * dy) 626 && Nat.ble (rest.map fun v => v.category).sum 8) = true) (hc : cells ≤ 600086) (hs : slots ≤ 7301442)
    (kk : At G X cells slots (pc + 3) lv (vI z :: rest) V1) : At G X cells slots pc lv (a5 :: a4 :: a3 :: a2 :: a1 :: rest) V := by
  simp only [Bool.and_eq_true] at hb
  exact q_callS C hR d wl wy hE rfl rfl (Nat.le_of_ble_eq_true hb.2) (Nat.le_of_ble_eq_true hb.1.1) (Nat.le_of_ble_eq_true hb.1.2) hc hs kk
theorem qS5_v {idx nLy dy : Nat} {y : MethodName} {ccy : ByteArray} {ret : Option FieldType} {rest : List Value} {a1 a2 a3 a4 a5 : Value} {V V1 : VV} (C : Cx G X own cc) (hR : xR X = room_1) (d : decode cc pc = .ok (.invokestatic idx, 3)) (wl : .methodLink own idx y ∈ LW) (wy : YS y ccy nLy ret 5) (hE : EvX G (xl X) y ccy nLy ret dy 0 0 [a1, a2, a3, a4, a5] V (.ok none) V1) (hb : (Nat.ble (dy + 1) 16 && Nat.ble (8 + (nLy + 11) + 40 * dy) 626 && Nat.ble (rest.map fun v => v.category).sum 8) = true) (hc : cells ≤ 600086) (hs : slots ≤ 7301442)
    (kk : At G X cells slots (pc + 3) lv (rest) V1) : At G X cells slots pc lv (a5 :: a4 :: a3 :: a2 :: a1 :: rest) V := by
  simp only [Bool.and_eq_true] at hb
  exact q_callS C hR d wl wy hE rfl rfl (Nat.le_of_ble_eq_true hb.2) (Nat.le_of_ble_eq_true hb.1.1) (Nat.le_of_ble_eq_true hb.1.2) hc hs kk
end
theorem hN8 {n : Nat} (h : 157 ≤ n) : 148 ≤ n := by omega
end
