/-! THE CLAIM OUT OF ONE WALK OF THE LAW'S BODY. Your part is whole_start (and what it stands on); all else here is the same for every law, but numbers. -/
def R_law : String := "ChannelScheduleLaw"
def lw_P (b : Addr) (xs : List Int32) (args : Array Value) (s : State) : Prop := args = #[.ref b] ∧ s.IntsAt b xs ∧ xs.length ≤ 3072 ∧ (Jvm.Cond.and given_1 narrow_1).before args s = true
/-- what a walk over the start with the record d0 says of its end, said of the start itself -/
theorem lw_closed {s t : State} {o : Outcome} {d0 : Drawn} {L : List Loc} {k n : Nat} (hd0 : s.drawn.sameBut d0 lw_cs) (hv : ∃ v, o = .returned v) (hW : (s.setDrawn d0).WarmedH t.vm) (hs : (s.setDrawn d0).sameButNew ({ t with vm := s.vm } : State) L k n) : State.butDraws s t lw_cs (fun t1 => Framed s o t1 L k n) := by
  have h2 : t.drawn = d0 := congrArg State.drawn hs.1
  refine ⟨⟨hv, hW, State.sameButNew.setDrawn hs s.drawn⟩, ?_, by decide⟩
  rw [h2]
  exact hd0
def lw_Q (_ : Array Value) (s : State) (o : Outcome) (t : State) : Prop := o = .returned (some (.int 1)) ∧ State.butDraws s t lw_cs (fun t1 => Framed s o t1 [] 601024 7293034)
def lw_Z (below : List Frame) (a : Array Value) (s : State) : State → Prop := fun t => ∃ o, t.status = .running ∧ Ended t below o ∧ lw_Q a s o t
/-- the law's own end, with 1 on the stack, nothing written that was there before, its room as the claim has it; d0: the record of draws at this point (at the entry s.drawn: begin with 'refine W.base ?_' and 'have hd0 := Drawn.sameBut.refl s.drawn lw_cs') -/
theorem lw_ret {p : Program} {l : Launch} {e : Env} {s : State} {m : MethodId} {below : List Frame} {meth : Method} {c : Code} {b : Nat} {d0 : Drawn} (hd0 : s.drawn.sameBut d0 lw_cs) (hx : p.tables.exec = Jvm.exec) (hb : c.code = code) (hr : meth.sig.returnType = ret) (hlocks : meth.locks = false) {pc : Nat} {H : Heap} {ls : Array Slot} (hdg : decode code pc = .ok (.ireturn, 1)) : W p l e room_1 (s.setDrawn d0) m #[Value.ref b] below meth c H [] 601024 7293034 (lw_Z below #[Value.ref b] s) (F0 m pc ls [.int 1]) := by
  intro T hT X
  obtain ⟨fs, hret, hrun, hended, hW, hframe⟩ := X.leave (v := some (.int 1)) (hlocks := hlocks) (fun h => by rw [hr] at h; cases h)
  have hmeth' : T.vm.method? m = some meth := X.method'
  refine ⟨T.setFrames fs, ?_, .returned (some (.int 1)), hrun, hended, rfl, lw_closed hd0 ⟨_, rfl⟩ hW hframe⟩
  jvm_step X.here [X.here.top, hx, hb, hdg, hmeth', hr, ret, narrow_b1]
  (try refine ⟨rfl, ?_⟩); (try refine ⟨rfl, ?_⟩)
  first | (intro acts; rw [hret _ acts rfl rfl rfl]) | rw [hret _ _ rfl rfl rfl]
  exact Steps.refl _
/-- what holds at the law's entry: the machine, the code, the tables' words (any of lw_tbl by 'hts w (by decide +kernel)'), the script of L ints xs at the cell b, what the Statement gives of the start (any of its parts by flat_of_before) -/
def lw_At (p : Program) (s : State) (m : MethodId) (meth : Method) (c : Code) (b L : Nat) (xs : Nat → Int32) : Prop :=
  p.tables.exec = Jvm.exec ∧ c.code = code ∧ meth.sig.returnType = ret ∧ c.maxLocals = 9 ∧ s.vm.findClass R_law = some m.cls ∧ (∀ w ∈ lw_tbl, w.before #[Value.ref b] s = true) ∧ va_X b L xs s s.heap ∧ b < s.heap.size ∧ meth.locks = false ∧ (Jvm.Cond.and given_1 narrow_1).before #[Value.ref b] s = true
theorem AtH.xF {B : Nat} {D : va_G} {A : Nat → ClassId} {n n' : Nat} {K V9 : Nat → Nat} {X : CT} {cells slots pc N : Nat} {lv : List (Nat × Value)} {st : List Value} {h : HT} (k : AtH (B, D, A, n', false, K, V9) X cells slots pc lv st N h) : AtH (B, D, A, n, true, K, V9) X cells slots pc lv st N h := by
  obtain ⟨p, l, e, R, s, m, args, below, meth, c, Q, nL⟩ := X
  intro H locs ls hW hS hls
  have hz : (false = true) → H.size = B + N := fun z => absurd z Bool.false_ne_true
  exact k H locs ls ⟨hW.1, hz, hW.2.2⟩ hS hls
theorem AtH.xN {B : Nat} {D : va_G} {A : Nat → ClassId} {n n' : Nat} {x : Bool} {K V9 : Nat → Nat} {X : CT} {cells slots pc N : Nat} {lv : List (Nat × Value)} {st : List Value} {h : HT} (k : AtH (B, D, A, n', x, K, V9) X cells slots pc lv st N h) : AtH (B, D, A, n, x, K, V9) X cells slots pc lv st N h := by
  obtain ⟨p, l, e, R, s, m, args, below, meth, c, Q, nL⟩ := X
  exact k
/-- from the entry to the loop -/
theorem lw_made {l : Launch} {B : Nat} {D : va_G} {A : Nat → ClassId} {K V9 : Nat → Nat} {X : CT} {b : Nat} {h0 : HT} (hA6 : A 6 = 2147483648) (hlt : l.stackTraces = false) (hl : xl X = l) (hx : xN X = 9) (hR : xR X = room_1) (hXK : XK (xS X)) (hC : ∀ (n : Nat) (x : Bool), Cx (B, D, A, n, x, K, V9) X LN code)
    (hgo : ∀ (V : VV) (S : Su) (P : Pl), RV V S P → At (B, D, A, 155, false, K, V9) X 155 6064 23 (LV (B, D, A, 155, false, K, V9) b 0) [] V) : AtH (B, D, A, 148, true, K, V9) X 0 0 0 [(0, .ref b)] [] 0 h0 := by
  subst hl
  obtain ⟨V1, V2, W1, W2, r, s1, s2, s3, s4, s5, S, P, s6⟩ := start_ok
  have C1 := hC 148 true
  refine r_new (n := 14) (fs := [.null, .null, .null, .null, .null, .null, .null, vI 0, vI 0, .null, .null, .null, .null, vI 0]) (G := (B, D, A, 148, true, K, V9)) rfl C1 hR dL_law_0 oi5 wcL_8 wn5 w5_init.2.1 df5 (Nat.le_of_ble_eq_true rfl) (Nat.le_of_ble_eq_true rfl) ?_
  refine r_dup C1 dL_law_3 rfl ?_
  refine q_callI (kk0 := 0) (As := []) (rest := [.ref (B + 0)]) C1 hXK hR dL_law_4 lL_156 w5_init (ci5 hlt rfl rfl (upH_e rfl) s1 s2) rfl rfl (Nat.le_of_ble_eq_true rfl) (Nat.le_of_ble_eq_true rfl) (Nat.le_of_ble_eq_true rfl) (Nat.le_of_ble_eq_true rfl) (Nat.le_of_ble_eq_true rfl) (fun E N' h' q => by obtain ⟨-, V', -, q2, -⟩ := q; cases q2) (fun v N' h' q => ?_)
  obtain ⟨q1, V', q2, q3, q4⟩ := q
  subst q1; subst q2; cases q3; subst q4
  obtain ⟨Va, hVa⟩ : ∃ Va, Va = up2 V2 1 1 0 := ⟨_, rfl⟩
  rw [← hVa] at s3 s5 ⊢
  show AtH (B, D, A, 148, true, K, V9) X 148 2636 7 [(0, .ref b)] [.ref (B + 0)] 148 (hV (B, D, A, 148, true, K, V9) Va)
  refine r_astore_n C1 dL_law_7 (by rw [hx]; decide) ?_
  refine AtH.xN (n' := 154) ?_
  have C2 := hC 154 true
  refine r_new (n := 15) (fs := [.null, .null, vI 0, .null, vI 0, vI 0, vI 0, .null, vI 0, vI 0, vI 0, vI 0, vI 0, vI 0, .null]) (G := (B, D, A, 154, true, K, V9)) rfl C2 hR dL_law_8 oi6 wcL_157 wn6 w6_init.2.1 df6 (Nat.le_of_ble_eq_true rfl) (Nat.le_of_ble_eq_true rfl) ?_
  refine r_dup C2 dL_law_11 rfl ?_
  refine q_callI (kk0 := 148) (As := []) (rest := [.ref (B + 148)]) C2 hXK hR dL_law_12 lL_159 w6_init (ci6 (Va := Va) hlt rfl rfl (fun j hj => upH_n (by omega)) (upH_e rfl) s3 s4) rfl rfl (Nat.le_of_ble_eq_true rfl) (Nat.le_of_ble_eq_true rfl) (Nat.le_of_ble_eq_true rfl) (Nat.le_of_ble_eq_true rfl) (Nat.le_of_ble_eq_true rfl) (fun E N' h' q => by obtain ⟨-, V', -, q2, -⟩ := q; cases q2) (fun v N' h' q => ?_)
  obtain ⟨q1, V', q2, q3, q4⟩ := q
  subst q1; subst q2; cases q3; subst q4
  obtain ⟨Vb, hVb⟩ : ∃ Vb, Vb = up2 W2 148 4 0 := ⟨_, rfl⟩
  rw [← hVb] at s5 s6 ⊢
  show AtH (B, D, A, 154, true, K, V9) X 154 6063 15 [(1, .ref (B + 0)), (0, .ref b)] [.ref (B + 148)] 154 (hV (B, D, A, 154, true, K, V9) Vb)
  refine r_astore_n C2 dL_law_15 (by rw [hx]; decide) ?_
  refine r_iconst C2 dL_law_16 ?_
  refine r_newJ (n := 1) (G := (B, D, A, 154, true, K, V9)) rfl C2 hR dL_law_17 (by decide +kernel) (by decide +kernel) (Nat.le_of_ble_eq_true rfl) (Nat.le_of_ble_eq_true rfl) (Nat.le_of_ble_eq_true rfl) ?_
  refine r_astore_n C2 dL_law_19 (by rw [hx]; decide) ?_
  refine r_iconst C2 dL_law_20 ?_
  refine r_istore C2 dL_law_21 (by rw [hx]; decide) ?_
  refine AtH.xF (n' := 155) ?_
  refine AtH.e (h' := hV (B, D, A, 155, false, K, V9) Vb) (fun k hk => ?_) ?_
  · by_cases e : k = 154
    · subst e
      rw [upH_e rfl]
      show arJ (A 3) 1 (fun _ => 0) = arJ (A 3) 1 (updI (fun _ => 0) 0 (((A 6 : Nat) : Int) - 2147483648))
      have e6 : (((A 6 : Nat) : Int) - 2147483648) = 0 := by rw [hA6]; decide
      have e9 : updI (fun _ => 0) 0 0 = fun _ => (0 : Int) := by
        funext i
        unfold updI
        split <;> rfl
      rw [e6, e9]
    · rw [upH_n e]
      rfl
  · refine AtH.wd (k := 155) (n := 6064) (by omega) (by omega) ?_
    exact AtH.sw (hgo Vb S P s6) ⟨rfl, rfl, rfl, rfl, rfl, trivial⟩
/-- YOUR PART: from the entry, for every script of at most 3072 ints, the law comes to its end with true ('hflags': the launch's flags, for a law that throws: no stack traces) -/
theorem whole_start {p : Program} {e : Env} {s : State} {m : MethodId} {below : List Frame} {meth : Method} {c : Code} (l : Launch) (hflags : l.flags = flags0) {b L : Nat} {xs : Nat → Int32} (hL : L ≤ 3072) (C0 : lw_At p s m meth c b L xs) : W p l e room_1 s m #[Value.ref b] below meth c s.heap [] 0 0 (lw_Z below #[Value.ref b] s) (entryFrame m ([Value.ref b] : List Value).toArray 9) := by
  obtain ⟨hx, hb, hr, hml, hown, hts, hX, hbl, hlocks, hgv⟩ := id C0
  have hlt : l.stackTraces = false := by
    unfold Launch.stackTraces
    rw [hflags]
    decide +kernel
  have hA : ∀ a : Nat, a < s.heap.size → ¬ s.heap.size ≤ a := fun a h1 h2 => by omega
  obtain ⟨K, V9, f1, f2, f3⟩ := st_str (A := fun q => s.heap.size ≤ q) hts hgv hA
  obtain ⟨D, A0, hK⟩ := st_K hts
  obtain ⟨A, hA6, hA5⟩ : ∃ A : Nat → ClassId, A 6 = 2147483648 ∧ ∀ i, i < 6 → A i = A0 i := ⟨fun i => if i = 6 then 2147483648 else A0 i, if_pos rfl, fun i hi => if_neg (by omega)⟩
  have hXK := st_XK hts hgv
  obtain ⟨X, hX9⟩ : ∃ X : CT, X = (p, l, e, room_1, s, m, #[Value.ref b], below, meth, c, lw_Z below #[Value.ref b] s, 9) := ⟨_, rfl⟩
  have hC : ∀ (n : Nat) (x : Bool), Cx (s.heap.size, D, A, n, x, K, V9) X LN code := fun n x => by
    rw [hX9]
    exact ⟨hx, hb, hml, hown, fun w h => hts w (LW_tbl h), hK A hA5, st_SF (G := (s.heap.size, D, A, n, x, K, V9)) hts hgv hA f1 f2 f3, hlocks, hlt, Nat.le_refl _⟩
  have hend : ∀ (G : GT) (V : VV) (cells slots : Nat) (lv : List (Nat × Value)), LA G X b L xs → cells ≤ 601024 → slots ≤ 7293034 → At G X cells slots 3488 lv [vI 1] V := by
    intro G V cells slots lv A9 hc hs
    have hg := A9.2.1
    rw [hX9] at hg ⊢
    obtain ⟨-, -, hg⟩ := hg
    intro H locs ls hW hS hls
    refine va_forget (fun q hq => by have := hS.2.2 q hq; omega) ?_
    refine W.widen hc hs ?_
    refine W.base ?_
    exact lw_ret (Drawn.sameBut.refl s.drawn lw_cs) hx hb hr hlocks dL_law_3488
  have hLA : LA (s.heap.size, D, A, 155, false, K, V9) X b L xs := by
    refine ⟨hC 155 false, ?_, ?_, ?_, ?_, rfl, rfl, hL⟩
    · rw [hX9]; exact ⟨hX, hbl, rfl⟩
    · rw [hX9]; exact hXK
    · rw [hX9]
    · rw [hX9]
  have main := lw_made (X := X) (b := b) (h0 := fun _ => arI (A 0) 0 zr) hA6 hlt (by rw [hX9]) hLA.2.2.2.2.1 hLA.2.2.2.1 hLA.2.2.1 hC
    (fun V S P h => lw_loop hend 3072 (s.heap.size, D, A, 155, false, K, V9) V S P 0 155 6064 hLA h (by omega) (by omega) (by omega) (by omega) (by omega))
  rw [hX9] at main
  have hle := lv_entry ([.ref b]) (n := 9) (Nat.le_of_ble_eq_true rfl)
  rw [lg_entry_eq]
  generalize (lg_sl ([.ref b]) ++ List.replicate (9 - (lg_sl ([.ref b])).length) Slot.unset).toArray = ls at hle ⊢
  refine main s.heap [] ls ⟨Nat.le_refl _, fun _ => rfl, fun k q h9 => by simp [wsO] at h9⟩ va_S.rf (lh_hs (lw := [(0, .ref b)]) hle (fun q hq => ⟨hq, ?_⟩))
  rw [List.mem_singleton.mp hq]
  rfl
set_option maxHeartbeats 4000000 in
theorem lw_walk (l : Launch) (hflags : l.flags = flags0) (b : Addr) (xs : List Int32) : MetFree l x (headSpec (Jvm.Cond.code x code maxLocals ret :: tables_1) room_1) (lw_P b xs) (fun _ _ _ _ _ => True) lw_Q := by
  refine MetFree.of_bodyS (code := code) (maxLocals := maxLocals) (ret := ret) (by decide) ?_ ?_
  · intro args s m h hn
    obtain ⟨meth, c, h1, h2, h3, h4, h5, h6, -, -⟩ := Cond.code_spec hn (atoms_spec (ws := Jvm.Cond.code x code maxLocals ret :: tables_1) h _ List.mem_cons_self)
    exact ⟨meth, c, h1, h2, h3, h4, h5, h6⟩
  · intro p e s m args below meth c s₁ B hml0 hP _
    obtain ⟨rfl, hx, hbd, hgv⟩ := hP
    obtain ⟨scr, harrAt, hlist, hof, hsmall⟩ := hx
    obtain ⟨hcb, hkn, -, -⟩ := State.arrayAt?_spec harrAt
    have hown : s.vm.findClass R_law = some m.cls := findClass_of_methodNamed B.named
    have hts0 : ∀ c ∈ (Jvm.Cond.code x code maxLocals ret :: tables_1), c.before #[Value.ref b] s = true := atoms_spec (ws := Jvm.Cond.code x code maxLocals ret :: tables_1) B.pre
    have hts : ∀ w ∈ lw_tbl, w.before #[Value.ref b] s = true := k2_hts_sels lw_privs (fun w hw => hts0 w (List.mem_cons_of_mem _ hw)) lw_privs_ok
    have hml : c.maxLocals = 9 := B.maxLocals_eq (hts0 _ List.mem_cons_self)
    have X₀ : Stand p l e room_1 s m #[Value.ref b] below meth c s₁ [] 0 0 := Stand.of_body B
    have hh0 : s₁.heap = s.heap := by rw [B.state]; rfl
    have hsz : scr.slots.size = xs.length := by rw [← Array.length_toList, hlist, List.length_map]
    have hval : ∀ j : Nat, j < xs.length → scr.slots[j]? = some (.int (xs.getD j 0)) := fun j hj => by
      rw [← Array.getElem?_toList, hlist]
      simp [hj]
    have hbl : b < s.heap.size := (Array.getElem?_eq_some_iff.mp hcb).1
    have hX : va_X b xs.length (fun j => xs.getD j 0) s s.heap := ⟨scr, hcb, hof, hkn, hsz, hval⟩
    have K : W p l e room_1 s m #[Value.ref b] below meth c s₁.heap [] 0 0 (lw_Z below #[Value.ref b] s) (entryFrame m ([Value.ref b] : List Value).toArray 9) := by
      rw [hh0]
      exact whole_start l hflags hbd ⟨B.exec, B.bytes, B.returns, hml, hown, hts, hX, hbl, B.notSynchronized, hgv⟩
    obtain ⟨t, a1, o, b1, b2, b3⟩ := K s₁ rfl X₀
    exact ⟨t, o, a1, b1, b2, b3⟩
theorem lw_pre_spec {args : Array Value} {s : State} (h : (Jvm.Cond.and given_1 narrow_1).before args s = true) (hr : rest_1_c.before args s = true) : ∃ (b : Addr) (xs : List Int32), lw_P b xs args s := by
  have hs := flat_of_before _ h
  have hq := flat_of_before _ hr
  have hc : (Cond.count 1).before args s = true := hs _ (by decide +kernel)
  have harr : (Cond.arrayOf (.arg 0) .int).before args s = true := hs _ (by decide +kernel)
  have hle : (Cond.le (.length (.arg 0)) (.int 3072)).before args s = true := hs _ (by decide +kernel)
  have hlen : (Cond.isInt (.length (.arg 0))).before args s = true := hq _ (by decide +kernel)
  have hall : (Cond.all (.arg 0) (.isInt (.elem (.arg 0) (.index 0)))).before args s = true := hq _ (by decide +kernel)
  obtain ⟨b, xs, hb, hx⟩ := State.ints_of_pre rfl harr hlen hall
  have hsm : xs.length < 2 ^ 31 := hx.choose_spec.2.2.2
  have hev : (Term.length (.arg 0)).eval args s none [] s = some (.int xs.length.toInt32) := hx.length_eval hb
  have hv := Cond.le_ints hev (show (Term.int 3072).eval args s none [] s = some (.int 3072) from rfl)
  have hd : xs.length.toInt32 ≤ 3072 := by
    simpa [Cond.before, Cond.holds, hv] using hle
  have hN : xs.length ≤ 3072 := (Int32.ofNat_le_ofNat hsm (by decide)).mp (show Int32.ofNat xs.length ≤ Int32.ofNat 3072 from hd)
  exact ⟨b, xs, Cond.one_arg hc (show args[0]? = some (.ref b) from hb), hx, hN, h⟩
theorem lw_comes (l : Launch) (hflags : l.flags = flags0) : Comes l x (Jvm.Cond.code x code maxLocals ret :: tables_1) room_1 (fun tb e args s => Calls_1 tb e args s ∧ rest_1 tb e args s ∧ Pre_1 tb e args s)
    (fun _ _ args s o t => lw_Q args s o t) := by
  intro p e ha hc hk s m args below hf hfit hheap happ hpre
  obtain ⟨b, xs, hP⟩ := lw_pre_spec hpre.2.2 hpre.2.1
  obtain ⟨k, o, h1, h2, h3, hQ⟩ := lw_walk l hflags b xs p e ha hc hk s m args below hf ((Spec.applies_iff_loose hf).mp happ).1 hP trivial
  exact ⟨k, o, h1, h2, h3, hQ⟩
theorem lw_frame {s t : State} {o : Outcome} {args : Array Value} (h : State.butDraws s t lw_cs (fun t1 => Framed s o t1 [] 601024 7293034)) :
    State.butDraws s t [Jvm.Choice.named "NaN.bits"] (fun t1 => Framed s o t1 (fieldLocs frame_1_writes args s ++ arrayLocs frame_1_arrays args s ++ staticLocs frame_1_statics s) 601024 7293034) := h
theorem lw_limb (L : Cond) (hL : ∀ (args : Array Value) (s t : State), L.after args s (.returned (some (.int 1))) t = true) :
    ArmFor flags0 classFile x code maxLocals ret World_1 tables_1 room_1 Calls_1 rest_1 Pre_1
      (fun tb e a s o t => postC L tb e a s o t ∧ State.butDraws s t [Jvm.Choice.named "NaN.bits"] (fun t1 => Framed s o t1 (fieldLocs frame_1_writes a s ++ arrayLocs frame_1_arrays a s ++ staticLocs frame_1_statics s) 601024 7293034)) := by
  intro l hflags _ _ p e ha hc hk s m args below hf hfit hheap happ hpre
  obtain ⟨k, o, h1, h2, h3, rfl, hF⟩ := lw_comes l hflags p e ha hc hk s m args below hf hfit hheap happ hpre
  exact ⟨k, _, h1, h2, h3, hL args s _, lw_frame hF⟩
theorem i_vc : Claimed_1_1 ∧ Claimed_1_2 := ⟨lw_limb limb_1_1 (fun args s t => by simp [limb_1_1, Cond.after, Cond.holds, Cond.value]), lw_limb limb_1_2 (fun args s t => Cond.after_iff.mpr (by
  first | (rw [show limb_1_2 = Cond.eq .result (.int 1) from rfl, Cond.eq_ints (x := 1) (y := 1) rfl rfl]; simp; done) | (simp [limb_1_2, Cond.value, Term.eval]; done)))⟩
