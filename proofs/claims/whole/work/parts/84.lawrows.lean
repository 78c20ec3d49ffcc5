/-! rows of the law's body -/
abbrev LN : String := "ChannelScheduleLaw"
/-- the law's frame: where the script lies, and that the base is the heap's size at the start -/
def LX (G : GT) (X : CT) (b L : Nat) (xs : Nat → Int32) : Prop :=
  match X with
  | (p, l, e, R, s, m, args, below, meth, c, Q, nL) => va_X b L xs s s.heap ∧ b < s.heap.size ∧ gB G = s.heap.size
theorem LX.gO {G : GT} {X : CT} {b L : Nat} {xs : Nat → Int32} {z : Int} (h : LX G X b L xs) : LX (gO G z) X b L xs := by
  obtain ⟨p, l, e, R, s, m, args, below, meth, c, Q, nL⟩ := X
  exact h
def LA (G : GT) (X : CT) (b L : Nat) (xs : Nat → Int32) : Prop := Cx G X LN code ∧ LX G X b L xs ∧ XK (xS X) ∧ xR X = room_1 ∧ xN X = 9 ∧ gN G = 155 ∧ gX G = false ∧ L ≤ 3072
theorem LA.gO {G : GT} {X : CT} {b L : Nat} {xs : Nat → Int32} {z : Int} (h : LA G X b L xs) : LA (gO G z) X b L xs := ⟨h.1.gO, h.2.1.gO, h.2.2.1, h.2.2.2.1, h.2.2.2.2.1, h.2.2.2.2.2.1, h.2.2.2.2.2.2.1, h.2.2.2.2.2.2.2⟩
/-- the law's locals -/
abbrev LV (G : GT) (b : Nat) (i : Int) : List (Nat × Value) := [(0, .ref b), (1, .ref (gB G + 0)), (2, .ref (gB G + 148)), (3, .ref (gB G + 154)), (4, vI i)]
/-- what goes on behind a call -/
def Nx (G : GT) (X : CT) (b : Nat) (i : Int) (cells slots : Nat) : Prop := ∀ (z : Int) (V' : VV) (S' : Su) (P' : Pl) (c' s' : Nat), RV V' S' P' → c' ≤ cells + 10 → s' ≤ slots + 60 → At (gO G z) X c' s' 3481 (LV G b i) [] V'
def sv (xs : Nat → Int32) (k : Int) : Int := (xs k.toNat).toInt
def swb (xs : Nat → Int32) (k : Int) : Int := if sv xs k = 0 then 0 else 1
theorem sv_rg {xs : Nat → Int32} {k : Int} : rgI (sv xs k) := rg_toInt _
theorem swb_01 {xs : Nat → Int32} {k : Int} : swb xs k = 0 ∨ swb xs k = 1 := by unfold swb; split <;> simp
theorem gO_self {G : GT} : gO G (((gA G 6 : Nat) : Int) - 2147483648) = G := by
  obtain ⟨b, d, a, n, x, k, v⟩ := G
  have e : (fun i => if i = 6 then ((((a 6 : Nat) : Int) - 2147483648) + 2147483648).toNat else a i) = a := by
    funext i
    split
    · rename_i h
      rw [h]
      omega
    · rfl
  show (b, d, (fun i => if i = 6 then ((((a 6 : Nat) : Int) - 2147483648) + 2147483648).toNat else a i), n, x, k, v) = _
  rw [e]
theorem gO_gO {G : GT} {z z' : Int} : gO (gO G z) z' = gO G z' := by
  have e : (fun i => if i = 6 then (z' + 2147483648).toNat else gA (gO G z) i) = (fun i => if i = 6 then (z' + 2147483648).toNat else gA G i) := by
    funext i
    split
    · rfl
    · rename_i h
      exact if_neg h
  show (gB G, gD G, (fun i => if i = 6 then (z' + 2147483648).toNat else gA (gO G z) i), gN G, gX G, gK G, gV G) = _
  rw [e]
  rfl
theorem gO_6 {G : GT} {z : Int} (hz : -2147483648 ≤ z) : (((gA (gO G z) 6 : Nat) : Int) - 2147483648) = z := by
  have e6 : gA (gO G z) 6 = (z + 2147483648).toNat := by
    show (if (6 : Nat) = 6 then (z + 2147483648).toNat else gA G 6) = _
    exact if_pos rfl
  rw [e6]
  omega
theorem oGI_ex {G : GT} {e : Except String Int} : ∃ z : Int, oGI G e = gO G z ∧ ∀ r, e = .ok r → z = nrm r := by
  cases e with
  | ok r => exact ⟨nrm r, rfl, fun r' h => by cases h; rfl⟩
  | error E => exact ⟨_, gO_self.symm, fun r h => nomatch h⟩
theorem oGZ_ex {G : GT} {e : Except String Int} : ∃ z : Int, oGZ G e = gO G z ∧ ∀ r, e = .ok r → z = if nrm r = 0 then 0 else 1 := by
  cases e with
  | ok r => exact ⟨if nrm r = 0 then 0 else 1, rfl, fun r' h => by cases h; rfl⟩
  | error E => exact ⟨_, gO_self.symm, fun r h => nomatch h⟩
theorem Nx.gO {G : GT} {X : CT} {b : Nat} {i z : Int} {cells slots : Nat} (K : Nx G X b i cells slots) (V' : VV) (S' : Su) (P' : Pl) (c' s' : Nat) (h : RV V' S' P') (hc : c' ≤ cells + 10) (hs : s' ≤ slots + 60) : At (gO G z) X c' s' 3481 (LV (gO G z) b i) [] V' := K z V' S' P' c' s' h hc hs
theorem Nx.self {G : GT} {X : CT} {b : Nat} {i : Int} {cells slots : Nat} (K : Nx G X b i cells slots) (V' : VV) (S' : Su) (P' : Pl) (c' s' : Nat) (h : RV V' S' P') (hc : c' ≤ cells + 10) (hs : s' ≤ slots + 60) : At G X c' s' 3481 (LV G b i) [] V' := by
  have h1 := K (((gA G 6 : Nat) : Int) - 2147483648) V' S' P' c' s' h hc hs
  rwa [gO_self] at h1
theorem cod_rg {l : List String} {e : Except String Int} : 0 ≤ cod l e ∧ cod l e ≤ 4 := by
  cases e with
  | ok r => exact ⟨Int.le_refl 0, (show (0 : Int) ≤ 4 by omega)⟩
  | error E => unfold cod; (repeat' split) <;> omega
theorem cod_e {l : List String} {e : Except String Int} (h : cod l e = 0) : ∃ r, e = .ok r := by
  cases e with
  | ok r => exact ⟨r, rfl⟩
  | error E =>
    have h9 : 1 ≤ cod l (.error E) := by
      show (1 : Int) ≤ (if l[0]? = some E then 1 else if l[1]? = some E then 2 else if l[2]? = some E then 3 else 4)
      (repeat' split) <;> omega
    omega
theorem aI_63 (z : Int) : 0 ≤ aI z 63 ∧ aI z 63 < 64 := by
  unfold aI
  rw [show iI 63 = (63 : Int32) from rfl, pk_and (iI z) 6 (by decide +kernel)]
  have h2 := Nat.mod_lt (iI z).toBitVec.toNat (show 0 < 2 ^ 6 by decide)
  rw [nI_ti (by omega)]
  omega
theorem lg_cmp_se (x : Int64) : lg_cmp x x = 0 := by
  have h : ¬ x < x := by rw [Int64.lt_iff_toInt_lt]; omega
  simp [lg_cmp, h]
section
variable {G : GT} {X : CT} {cells slots pc N : Nat} {lv : List (Nat × Value)} {st : List Value} {h : HT} {own : String} {cc : ByteArray} {V V1 : VV}
theorem r_sld {b L : Nat} {xs : Nat → Int32} {j : Int} (hL : LX G X b L xs) (hl : L ≤ 3072) (C : Cx G X own cc) (d : decode cc pc = .ok (.iaload, 1)) (h0 : 0 ≤ j) (h1 : j < L) (k : AtH G X cells slots (pc + 1) lv (vI (sv xs j) :: st) N h) : AtH G X cells slots pc lv (vI j :: .ref b :: st) N h := by
  obtain ⟨p, l, e, R, s, m, args, below, meth, c, Q, nL⟩ := X
  intro H locs ls hW hS hls
  obtain ⟨hx, hb, hg⟩ := hL
  refine va_sld (A := fun q => gB G ≤ q) (H0 := s.heap) C.1 C.2.1 hx hb (fun h9 : gB G ≤ b => by omega) hS (iI_in h0 h1 (by omega)) d ?_
  have hk := k H locs ls hW hS hls
  have e9 : Value.int (xs (iI j).toNatClampNeg) = vI (sv xs j) := by
    rw [iI_clamp h0 ⟨by omega, by omega⟩]
    exact congrArg Value.int (iI_of _)
  rw [e9]
  exact hk
theorem r_slen {b L : Nat} {xs : Nat → Int32} (hL : LX G X b L xs) (C : Cx G X own cc) (d : decode cc pc = .ok (.arraylength, 1)) (k : AtH G X cells slots (pc + 1) lv (vI (L : Int) :: st) N h) : AtH G X cells slots pc lv (.ref b :: st) N h := by
  obtain ⟨p, l, e, R, s, m, args, below, meth, c, Q, nL⟩ := X
  intro H locs ls hW hS hls
  obtain ⟨hx, hb, hg⟩ := hL
  refine va_slen (A := fun q => gB G ≤ q) (H0 := s.heap) C.1 C.2.1 hx hb (fun h9 : gB G ≤ b => by omega) hS d ?_
  have hk := k H locs ls hW hS hls
  have e9 : Value.int (Int32.ofNat L) = vI (L : Int) := congrArg Value.int (iI_nI L)
  rw [e9]
  exact hk
theorem r_lcmp {x : Int64} (C : Cx G X own cc) (d : decode cc pc = .ok (.lcmp, 1)) (k : AtH G X cells slots (pc + 1) lv (vI 0 :: st) N h) : AtH G X cells slots pc lv (.long x :: .long x :: st) N h := by
  obtain ⟨p, l, e, R, s, m, args, below, meth, c, Q, nL⟩ := X
  intro H locs ls hW hS hls
  refine W.lcmp C.1 C.2.1 d ?_
  rw [lg_cmp_se]
  exact k H locs ls hW hS hls
theorem r_tsw64 {dflt lo hi : Int} {offs : Array Int} {len tgt : Nat} {z off : Int} (C : Cx G X own cc) (d : decode cc pc = .ok (.tableswitch dflt lo hi offs, len)) (hz : rg z) (h1 : lo ≤ z) (h2 : z ≤ hi) (ho : offs[(z - lo).toNat]? = some off) (ht : (pc : Int) + off = (tgt : Int)) (k : AtH G X cells slots tgt lv st N h) : AtH G X cells slots pc lv (vI z :: st) N h := by
  obtain ⟨p, l, e, R, s, m, args, below, meth, c, Q, nL⟩ := X
  intro H locs ls hW hS hls
  have e9 : (iI z).toInt = z := iI_toInt hz
  exact lv_tableIn C.1 C.2.1 d (by rw [e9]; omega) (by rw [e9]; omega) (by rw [e9]; exact ho) ht (k H locs ls hW hS hls)
/-- an argument out of the script -/
theorem ld_arg {b L : Nat} {xs : Nat → Int32} {i j : Int} (A : LA G X b L xs) (d0 : decode code pc = .ok (.aload_n 0, 1)) (d1 : decode code (pc + 1) = .ok (.iload 4, 2)) (d3 : decode code (pc + 3) = .ok (.iconst j, 1)) (d4 : decode code (pc + 4) = .ok (.iadd, 1)) (d5 : decode code (pc + 5) = .ok (.iaload, 1)) (hl0 : lv.lookup 0 = some (.ref b)) (hl4 : lv.lookup 4 = some (vI i)) (h0 : 0 ≤ i + j) (h1 : i + j < L)
    (k : At G X cells slots (pc + 6) lv (vI (sv xs (i + j)) :: st) V) : At G X cells slots pc lv st V := by
  have C := A.1
  refine r_aload_n C d0 hl0 ?_
  refine r_iload C d1 hl4 ?_
  refine r_iconst C d3 ?_
  refine r_iadd C d4 ?_
  exact r_sld A.2.1 A.2.2.2.2.2.2.2 C d5 h0 h1 k
/-- a truth value out of the script -/
theorem ld_bool {b L : Nat} {xs : Nat → Int32} {i j : Int} (A : LA G X b L xs) (d0 : decode code pc = .ok (.aload_n 0, 1)) (d1 : decode code (pc + 1) = .ok (.iload 4, 2)) (d3 : decode code (pc + 3) = .ok (.iconst j, 1)) (d4 : decode code (pc + 4) = .ok (.iadd, 1)) (d5 : decode code (pc + 5) = .ok (.iaload, 1)) (d6 : decode code (pc + 6) = .ok (.ifCond .eq 7, 3)) (d9 : decode code (pc + 9) = .ok (.iconst 1, 1)) (d10 : decode code (pc + 10) = .ok (.goto 4, 3)) (d13 : decode code (pc + 13) = .ok (.iconst 0, 1)) (hl0 : lv.lookup 0 = some (.ref b)) (hl4 : lv.lookup 4 = some (vI i)) (h0 : 0 ≤ i + j) (h1 : i + j < L)
    (k : At G X cells slots (pc + 14) lv (vI (swb xs (i + j)) :: st) V) : At G X cells slots pc lv st V := by
  have C := A.1
  refine ld_arg A d0 d1 d3 d4 d5 hl0 hl4 h0 h1 ?_
  have hr := sv_rg (xs := xs) (k := i + j)
  refine r_ifeq (tgt := pc + 13) C d6 (by omega) hr (fun c => ?_) (fun c => ?_)
  · refine r_iconst C d13 ?_
    have e9 : swb xs (i + j) = 0 := if_pos c
    rw [e9] at k
    exact k
  · refine r_iconst C d9 ?_
    refine r_goto (tgt := pc + 14) C d10 (by omega) ?_
    have e9 : swb xs (i + j) = 1 := if_neg c
    rw [e9] at k
    exact k
/-- a helper of the law is called -/
theorem q_callW {idx nLy n dy mc ms : Nat} {R0 : Room} {y : MethodName} {ccy : ByteArray} {hh : List (Nat × Nat × Nat × Nat)} {As rest st0 : List Value} {z : Int} {G1 : GT} (C : Cx G X own cc) (hXK : XK (xS X)) (hR : xR X = R0) (d : decode cc pc = .ok (.invokestatic idx, 3)) (wl : .methodLink own idx y ∈ LW) (wy : .static y ∈ LW ∧ .codeWith y ccy nLy (some .int) hh ∈ LW) (wi : .initialized y.cls ∈ LW) (hy : y.cls ≠ "java/lang/invoke/MethodHandle" ∧ y.cls ≠ "java/lang/invoke/VarHandle") (hn6 : (parseMethodDescriptor y.desc).map (fun d => d.parameters.length) = some n) (hE : EvW G (xl X) y ccy nLy hh dy mc ms As (gN G) (hV G V) (QW G G1 z V1)) (hst : st0 = As.reverse ++ rest) (hn : As.length = n)
    (hcat : (rest.map fun v => v.category).sum ≤ 8) (hd : dy + 1 ≤ R0.frames) (hlo : 8 + (nLy + 11) + 40 * dy ≤ R0.locals) (hmc : cells + mc ≤ R0.cells) (hms : slots + ms ≤ R0.slots)
    (kk : AtH G X (cells + mc) (slots + ms) (pc + 3) lv (vI z :: rest) (gN G) (hV G1 V1)) : At G X cells slots pc lv st0 V := by
  obtain ⟨p, l, e, R, s, m, args, below, meth, c, Q, nL⟩ := X
  intro H locs ls hW hS hls
  subst hR
  obtain ⟨hexec, hb, hml, hown, hts, hK, hF, hlocks, -, hbs⟩ := C
  have hpre : PreS s H (PHX G As (gN G) (hV G V)) As := by
    refine ⟨PHX_blind, fun U hU hWm => ⟨⟨rfl, by rw [hU]; exact hW, va_K.moved hWm.alike hK, ?_⟩, hXK.moved hWm.alike⟩⟩
    rw [hU]
    exact (hF.kept (fun a h1 h2 => hS.2.1 a h1 h2)).moved hWm
  have hcw : vx_CSW R s args own idx y ccy nLy (some .int) hh (.codeWith y ccy nLy (some .int) hh :: LW) (rmD dy mc ms) mc ms n := by
    refine ⟨⟨rfl, rfl, hd, hlo, ?_, List.mem_cons_self⟩, hts _ wy.2, hts _ wi, hy, fun sig h9 => ?_, hts _ wl, hts _ wy.1⟩
    · intro w hw a' U hWm
      have hm : w ∈ LW := by
        rcases List.mem_cons.mp hw with e9 | e9
        · rw [e9]; exact wy.2
        · exact e9
      exact word_at hWm (LW_good hm) (hts w hm)
    · rw [h9] at hn6
      exact (Option.some.inj hn6).symm
  have hrun := vx_runSX (H := H) (locs := locs) (cells := cells) (slots := slots) (p := p) (e := e) (below := below) (meth := meth) (rest := rest) (As := As) (g := F0 m pc ls st0) ⟨hexec, hb, hml, hown, hts⟩ hE hcw hpre rfl hn hls.1 hst (lv_room hcat) d ⟨hmc, hms⟩
  refine run_on hrun hS (fun E ce q9 N' h' H1 locs1 hp => False.elim hp) (fun v N' h' H1 locs1 hp hWd hS1 => ?_)
  obtain ⟨p1, p2, p3⟩ := hp
  subst p1; subst p2; subst p3
  exact kk H1 locs1 ls hWd hS1 hls
/-- the answers are compared: ints -/
theorem tl_I {b L : Nat} {xs : Nat → Int32} {i kx bb : Int} {off : Int} (A : LA G X b L xs) (h9 : V 148 9 = kx) (hk : 0 ≤ kx ∧ kx ≤ 4) (hout : kx = 0 → (((gA G 6 : Nat) : Int) - 2147483648) = nrm bb) (hc : cells ≤ 601024) (hs : slots ≤ 7293034)
    (d0 : decode code pc = .ok (.aload_n 2, 1)) (d1 : decode code (pc + 1) = .ok (.invokevirtual 166, 3)) (d4 : decode code (pc + 4) = .ok (.iload 5, 2)) (d6 : decode code (pc + 6) = .ok (.if_icmp .eq 5, 3)) (d11 : decode code (pc + 11) = .ok (.iload 5, 2)) (d13 : decode code (pc + 13) = .ok (.ifCond .ne 15, 3)) (d16 : decode code (pc + 16) = .ok (.aload_n 3, 1)) (d17 : decode code (pc + 17) = .ok (.iconst 0, 1)) (d18 : decode code (pc + 18) = .ok (.laload, 1)) (d19 : decode code (pc + 19) = .ok (.iload 6, 2)) (d21 : decode code (pc + 21) = .ok (.i2l, 1)) (d22 : decode code (pc + 22) = .ok (.lcmp, 1)) (d23 : decode code (pc + 23) = .ok (.ifCond .eq 5, 3)) (d28 : decode code (pc + 28) = .ok (.goto off, 3)) (ht : ((pc + 28 : Nat) : Int) + off = ((3481 : Nat) : Int))
    (K : At G X cells slots 3481 (LV G b i) [] V) : At G X cells slots pc ((6, vI bb) :: (5, vI kx) :: LV G b i) [] V := by
  obtain ⟨C, hL, hXK, hR, hx, hN, hX, hl⟩ := A
  have e9 : gN G = 155 := hN
  refine r_aload_n C d0 rfl ?_
  refine q_callV (kk0 := 148) (As := []) (rest := []) C hR d1 lL_166 w6_thrown (rc_model (by omega)) (ev6_thrown C.lt (by omega) rfl) rfl rfl (Nat.le_of_ble_eq_true rfl) (Nat.le_of_ble_eq_true rfl) (Nat.le_of_ble_eq_true rfl) hc hs ?_
  rw [h9]
  show At G X cells slots (pc + 4) ((6, vI bb) :: (5, vI kx) :: LV G b i) [vI kx] V
  refine r_iload C d4 rfl ?_
  refine r_icmpeq (tgt := pc + 11) C d6 (by omega) ⟨by omega, by omega⟩ ⟨by omega, by omega⟩ (fun _ => ?_) (fun c => absurd rfl c)
  refine r_iload C d11 rfl ?_
  refine r_ifne (tgt := pc + 28) C d13 (by omega) ⟨by omega, by omega⟩ (fun c => ?_) (fun c => ?_)
  · refine r_goto (tgt := 3481) C d28 ht ?_
    exact AtH.sw K ⟨rfl, rfl, rfl, rfl, rfl, trivial⟩
  · refine r_aload_n C d16 rfl ?_
    refine r_iconst C d17 ?_
    refine r_lald (k := 154) (n := 1) (row := updI (fun _ => 0) 0 (((gA G 6 : Nat) : Int) - 2147483648)) C d18 (by omega) rfl (by omega) (by omega) (by omega) ?_
    refine r_iload C d19 rfl ?_
    refine r_i2l C d21 ?_
    have e8 : updI (fun _ => 0) 0 (((gA G 6 : Nat) : Int) - 2147483648) (0 : Int).toNat = nrm bb := by rw [← hout c]; rfl
    rw [e8]
    refine r_lcmp C d22 ?_
    refine r_ifeq (tgt := pc + 28) C d23 (by omega) ⟨by omega, by omega⟩ (fun _ => ?_) (fun c2 => absurd rfl c2)
    refine r_goto (tgt := 3481) C d28 ht ?_
    exact AtH.sw K ⟨rfl, rfl, rfl, rfl, rfl, trivial⟩
/-- truth values -/
theorem tl_Z {b L : Nat} {xs : Nat → Int32} {i kx bb : Int} {off : Int} (A : LA G X b L xs) (h9 : V 148 9 = kx) (hk : 0 ≤ kx ∧ kx ≤ 4) (hout : kx = 0 → (((gA G 6 : Nat) : Int) - 2147483648) = if nrm bb = 0 then 0 else 1) (hc : cells ≤ 601024) (hs : slots ≤ 7293034)
    (d0 : decode code pc = .ok (.aload_n 2, 1)) (d1 : decode code (pc + 1) = .ok (.invokevirtual 166, 3)) (d4 : decode code (pc + 4) = .ok (.iload 5, 2)) (d6 : decode code (pc + 6) = .ok (.if_icmp .eq 5, 3)) (d11 : decode code (pc + 11) = .ok (.iload 5, 2)) (d13 : decode code (pc + 13) = .ok (.ifCond .ne 22, 3)) (d16 : decode code (pc + 16) = .ok (.aload_n 3, 1)) (d17 : decode code (pc + 17) = .ok (.iconst 0, 1)) (d18 : decode code (pc + 18) = .ok (.laload, 1)) (d19 : decode code (pc + 19) = .ok (.iload 6, 2)) (d21 : decode code (pc + 21) = .ok (.ifCond .eq 7, 3)) (d24 : decode code (pc + 24) = .ok (.lconst 1, 1)) (d25 : decode code (pc + 25) = .ok (.goto 4, 3)) (d28 : decode code (pc + 28) = .ok (.lconst 0, 1)) (d29 : decode code (pc + 29) = .ok (.lcmp, 1)) (d30 : decode code (pc + 30) = .ok (.ifCond .eq 5, 3)) (d35 : decode code (pc + 35) = .ok (.goto off, 3)) (ht : ((pc + 35 : Nat) : Int) + off = ((3481 : Nat) : Int))
    (K : At G X cells slots 3481 (LV G b i) [] V) : At G X cells slots pc ((6, vI bb) :: (5, vI kx) :: LV G b i) [] V := by
  obtain ⟨C, hL, hXK, hR, hx, hN, hX, hl⟩ := A
  have e9 : gN G = 155 := hN
  refine r_aload_n C d0 rfl ?_
  refine q_callV (kk0 := 148) (As := []) (rest := []) C hR d1 lL_166 w6_thrown (rc_model (by omega)) (ev6_thrown C.lt (by omega) rfl) rfl rfl (Nat.le_of_ble_eq_true rfl) (Nat.le_of_ble_eq_true rfl) (Nat.le_of_ble_eq_true rfl) hc hs ?_
  rw [h9]
  show At G X cells slots (pc + 4) ((6, vI bb) :: (5, vI kx) :: LV G b i) [vI kx] V
  refine r_iload C d4 rfl ?_
  refine r_icmpeq (tgt := pc + 11) C d6 (by omega) ⟨by omega, by omega⟩ ⟨by omega, by omega⟩ (fun _ => ?_) (fun c => absurd rfl c)
  refine r_iload C d11 rfl ?_
  refine r_ifne (tgt := pc + 35) C d13 (by omega) ⟨by omega, by omega⟩ (fun c => ?_) (fun c => ?_)
  · refine r_goto (tgt := 3481) C d35 ht ?_
    exact AtH.sw K ⟨rfl, rfl, rfl, rfl, rfl, trivial⟩
  · refine r_aload_n C d16 rfl ?_
    refine r_iconst C d17 ?_
    refine r_lald (k := 154) (n := 1) (row := updI (fun _ => 0) 0 (((gA G 6 : Nat) : Int) - 2147483648)) C d18 (by omega) rfl (by omega) (by omega) (by omega) ?_
    have e8 : updI (fun _ => 0) 0 (((gA G 6 : Nat) : Int) - 2147483648) (0 : Int).toNat = if nrm bb = 0 then 0 else 1 := by rw [← hout c]; rfl
    rw [e8]
    refine r_iload C d19 rfl ?_
    refine x_ifeq (tgt := pc + 28) C d21 (by omega) (fun c2 => ?_) (fun c2 => ?_)
    · refine r_lconst (z := 0) C d28 rfl ?_
      rw [if_pos c2]
      refine r_lcmp C d29 ?_
      refine r_ifeq (tgt := pc + 35) C d30 (by omega) ⟨by omega, by omega⟩ (fun _ => ?_) (fun c3 => absurd rfl c3)
      refine r_goto (tgt := 3481) C d35 ht ?_
      exact AtH.sw K ⟨rfl, rfl, rfl, rfl, rfl, trivial⟩
    · refine r_lconst (z := 1) C d24 rfl ?_
      refine r_goto (tgt := pc + 29) C d25 (by omega) ?_
      rw [if_neg c2]
      refine r_lcmp C d29 ?_
      refine r_ifeq (tgt := pc + 35) C d30 (by omega) ⟨by omega, by omega⟩ (fun _ => ?_) (fun c3 => absurd rfl c3)
      refine r_goto (tgt := 3481) C d35 ht ?_
      exact AtH.sw K ⟨rfl, rfl, rfl, rfl, rfl, trivial⟩
/-- a method that ends well is called, with these locals -/
theorem q_callVd {idx kk0 nLy n dy : Nat} {R0 : Room} {y : MethodName} {ccy : ByteArray} {ret : Option FieldType} {As rest st0 : List Value} {o : Option Value}
    (C : Cx G X own cc) (hR : xR X = R0) (d : decode cc pc = .ok (.invokevirtual idx, 3)) (wl : .methodLink own idx y ∈ LW) (wy : YV y ccy nLy ret n) (rc : RC G kk0 y.cls) (hE : EvX G (xl X) y ccy nLy ret dy 0 0 (.ref (gB G + kk0) :: As) V (.ok o) V1) (hst : st0 = As.reverse ++ .ref (gB G + kk0) :: rest) (hn : As.length = n)
    (hcat : (rest.map fun v => v.category).sum ≤ 8) (hd : dy + 1 ≤ R0.frames) (hlo : 8 + (nLy + 11) + 40 * dy ≤ R0.locals) (hmc : cells ≤ R0.cells) (hms : slots ≤ R0.slots) :
    match X with
    | (p, l, e, R, s, m, args, below, meth, c, Q, nL) => ∀ (H : Heap) (locs : List Loc) (ls : Array Slot), Wd G (gN G) (hV G V) H → va_S (fun q => gB G ≤ q) s.heap H locs → ls.size = nL →
      (∀ (H1 : Heap) (locs1 : List Loc), Wd G (gN G) (hV G V1) H1 → va_S (fun q => gB G ≤ q) s.heap H1 locs1 → W p l e R s m args below meth c H1 locs1 cells slots Q (F0 m (pc + 3) ls (o.toList ++ rest))) → W p l e R s m args below meth c H locs cells slots Q (F0 m pc ls st0) := by
  obtain ⟨p, l, e, R, s, m, args, below, meth, c, Q, nL⟩ := X
  intro H locs ls hW hS hls kk
  subst hR
  obtain ⟨hexec, hb, hml, hown, hts, hK, hF, hlocks, -, hbs⟩ := C
  obtain ⟨w1, w2, w3, w4, w5, w6⟩ := wy
  obtain ⟨hk, ci, fs, cf, hci⟩ := rc
  have hcb : CallB R s args own idx y ccy nLy ret (.code y ccy nLy ret :: LW) (rmD dy 0 0) 0 0 n := by
    refine ⟨rfl, rfl, hd, hlo, ?_, List.mem_cons_self, hts _ w4, hts _ w3, w5, fun sig h => ?_, hts _ wl⟩
    · intro w hw a' U hW
      have hm : w ∈ LW := by
        rcases List.mem_cons.mp hw with e | e
        · rw [e]; exact w4
        · exact e
      exact word_at hW (LW_good hm) (hts w hm)
    · rw [h] at w6
      exact (Option.some.inj w6).symm
  have hwat := hW.at hk
  rw [show hV G V kk0 = .inr (ci, fs (V kk0)) from cf _] at hwat
  obtain ⟨r9, hr9, cell9, q1, q2, q3, -⟩ := hwat
  have hcls : s.vm.findClass y.cls = some cell9.cls := by
    have h1 := (hK.1 ci r9 hr9).2.1
    rw [hr9] at hci
    have h2 : r9.1 = y.cls := Option.some.inj hci
    rw [← h2, q2]
    exact h1
  have hpre : PreV s H y.cls (gB G + kk0) (PH G (.ref (gB G + kk0) :: As) (gN G) (hV G V)) As := by
    refine ⟨PH_blind, ⟨cell9, q1, by rw [q3]; rfl, hcls⟩, fun U hU hWm => ⟨rfl, by rw [hU]; exact hW, va_K.moved hWm.alike hK, ?_⟩⟩
    rw [hU]
    exact (hF.kept (fun a h1 h2 => hS.2.1 a h1 h2)).moved hWm
  have hrun := vx_runV (H := H) (locs := locs) (cells := cells) (slots := slots) (p := p) (e := e) (below := below) (meth := meth) (rest := rest) (As := As) (b := gB G + kk0) (g := F0 m pc ls st0) ⟨hexec, hb, hml, hown, hts⟩ hE ⟨hcb, hts _ w1, hts _ w2⟩ hpre rfl hn hls hst (lv_room hcat) d ⟨hmc, hms⟩
  refine run_on hrun hS (fun E ce q9 N' h' H1 locs1 hp => by obtain ⟨-, V', -, q, -⟩ := hp; cases q) (fun v N' h' H1 locs1 hp hWd hS1 => ?_)
  obtain ⟨p1, V', p2, p3, p4⟩ := hp
  subst p1; subst p2; cases p3; subst p4
  exact kk H1 locs1 hWd hS1
/-- from an answer to a double -/
def CV (X : CT) (pcA pcB : Nat) (v : Value) (q : UInt64) : Prop :=
  match X with
  | (p, l, e, R, s, m, args, below, meth, c, Q, nL) => ∀ (H : Heap) (locs : List Loc) (ls : Array Slot) (cells slots : Nat), W p l e R s m args below meth c H locs cells slots Q (F0 m pcB ls [.double q]) → W p l e R s m args below meth c H locs cells slots Q (F0 m pcA ls [v])
theorem CV_id {q : UInt64} : CV X pc pc (.double q) q := by
  obtain ⟨p, l, e, R, s, m, args, below, meth, c, Q, nL⟩ := X
  intro H locs ls cells slots k
  exact k
theorem CV_f2d {q : UInt32} (C : Cx G X own cc) (d : decode cc pc = .ok (.f2d, 1)) (hq : FP.Core.fIsNaN q = false) : CV X pc (pc + 1) (.float q) (FP.f2d q) := by
  obtain ⟨p, l, e, R, s, m, args, below, meth, c, Q, nL⟩ := X
  intro H locs ls cells slots k
  exact lv_f2d C.1 C.2.1 d (nn64 (f2d_no hq)) k
theorem CV.at {pcB : Nat} {v : Value} {q : UInt64} (c : CV X pc pcB v q) (k : At G X cells slots pcB lv [.double q] V) : At G X cells slots pc lv [v] V := by
  obtain ⟨p, l, e, R, s, m, args, below, meth, c, Q, nL⟩ := X
  intro H locs ls hW hS hls
  exact c H locs ls cells slots (k H locs ls hW hS hls)
theorem lk_mem {i : Nat} {v : Value} : ∀ {lw : List (Nat × Value)}, lw.lookup i = some v → (i, v) ∈ lw
  | [], hi => by simp at hi
  | a :: l, hi => by
    rw [List.lookup_cons] at hi
    by_cases e : i = a.1
    · subst e
      simp at hi
      subst hi
      exact List.mem_cons_self
    · have hb : (i == a.1) = false := by simp [e]
      rw [hb] at hi
      exact List.mem_cons_of_mem _ (lk_mem hi)
theorem lh_hs {ls : Array Slot} {nL : Nat} {lw : List (Nat × Value)} (h : lv_has ls nL lw) (hc : ∀ q ∈ lv, q ∈ lw ∧ q.2.category = 1) : lh ls nL lv :=
  ⟨h.1, h.2.1, fun i v hi => ⟨h.2.2 _ (hc _ (lk_mem hi)).1, (hc _ (lk_mem hi)).2⟩⟩
theorem lh_sh {b : Nat} {i : Int} {ls : Array Slot} {nL : Nat} (h : lh ls nL (LV G b i)) : lv_has ls nL (LV G b i) := by
  refine ⟨h.1, h.2.1, fun q hq => ?_⟩
  simp only [List.mem_cons, List.not_mem_nil, or_false] at hq
  rcases hq with e | e | e | e | e <;> subst e <;> exact (h.2.2 _ _ rfl).1
theorem dcmp_0 {a : UInt64} (h : FP.Core.dIsNaN a = false) (op : CmpOp) : Op.cmpValue (FP.dcmp a a) op = 0 := by
  rw [dcmp_se h]; rfl
/-- two doubles are compared -/
theorem tl_D {b L idx nLy dy pcB : Nat} {xs : Nat → Int32} {i off : Int} {y : MethodName} {ccy : ByteArray} {ret : Option FieldType} {v : Value} {q : UInt64} (A : LA G X b L xs) (hq : FP.Core.dIsNaN q = false) (hc : cells ≤ 601024) (hs : slots ≤ 7293034)
    (wl : .methodLink LN idx y ∈ LW) (wy : YV y ccy nLy ret 0) (rc : RC G 148 y.cls) (hE : EvX G (xl X) y ccy nLy ret dy 0 0 [.ref (gB G + 148)] V (.ok (some v)) V1) (hd : dy + 1 ≤ 2048) (hlo : 8 + (nLy + 11) + 40 * dy ≤ 84000) (hcv : CV X (pc + 6) pcB v q)
    (d0 : decode code pc = .ok (.dstore 5, 2)) (d2 : decode code (pc + 2) = .ok (.aload_n 2, 1)) (d3 : decode code (pc + 3) = .ok (.invokevirtual idx, 3))
    (f0 : decode code pcB = .ok (.dstore 7, 2)) (f2 : decode code (pcB + 2) = .ok (.dload 5, 2)) (f4 : decode code (pcB + 4) = .ok (.dload 7, 2)) (f6 : decode code (pcB + 6) = .ok (.dcmp .l, 1)) (f7 : decode code (pcB + 7) = .ok (.ifCond .eq 21, 3)) (f28 : decode code (pcB + 28) = .ok (.goto off, 3)) (ht : ((pcB + 28 : Nat) : Int) + off = ((3481 : Nat) : Int))
    (K : At G X cells slots 3481 (LV G b i) [] V1) : At G X cells slots pc (LV G b i) [.double q] V := by
  obtain ⟨C, hL, hXK, hR, hx, hN, hX, hl⟩ := A
  have hcall := q_callVd (pc := pc + 3) (cells := cells) (slots := slots) (kk0 := 148) (As := []) (rest := []) (R0 := room_1) (st0 := [.ref (gB G + 148)]) C hR d3 wl wy rc hE rfl rfl (Nat.le_of_ble_eq_true rfl) hd hlo hc hs
  obtain ⟨p, l, e, R, s, m, args, below, meth, c, Q, nL⟩ := X
  obtain rfl : nL = 9 := hx
  intro H locs ls hW hS hls
  refine lv_dstore C.1 C.2.1 (lv' := (5, .double q) :: LV G b i) d0 (lh_sh hls) (by omega) rfl (fun ls1 hl1 => ?_)
  refine lv_aload_n C.1 C.2.1 d2 rfl (hl1.2.2 (2, .ref (gB G + 148)) (by simp)) ?_
  refine hcall H locs ls1 hW hS hl1.1 (fun H1 locs1 hW1 hS1 => ?_)
  refine hcv H1 locs1 ls1 cells slots ?_
  refine lv_dstore C.1 C.2.1 (lv' := (7, .double q) :: (5, .double q) :: LV G b i) f0 hl1 (by omega) rfl (fun ls2 hl2 => ?_)
  refine lv_dload C.1 C.2.1 f2 (hl2.2.2 (5, .double q) (by simp)) ?_
  refine lv_dload C.1 C.2.1 f4 (hl2.2.2 (7, .double q) (by simp)) ?_
  refine lv_dcmp C.1 C.2.1 f6 ?_
  rw [dcmp_0 hq]
  refine lv_if_eq (tgt := pcB + 28) C.1 C.2.1 f7 (by omega) (fun _ => ?_) (fun c9 => absurd rfl c9)
  refine lv_goto C.1 C.2.1 f28 ht ?_
  exact K H1 locs1 ls2 hW1 hS1 (lh_hs hl2 (fun q9 h9 => by
    refine ⟨List.mem_cons_of_mem _ (List.mem_cons_of_mem _ h9), ?_⟩
    simp only [List.mem_cons, List.not_mem_nil, or_false] at h9
    rcases h9 with e | e | e | e | e <;> subst e <;> rfl))
end
