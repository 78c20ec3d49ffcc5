/-! rows of the string phase: calls of inherited and of super methods, copies of bytes, digits -/
theorem wac_n : .native arraycopyName ∈ LW := LW_i 903 (by decide +kernel) (by decide +kernel)
theorem wac_s : .static arraycopyName ∈ LW := LW_i 902 (by decide +kernel) (by decide +kernel)
theorem wac_i : .initialized "java/lang/System" ∈ LW := LW_i 43 (by decide +kernel) (by decide +kernel)
theorem wcl_same : .sameMethod "[B" "java/lang/Object" "clone" "()Ljava/lang/Object;" ∈ LW := LW_i 892 (by decide +kernel) (by decide +kernel)
theorem wcl_n : .native ⟨"java/lang/Object", "clone", "()Ljava/lang/Object;"⟩ ∈ LW := LW_i 893 (by decide +kernel) (by decide +kernel)
theorem wcl_i : .instanceMethod ⟨"java/lang/Object", "clone", "()Ljava/lang/Object;"⟩ ∈ LW := LW_i 894 (by decide +kernel) (by decide +kernel)
theorem wcl_s : .selects "[B" ⟨"[B", "clone", "()Ljava/lang/Object;"⟩ ⟨"java/lang/Object", "clone", "()Ljava/lang/Object;"⟩ ∈ LW := LW_i 895 (by decide +kernel) (by decide +kernel)
/-- the words of an inherited method y, called by x on a C -/
def YU (C : String) (x y : MethodName) (cc : ByteArray) (nL : Nat) (ret : Option FieldType) (n : Nat) : Prop :=
  (.sameMethod x.cls x.cls x.name x.desc ∈ LW ∧ .instanceMethod x ∈ LW ∧ ∃ (b : ByteArray) (m : Nat) (r : Option FieldType), .code x b m r ∈ LW) ∧ .selects C x y ∈ LW ∧ .instanceMethod y ∈ LW ∧ .initialized y.cls ∈ LW ∧ .code y cc nL ret ∈ LW ∧ (x.cls ≠ "java/lang/invoke/MethodHandle" ∧ x.cls ≠ "java/lang/invoke/VarHandle") ∧ (parseMethodDescriptor x.desc).map (fun d => d.parameters.length) = some n
/-- the words of a super method y -/
def YW (own : String) (y : MethodName) (cc : ByteArray) (nL : Nat) (ret : Option FieldType) (n : Nat) : Prop :=
  .sameMethod y.cls y.cls y.name y.desc ∈ LW ∧ .superclass own y.cls ∈ LW ∧ .instanceMethod y ∈ LW ∧ .initialized y.cls ∈ LW ∧ .code y cc nL ret ∈ LW ∧ y.name ≠ "<init>" ∧ (parseMethodDescriptor y.desc).map (fun d => d.parameters.length) = some n
theorem uJ5_ensureCapacityInternal_d00df : YU "java/lang/StringBuilder" yJ5_ensureCapacityInternal_d00df yJ5_ensureCapacityInternal_d00df bJ5_ensureCapacityInternal_d00df 3 none 1 := ⟨⟨LW_i 1106 (by decide +kernel) (by decide +kernel), LW_i 872 (by decide +kernel) (by decide +kernel), bJ5_ensureCapacityInternal_d00df, 3, none, LW_i 873 (by decide +kernel) (by decide +kernel)⟩, LW_x 0 rfl (by decide +kernel), LW_i 872 (by decide +kernel) (by decide +kernel), LW_i 38 (by decide +kernel) (by decide +kernel), LW_i 873 (by decide +kernel) (by decide +kernel), by decide +kernel, by decide +kernel⟩
theorem uJ5_newCapacity_0f7a4 : YU "java/lang/StringBuilder" yJ5_newCapacity_0f7a4 yJ5_newCapacity_0f7a4 bJ5_newCapacity_0f7a4 6 (some .int) 1 := ⟨⟨LW_i 1107 (by decide +kernel) (by decide +kernel), LW_i 876 (by decide +kernel) (by decide +kernel), bJ5_newCapacity_0f7a4, 6, (some .int), LW_i 877 (by decide +kernel) (by decide +kernel)⟩, LW_x 1 rfl (by decide +kernel), LW_i 876 (by decide +kernel) (by decide +kernel), LW_i 38 (by decide +kernel) (by decide +kernel), LW_i 877 (by decide +kernel) (by decide +kernel), by decide +kernel, by decide +kernel⟩
theorem uJ5_isLatin1_aae02 : YU "java/lang/StringBuilder" yJ5_isLatin1_aae02 yJ5_isLatin1_aae02 bJ5_isLatin1_aae02 1 (some .boolean) 0 := ⟨⟨LW_i 906 (by decide +kernel) (by decide +kernel), LW_i 905 (by decide +kernel) (by decide +kernel), bJ5_isLatin1_aae02, 1, (some .boolean), LW_i 908 (by decide +kernel) (by decide +kernel)⟩, LW_i 907 (by decide +kernel) (by decide +kernel), LW_i 905 (by decide +kernel) (by decide +kernel), LW_i 38 (by decide +kernel) (by decide +kernel), LW_i 908 (by decide +kernel) (by decide +kernel), by decide +kernel, by decide +kernel⟩
theorem uJ5_putStringAt_47b60 : YU "java/lang/StringBuilder" yJ5_putStringAt_47b60 yJ5_putStringAt_47b60 bJ5_putStringAt_47b60 3 none 2 := ⟨⟨LW_i 1108 (by decide +kernel) (by decide +kernel), LW_i 927 (by decide +kernel) (by decide +kernel), bJ5_putStringAt_47b60, 3, none, LW_i 928 (by decide +kernel) (by decide +kernel)⟩, LW_x 2 rfl (by decide +kernel), LW_i 927 (by decide +kernel) (by decide +kernel), LW_i 38 (by decide +kernel) (by decide +kernel), LW_i 928 (by decide +kernel) (by decide +kernel), by decide +kernel, by decide +kernel⟩
theorem uJ5_inflateIfNeededFor_a7421 : YU "java/lang/StringBuilder" yJ5_inflateIfNeededFor_a7421 yJ5_inflateIfNeededFor_a7421 bJ5_inflateIfNeededFor_a7421 2 none 1 := ⟨⟨LW_i 1109 (by decide +kernel) (by decide +kernel), LW_i 931 (by decide +kernel) (by decide +kernel), bJ5_inflateIfNeededFor_a7421, 2, none, LW_i 932 (by decide +kernel) (by decide +kernel)⟩, LW_x 3 rfl (by decide +kernel), LW_i 931 (by decide +kernel) (by decide +kernel), LW_i 38 (by decide +kernel) (by decide +kernel), LW_i 932 (by decide +kernel) (by decide +kernel), by decide +kernel, by decide +kernel⟩
theorem uJ5_getValue_6d5f1 : YU "java/lang/StringBuilder" yJ5_getValue_6d5f1 yJ5_getValue_6d5f1 bJ5_getValue_6d5f1 1 (some (.array .byte)) 0 := ⟨⟨LW_i 1026 (by decide +kernel) (by decide +kernel), LW_i 1025 (by decide +kernel) (by decide +kernel), bJ5_getValue_6d5f1, 1, (some (.array .byte)), LW_i 1028 (by decide +kernel) (by decide +kernel)⟩, LW_i 1027 (by decide +kernel) (by decide +kernel), LW_i 1025 (by decide +kernel) (by decide +kernel), LW_i 38 (by decide +kernel) (by decide +kernel), LW_i 1028 (by decide +kernel) (by decide +kernel), by decide +kernel, by decide +kernel⟩
theorem uJ4_append_cf1ce : YU "java/lang/StringBuilder" yJ5_append_cf1ce yJ4_append_cf1ce bJ4_append_cf1ce 2 (some (.object "java/lang/AbstractStringBuilder")) 1 := ⟨⟨LW_i 855 (by decide +kernel) (by decide +kernel), LW_i 854 (by decide +kernel) (by decide +kernel), bJ5_append_cf1ce, 3, (some (.object "java/lang/AbstractStringBuilder")), LW_i 865 (by decide +kernel) (by decide +kernel)⟩, LW_i 856 (by decide +kernel) (by decide +kernel), LW_i 857 (by decide +kernel) (by decide +kernel), LW_i 39 (by decide +kernel) (by decide +kernel), LW_i 858 (by decide +kernel) (by decide +kernel), by decide +kernel, by decide +kernel⟩
theorem uJ4_length_8abf5 : YU "java/lang/StringBuilder" yJ5_length_8abf5 yJ4_length_8abf5 bJ4_length_8abf5 1 (some .int) 0 := ⟨⟨LW_i 1031 (by decide +kernel) (by decide +kernel), LW_i 1030 (by decide +kernel) (by decide +kernel), bJ5_length_8abf5, 1, (some .int), LW_i 1036 (by decide +kernel) (by decide +kernel)⟩, LW_i 1032 (by decide +kernel) (by decide +kernel), LW_i 1033 (by decide +kernel) (by decide +kernel), LW_i 39 (by decide +kernel) (by decide +kernel), LW_i 1034 (by decide +kernel) (by decide +kernel), by decide +kernel, by decide +kernel⟩
theorem pJ5_append_cf1ce : YW "java/lang/StringBuilder" yJ5_append_cf1ce bJ5_append_cf1ce 3 (some (.object "java/lang/AbstractStringBuilder")) 1 := ⟨LW_i 855 (by decide +kernel) (by decide +kernel), LW_i 864 (by decide +kernel) (by decide +kernel), LW_i 854 (by decide +kernel) (by decide +kernel), LW_i 38 (by decide +kernel) (by decide +kernel), LW_i 865 (by decide +kernel) (by decide +kernel), by decide +kernel, by decide +kernel⟩
theorem pJ5_append_3fe6f : YW "java/lang/StringBuilder" yJ5_append_3fe6f bJ5_append_3fe6f 2 (some (.object "java/lang/AbstractStringBuilder")) 1 := ⟨LW_i 1112 (by decide +kernel) (by decide +kernel), LW_i 864 (by decide +kernel) (by decide +kernel), LW_i 1000 (by decide +kernel) (by decide +kernel), LW_i 38 (by decide +kernel) (by decide +kernel), LW_i 1001 (by decide +kernel) (by decide +kernel), by decide +kernel, by decide +kernel⟩
theorem pJ5_append_c97b9 : YW "java/lang/StringBuilder" yJ5_append_c97b9 bJ5_append_c97b9 4 (some (.object "java/lang/AbstractStringBuilder")) 1 := ⟨LW_i 1111 (by decide +kernel) (by decide +kernel), LW_i 864 (by decide +kernel) (by decide +kernel), LW_i 975 (by decide +kernel) (by decide +kernel), LW_i 38 (by decide +kernel) (by decide +kernel), LW_i 976 (by decide +kernel) (by decide +kernel), by decide +kernel, by decide +kernel⟩
theorem pJ5_length_8abf5 : YW "java/lang/StringBuilder" yJ5_length_8abf5 bJ5_length_8abf5 1 (some .int) 0 := ⟨LW_i 1031 (by decide +kernel) (by decide +kernel), LW_i 864 (by decide +kernel) (by decide +kernel), LW_i 1030 (by decide +kernel) (by decide +kernel), LW_i 38 (by decide +kernel) (by decide +kernel), LW_i 1036 (by decide +kernel) (by decide +kernel), by decide +kernel, by decide +kernel⟩
theorem sel_up {C : String} {x : MethodName} {s : State} {args : Array Value} {n : Nat} (hins : (Cond.instantiable C n).before args s = true) (hpriv : (Cond.privateMethod x).before args s = true) (hinst : (Cond.instanceMethod x).before args s = true) (hsame : (Cond.sameMethod x.cls x.cls x.name x.desc).before args s = true) : (Cond.selects C x x).before args s = true := by
  obtain ⟨c, k, hc, hk, -, -, -, -⟩ := Cond.instantiable_spec hins
  obtain ⟨mk, methM, hnamed, hmethM, -, -⟩ := Cond.instanceMethod_spec hinst
  obtain ⟨cn, ck, r1, hcn, hck, hni, hf, hn1⟩ := Cond.sameMethod_found hsame
  cases hnamed.symm.trans hn1
  have hcls : mk.cls = cn := Option.some.inj ((findClass_of_methodNamed hnamed).symm.trans hcn)
  have hsel : selectMethod {} s.vm c mk = .method mk := selectMethod_private hmethM (Cond.privateMethod_at hpriv mk methM hnamed hmethM)
  simp only [Cond.before, Cond.holds, Cond.value, hc, hf, hnamed, hsel, hcls, hck]
  simp; exact hni
/-- bytes that can be copied from -/
def SrcB (U : State) (H : Heap) (a n : Nat) (f : Nat → Int) : Prop := ∃ cell : Cell, H[a]? = some cell ∧ U.isArrayOf cell .byte ∧ cell.vm ≠ .unknown ∧ n ≤ cell.slots.size ∧ ∀ j, j < n → cell.slots[j]? = some (.int (iI (f j)))
def cpI (f g : Nat → Int) (dp n : Nat) : Nat → Int := fun k => if dp ≤ k ∧ k < dp + n then f (k - dp) else g k
theorem cpI_in {f g : Nat → Int} {dp n k : Nat} (h : dp ≤ k ∧ k < dp + n) : cpI f g dp n k = f (k - dp) := if_pos h
theorem cpI_out {f g : Nat → Int} {dp n k : Nat} (h : ¬ (dp ≤ k ∧ k < dp + n)) : cpI f g dp n k = g k := if_neg h
theorem fits_byte {z : Int} (h : -128 ≤ z ∧ z ≤ 127) : fits .byte (.int (iI z)) = true := by
  show (decide (-128 ≤ iI z) && decide (iI z ≤ 127)) = true
  have h1 : -128 ≤ iI z := (iI_le (a := -128) ⟨by omega, by omega⟩ ⟨by omega, by omega⟩).mpr h.1
  have h2 : iI z ≤ 127 := (iI_le (b := 127) ⟨by omega, by omega⟩ ⟨by omega, by omega⟩).mpr h.2
  rw [decide_eq_true h1, decide_eq_true h2]
  rfl
section
variable {G : GT} {X : CT} {cells slots pc N : Nat} {lv : List (Nat × Value)} {st : List Value} {h : HT} {own : String} {cc : ByteArray} {R0 : Room}
theorem r_i2c {x z : Int} (C : Cx G X own cc) (d : decode cc pc = .ok (.i2c, 1)) (hz : ((iI x).toUInt32 % 65536).toInt32 = iI z) (k : AtH G X cells slots (pc + 1) lv (vI z :: st) N h) : AtH G X cells slots pc lv (vI x :: st) N h := by
  obtain ⟨p, l, e, R, s, m, args, below, meth, c, Q, nL⟩ := X
  intro H locs ls hW hS hls
  exact lv_i2c C.1 C.2.1 d hz (k H locs ls hW hS hls)
theorem r_dupx1 {v w : Value} (C : Cx G X own cc) (d : decode cc pc = .ok (.dup_x1, 1)) (hv : v.category = 1) (hw : w.category = 1) (k : AtH G X cells slots (pc + 1) lv (v :: w :: v :: st) N h) : AtH G X cells slots pc lv (v :: w :: st) N h := by
  obtain ⟨p, l, e, R, s, m, args, below, meth, c, Q, nL⟩ := X
  intro H locs ls hW hS hls
  exact lv_dup_x1 C.1 C.2.1 d hv hw (k H locs ls hW hS hls)
theorem r_null (C : Cx G X own cc) (d : decode cc pc = .ok (.aconst_null, 1)) (k : AtH G X cells slots (pc + 1) lv (.null :: st) N h) : AtH G X cells slots pc lv st N h := by
  obtain ⟨p, l, e, R, s, m, args, below, meth, c, Q, nL⟩ := X
  intro H locs ls hW hS hls
  exact lv_null C.1 C.2.1 d (k H locs ls hW hS hls)
theorem r_ifnonnull {a tgt : Nat} {off : Int} (C : Cx G X own cc) (d : decode cc pc = .ok (.ifnonnull off, 3)) (ht : (pc : Int) + off = (tgt : Int)) (k : AtH G X cells slots tgt lv st N h) : AtH G X cells slots pc lv (.ref a :: st) N h := by
  obtain ⟨p, l, e, R, s, m, args, below, meth, c, Q, nL⟩ := X
  intro H locs ls hW hS hls
  exact lv_ifnonnull C.1 C.2.1 d ht (k H locs ls hW hS hls)
theorem r_getsO {idx : Nat} (C : Cx G X own cc) (d : decode cc pc = .ok (.getstatic idx, 3)) (hl : .fieldLink own idx "java/lang/Integer" "DigitOnes" "[B" ∈ LW) (k : AtH G X cells slots (pc + 3) lv (.ref (gDo G) :: st) N h) : AtH G X cells slots pc lv st N h := by
  obtain ⟨p, l, e, R, s, m, args, below, meth, c, Q, nL⟩ := X
  intro H locs ls hW hS hls
  exact va_gets C.1 C.2.1 C.2.2.2.2.2.2.1.2.2.1.1 hS C.2.2.2.1 (C.2.2.2.2.1 _ hl) (fun _ h => h) d (k H locs ls hW hS hls)
theorem r_getsT {idx : Nat} (C : Cx G X own cc) (d : decode cc pc = .ok (.getstatic idx, 3)) (hl : .fieldLink own idx "java/lang/Integer" "DigitTens" "[B" ∈ LW) (k : AtH G X cells slots (pc + 3) lv (.ref (gDt G) :: st) N h) : AtH G X cells slots pc lv st N h := by
  obtain ⟨p, l, e, R, s, m, args, below, meth, c, Q, nL⟩ := X
  intro H locs ls hW hS hls
  exact va_gets C.1 C.2.1 C.2.2.2.2.2.2.1.2.2.1.2.1 hS C.2.2.2.1 (C.2.2.2.2.1 _ hl) (fun _ h => h) d (k H locs ls hW hS hls)
theorem r_digO {j : Nat} (C : Cx G X own cc) (d : decode cc pc = .ok (.baload, 1)) (hj : j < 100) (k : AtH G X cells slots (pc + 1) lv (vI ((48 + j % 10 : Nat) : Int) :: st) N h) : AtH G X cells slots pc lv (vI (j : Int) :: .ref (gDo G) :: st) N h := by
  obtain ⟨p, l, e, R, s, m, args, below, meth, c, Q, nL⟩ := X
  intro H locs ls hW hS hls
  refine va_tb C.1 C.2.1 C.2.2.2.2.2.2.1.2.2.1.2.2.1 hS (i := iI (j : Int)) (iI_in (by omega) (by omega) (by omega)) (v := vI ((48 + j % 10 : Nat) : Int)) ?_ d (k H locs ls hW hS hls)
  rw [iI_clamp (by omega) ⟨by omega, by omega⟩, Int.toNat_natCast]
theorem r_digT {j : Nat} (C : Cx G X own cc) (d : decode cc pc = .ok (.baload, 1)) (hj : j < 100) (k : AtH G X cells slots (pc + 1) lv (vI ((48 + j / 10 : Nat) : Int) :: st) N h) : AtH G X cells slots pc lv (vI (j : Int) :: .ref (gDt G) :: st) N h := by
  obtain ⟨p, l, e, R, s, m, args, below, meth, c, Q, nL⟩ := X
  intro H locs ls hW hS hls
  refine va_tb C.1 C.2.1 C.2.2.2.2.2.2.1.2.2.1.2.2.2 hS (i := iI (j : Int)) (iI_in (by omega) (by omega) (by omega)) (v := vI ((48 + j / 10 : Nat) : Int)) ?_ d (k H locs ls hW hS hls)
  rw [iI_clamp (by omega) ⟨by omega, by omega⟩, Int.toNat_natCast]
theorem r_aret {d0 mc0 ms0 a : Nat} {rt : FieldType} {post : Option Value → Nat → HT → Prop} {postX : String → Nat → HT → Prop} (C : Cx G X own cc) (M : Mx G X d0 mc0 ms0 (some rt) post postX) (d : decode cc pc = .ok (.areturn, 1)) (hrt : (∃ n, rt = .object n) ∨ ∃ t, rt = .array t) (hmc : cells ≤ mc0) (hms : slots ≤ ms0) (hp : post (some (.ref a)) N h) : AtH G X cells slots pc lv [.ref a] N h := by
  obtain ⟨p, l, e, R, s, m, args, below, meth, c, Q, nL⟩ := X
  intro H locs ls hW hS hls
  obtain ⟨hR, hQ, hr, -⟩ := M
  have hlocks : meth.locks = false := C.2.2.2.2.2.2.2.1
  subst hQ
  refine W.widen hmc hms (vx_ret ?_)
  exact W.aret C.1 C.2.1 hr hrt (Or.inr ⟨_, rfl⟩) (fun t ht hW9 => ⟨_, N, h, rfl, hp, by rw [ht]; exact hW, hS.F ht⟩) hS.2.2 d hlocks
theorem SrcB.world {k n : Nat} {f : Nat → Int} (C : Cx G X own cc) (hk : k < N) (he : h k = arI (gA G 2) n f) : ∀ (H : Heap) (locs : List Loc), Wd G N h H → va_S (gR G) (xS X).heap H locs → SrcB (xS X) H (ad G k) n f := by
  obtain ⟨p, l, e, R, s, m, args, below, meth, c, Q, nL⟩ := X
  intro H locs hW hS
  have h9 := hW.at hk
  rw [he] at h9
  refine ⟨_, h9, (C.2.2.2.2.2.1.2 2 _ rfl).1 n (fun j => .int (iI (f j))), fun z => (by cases z), ?_, fun j hj => ?_⟩
  · show n ≤ (arrV (gA G 2) n (fun i => .int (iI (f i)))).slots.size
    rw [arrV_size]
    exact Nat.le_refl _
  · exact arrV_read _ _ hj
theorem SrcB.const {i : Nat} (C : Cx G X own cc) (hi : i < 5) : ∀ (H : Heap) (locs : List Loc), Wd G N h H → va_S (gR G) (xS X).heap H locs → SrcB (xS X) H (gV G i) (leS.getD i 0) (fun j => scI i j) := by
  obtain ⟨p, l, e, R, s, m, args, below, meth, c, Q, nL⟩ := X
  intro H locs hW hS
  obtain ⟨cell, q1, q2, q3, q4, q5, q6, q7⟩ := (C.2.2.2.2.2.2.1.2.2.2.1.1 i hi).2.2.2
  refine ⟨cell, by rw [hS.2.1 _ (Array.getElem?_eq_some_iff.mp q1).1 q7]; exact q1, q2, q3, q4, fun j hj => ?_⟩
  rw [q6 j hj]
  show some (Value.int ((byS.getD i []).getD j 0)) = some (Value.int (iI (scI i j)))
  rw [(kb_all i hi j hj).1]
set_option maxHeartbeats 1000000 in
theorem r_copy {idx a0 a1 k1 nS n1 n dp : Nat} {f g : Nat → Int} (C : Cx G X own cc) (hR : xR X = R0) (d : decode cc pc = .ok (.invokestatic idx, 3)) (wl : .methodLink own idx arraycopyName ∈ LW) (hsrc : ∀ (H : Heap) (locs : List Loc), Wd G N h H → va_S (gR G) (xS X).heap H locs → SrcB (xS X) H a0 nS f) (ha : ad G k1 = a1) (hk : k1 < N) (he : h k1 = arI (gA G 2) n1 g) (hn : n ≤ nS) (hd : dp + n ≤ n1) (hsm : n1 ≤ 100000 ∧ nS ≤ 100000) (hfit : ∀ j, j < n → -128 ≤ f j ∧ f j ≤ 127) (hf : 1 ≤ R0.frames) (hlo : 80 ≤ R0.locals) (hcat : (st.map fun v => v.category).sum ≤ 8)
    (kk : AtH G X cells slots (pc + 3) lv st N (upH h k1 (arI (gA G 2) n1 (cpI f g dp n)))) : AtH G X cells slots pc lv (vI (n : Int) :: vI (dp : Int) :: .ref a1 :: vI 0 :: .ref a0 :: st) N h := by
  obtain ⟨p, l, e, R, s, m, args, below, meth, c, Q, nL⟩ := X
  intro H locs ls hW hS hls
  subst hR
  subst ha
  obtain ⟨cs, c1, c2, c3, c4, c5⟩ := hsrc H locs hW hS
  have hc1 := hW.at hk
  rw [he] at hc1
  replace hc1 : H[ad G k1]? = some (vp_cell (gA G 2) (n1, .inl (fun i => iI (g i)))) := hc1
  have z0 : (iI 0).toNatClampNeg = 0 := rfl
  have zn : (iI (n : Int)).toNatClampNeg = n := by rw [iI_clamp (by omega) ⟨by omega, by omega⟩, Int.toNat_natCast]
  have zd : (iI (dp : Int)).toNatClampNeg = dp := by rw [iI_clamp (by omega) ⟨by omega, by omega⟩, Int.toNat_natCast]
  have neg : ∀ q : Nat, q ≤ 100000 → ¬ iI (q : Int) < 0 := fun q hq z => by
    rw [← iI_zero, iI_lt ⟨by omega, by omega⟩ ⟨by omega, by omega⟩] at z
    omega
  intro T hT X
  obtain ⟨hs6, k0, hk0, cm0, hkk0⟩ := c2
  obtain ⟨-, k9, hk9, cm9, hkk9⟩ := (C.2.2.2.2.2.1.2 2 _ rfl).1 n1 (fun j => .int (iI (g j)))
  obtain ⟨vm', X', step⟩ := X.arraycopy C.1 C.2.2.2.1 (C.2.2.2.2.1 _ wl) (C.2.2.2.2.1 _ wac_n) (C.2.2.2.2.1 _ wac_s) (C.2.2.2.2.1 _ wac_i) (src := a0) (dst := ad G k1) (cs := cs) (cd := vp_cell (gA G 2) (n1, .inl (fun i => iI (g i)))) (srcPos := iI 0) (destPos := iI (dp : Int)) (n := iI (n : Int)) (by rw [hT]; exact c1) (by rw [hT]; exact hc1)
    hs6 (fun _ h => by cases h) c3 (fun h => by cases h) hk0 hk9 hkk0 hkk9 (by simp [refKind]) (by decide) (neg dp (by omega)) (neg n (by omega))
    (by rw [iI_toInt ⟨by omega, by omega⟩, iI_toInt ⟨by omega, by omega⟩]; omega)
    (by rw [iI_toInt ⟨by omega, by omega⟩, iI_toInt ⟨by omega, by omega⟩]; show ¬ _ > ((arrV (gA G 2) n1 (fun j => .int (iI (g j)))).slots.size : Int); rw [arrV_size]; omega)
    (fun vm₁ _ i hi => by
      rw [zn] at hi
      have e : cs.slots.getD ((iI 0).toNatClampNeg + i) .null = .int (iI (f i)) := by
        rw [z0, Nat.zero_add, Array.getD_eq_getD_getElem?, c5 i (by omega)]
        rfl
      refine ⟨?_, ?_⟩
      · rw [e]
        exact fits_byte (hfit i hi)
      · rw [e]
        exact trivial)
    (g := F0 m pc ls (vI (n : Int) :: vI (dp : Int) :: .ref (ad G k1) :: vI 0 :: .ref a0 :: st)) rfl (by rw [C.2.2.1]; exact hls.1) (rest := st) rfl (by rw [C.2.1]; exact d) hf (by
      have hz : nativeFrameWords "java/lang/System" "arraycopy" 5 ≤ 20 := by decide +kernel
      show 2 * 0 + _ + _ ≤ _
      have : 80 ≤ R.locals := hlo
      omega)
  have e1 : copied cs (vp_cell (gA G 2) (n1, .inl (fun i => iI (g i)))) (iI 0) (iI (dp : Int)) (iI (n : Int)) = vp_cell (gA G 2) (n1, .inl (fun i => iI (cpI f g dp n i))) := by
    have e2 := va_copiedX (fun z : Int => Value.int (iI z)) cs (gA G 2) (n0 := nS) (n1 := n1) (sp := 0) (dp := dp) (n := n) f g c5 (by omega)
    unfold copied
    rw [z0, zd, zn]
    refine Eq.trans e2 ?_
    rw [vp_cell_i]
    congr 1
    funext i
    unfold va_cpy cpI
    rw [Nat.zero_add]
  rw [e1] at X' step
  have hl : ad G k1 < H.size := (Array.getElem?_eq_some_iff.mp hc1).1
  generalize hce : vp_cell (gA G 2) (n1, .inl (fun i => iI (cpI f g dp n i))) = ce at X' step
  have hheap : ((T.setVm vm').setCell (ad G k1) ce).heap = H.setIfInBounds (ad G k1) ce := by rw [← hT]; rfl
  have oq : ∀ q : Nat, q ≠ ad G k1 → (H.setIfInBounds (ad G k1) ce)[q]? = H[q]? := fun q hq => by simp [Array.getElem?_setIfInBounds, Ne.symm hq]
  have h9 : Wd G N (upH h k1 (arI (gA G 2) n1 (cpI f g dp n))) (H.setIfInBounds (ad G k1) ce) := hW.put hk (by simp) (by
    show (H.setIfInBounds (ad G k1) ce)[ad G k1]? = some (vp_cell _ _)
    rw [← hce]
    simp [Array.getElem?_setIfInBounds, hl]) oq
  obtain ⟨t, a1, b1⟩ := kk _ _ ls h9 ⟨by simp; exact hS.1, fun q g1 g2 => by
      rw [oq q (fun e => g2 (by rw [e]; exact gR_ad hW.1.1.1))]
      exact hS.2.1 q g1 g2, fun q hq => by
      rcases List.mem_append.mp hq with h | h
      · exact hS.2.2 q h
      · obtain ⟨z, -, hz⟩ := List.mem_map.mp h
        rw [← hz]
        exact gR_ad hW.1.1.1⟩ hls _ hheap X'
  exact ⟨t, step t a1, b1⟩
set_option maxHeartbeats 1000000 in
theorem r_clone {idx a0 k n : Nat} {f : Nat → Int} (hZ : gZ G) (C : Cx G X own cc) (hR : xR X = R0) (d : decode cc pc = .ok (.invokevirtual idx, 3)) (wl : .methodLink own idx ⟨"[B", "clone", "()Ljava/lang/Object;"⟩ ∈ LW) (ha : ad G k = a0) (hk : k < N) (he : h k = arI (gA G 2) n f) (hfit : ∀ j, j < n → -128 ≤ f j ∧ f j ≤ 127) (hf : 1 ≤ R0.frames) (hlo : 80 ≤ R0.locals) (hcat : (st.map fun v => v.category).sum ≤ 8) (hmc : cells + 1 ≤ R0.cells) (hms : slots + n ≤ R0.slots)
    (kk : AtH G X (cells + 1) (slots + n) (pc + 3) lv (.ref (gB G + N) :: st) (N + 1) (upH h N (arI (gA G 2) n f))) : AtH G X cells slots pc lv (.ref a0 :: st) N h := by
  obtain ⟨p, l, e, R, s, m, args, below, meth, c, Q, nL⟩ := X
  intro H locs ls hW hS hls
  subst hR
  subst ha
  have hc1 := hW.at hk
  rw [he] at hc1
  obtain ⟨x, hx⟩ : ∃ x : vp_A, x = (n, .inl (fun i => iI (f i))) := ⟨_, rfl⟩
  replace hc1 : H[ad G k]? = some (vp_cell (gA G 2) x) := by rw [hx]; exact hc1
  have hsz : (vp_cell (gA G 2) x).slots.size = n := by rw [hx]; exact arrV_size _ _ _
  have hvm0 : (vp_cell (gA G 2) x).vm = .none := by rw [hx]; rfl
  have hcl0 : (vp_cell (gA G 2) x).cls = gA G 2 := by rw [hx]; rfl
  have hcellE : ({ cls := (vp_cell (gA G 2) x).cls, slots := (vp_cell (gA G 2) x).slots } : Cell) = vp_cell (gA G 2) x := by rw [hx]; rfl
  have hK := C.2.2.2.2.2.1
  have hnm : s.vm.findClass "[B" = some (gA G 2) := (hK.2 2 _ rfl).2
  have hcl := C.2.2.2.2.2.2.1.2.2.2.2.2.2.2.2.2
  obtain ⟨c0, t0', f1, f2, f3⟩ := Cond.castable_spec (va_Nw.use (A := args) rfl hcl)
  cases hnm.symm.trans f1
  have hs0 : H.size = gB G + N := (hW.2.1 hZ.1).trans hZ.ad
  intro T hT X
  have hcellT : T.heap[ad G k]? = some (vp_cell (gA G 2) x) := by rw [hT]; exact hc1
  obtain ⟨-, kA, hkA, comp, hkind⟩ := State.isArrayOf_alike X.warmed.alike ((hK.2 2 _ rfl).1 0 (fun _ => .null))
  obtain ⟨-, kS, hkS, compS, hkindS⟩ := (hK.2 2 _ rfl).1 0 (fun _ => .null)
  obtain ⟨vm', X', stp⟩ := X.cloneArray C.1 C.2.2.2.1 (C.2.2.2.2.1 _ wl) (C.2.2.2.2.1 _ wcl_same) (C.2.2.2.2.1 _ wcl_n) (C.2.2.2.2.1 _ wcl_i) (C.2.2.2.2.1 _ wcl_s) (a := ad G k) (cell := vp_cell (gA G 2) x) hcellT (fun k h => by rw [hvm0] at h; cases h) (by rw [hvm0]; exact fun h => by cases h) (by rw [hcl0]; exact hnm) f2 (by rw [hcl0]; exact f3)
    (fun i v hv => by
      rw [hcl0]
      have hk' : T.vm.classes[gA G 2]? = some kA := hkA
      have hfi : fits .byte v = true := by
        rw [hx] at hv
        have hi : i < n := by
          have := (Array.getElem?_eq_some_iff.mp hv).1
          rwa [show (vp_cell (gA G 2) (n, .inl (fun i => iI (f i)))).slots.size = n from arrV_size _ _ _] at this
        have e9 : v = .int (iI (f i)) := by
          have h8 : (arrV (gA G 2) n (fun i => .int (iI (f i)))).slots[i]? = some v := hv
          rw [arrV_read _ _ hi] at h8
          exact (Option.some.inj h8).symm
        rw [e9]
        exact fits_byte (hfit i hi)
      simpa [State.fitsSlot, State.slotType?, hk', hkind] using hfi)
    (g := F0 m pc ls (.ref (ad G k) :: st)) rfl (by rw [C.2.2.1]; exact hls.1) rfl (by rw [C.2.1]; exact d) hf (by
      show 2 * 0 + _ + 14 ≤ _
      have : 80 ≤ R.locals := hlo
      omega) hmc (by rw [hsz]; exact hms) (hloader := by rw [hcl0]; exact Vm.clonesLoader_of_array hkS hkindS)
  rw [hcellE, hsz] at X'
  generalize hH1 : H.push (vp_cell (gA G 2) x) = H1
  have z1 : H1.size = H.size + 1 := by rw [← hH1, Array.size_push]
  have e1 : H1[H.size]? = some (vp_cell (gA G 2) x) := by rw [← hH1, Array.getElem?_push_size]
  have o1 : ∀ q : Nat, q < H.size → H1[q]? = H[q]? := fun q hq => by rw [← hH1, Array.getElem?_push, if_neg (Nat.ne_of_lt hq)]
  have h9 : Wd G (N + 1) (upH h N (arI (gA G 2) n f)) H1 := hW.push hZ.1 (Or.inl hZ.2) z1 o1 (by
    show H1[ad G N]? = some (vp_cell _ _)
    rw [hZ.ad, ← hs0, e1, hx])
  obtain ⟨t, b1, b2⟩ := kk H1 locs ls h9 (hS_push hS z1 o1) hls ((T.setVm vm').pushCell (vp_cell (gA G 2) x)) (by rw [← hH1, ← hT]; rfl) X'
  refine ⟨t, stp t ?_, b2⟩
  rw [hcellE, hT, hs0]
  exact b1
theorem r_castB {idx a0 k n : Nat} {f : Nat → Int} (C : Cx G X own cc) (d : decode cc pc = .ok (.checkcast idx, 3)) (hl : .classLink own idx "[B" ∈ LW) (ha : ad G k = a0) (hk : k < N) (he : h k = arI (gA G 2) n f) (kk : AtH G X cells slots (pc + 3) lv (.ref a0 :: st) N h) : AtH G X cells slots pc lv (.ref a0 :: st) N h := by
  obtain ⟨p, l, e, R, s, m, args, below, meth, c, Q, nL⟩ := X
  intro H locs ls hW hS hls
  exact va_castA (D := gD G) C.1 C.2.1 C.2.2.2.1 (C.2.2.2.2.1 _ hl) hW.2.2 k (by rw [wsO_geta hk ha, he]; rfl) (C.2.2.2.2.2.1.2 2 _ rfl).2 d (kk H locs ls hW hS hls)
/-- what a receiver is -/
theorem rcv_of {k ci : Nat} {fs : List Value} {y : String} {H : Heap} (C : Cx G X own cc) (hW : Wd G N h H) (hk : k < N) (he : h k = .inr (ci, fs)) (hci : (cls7[ci]?).map (fun q => q.1) = some y) : ∃ cell : Cell, H[ad G k]? = some cell ∧ cell.vm.isStatics = false ∧ (xS X).vm.findClass y = some cell.cls := by
  obtain ⟨p, l, e, R, s, m, args, below, meth, c, Q, nL⟩ := X
  have hwat := hW.at hk
  rw [he] at hwat
  obtain ⟨r9, hr9, cell9, q1, q2, q3, -⟩ := hwat
  refine ⟨cell9, q1, by rw [q3]; rfl, ?_⟩
  have h1 := (C.2.2.2.2.2.1.1 ci r9 hr9).2.1
  rw [hr9] at hci
  have h2 : r9.1 = y := Option.some.inj hci
  rw [← h2, q2]
  exact h1
theorem run_onX {p : Program} {l : Launch} {e : Env} {R : Room} {s : State} {m : MethodId} {args a : Array Value} {below : List Frame} {meth : Method} {c : Code} {Q : State → Prop} {H : Heap} {locs : List Loc} {ls : Array Slot} {mc ms : Nat} {st0 rest : List Value} {post : Option Value → Nat → HT → Prop} (hrun : vx_Run p l e R s m args below meth c H locs cells slots mc ms (F0 m pc ls st0) rest (QH G post a) (XH G noH) (gR G)) (hS : va_S (gR G) s.heap H locs)
    (kk : ∀ (v : Option Value) (N' : Nat) (h' : HT) (H1 : Heap) (locs1 : List Loc), post v N' h' → Wd G N' h' H1 → va_S (gR G) s.heap H1 locs1 → W p l e R s m args below meth c H1 locs1 (cells + mc) (slots + ms) Q (F0 m (pc + 3) ls (v.toList ++ rest))) : W p l e R s m args below meth c H locs cells slots Q (F0 m pc ls st0) := run_on hrun hS (fun _ _ _ q => q) kk
/-- an inherited method is called -/
theorem r_callU {idx kk0 ci a0 nLy n dy mc ms : Nat} {K : String} {fs : List Value} {x y : MethodName} {ccy : ByteArray} {ret : Option FieldType} {As rest st0 : List Value} {post : Option Value → Nat → HT → Prop}
    (C : Cx G X own cc) (hR : xR X = R0) (d : decode cc pc = .ok (.invokevirtual idx, 3)) (wl : .methodLink own idx x ∈ LW) (wy : YU K x y ccy nLy ret n) (hE : EvH G (xl X) y ccy nLy ret dy mc ms (.ref a0 :: As) N h post noH) (ha : ad G kk0 = a0) (hk : kk0 < N) (he : h kk0 = .inr (ci, fs)) (hci : (cls7[ci]?).map (fun q => q.1) = some K) (hst : st0 = As.reverse ++ .ref a0 :: rest) (hn : As.length = n)
    (hcat : (rest.map fun v => v.category).sum ≤ 8) (hd : dy + 1 ≤ R0.frames) (hlo : 8 + (nLy + 11) + 40 * dy ≤ R0.locals) (hmc : cells + mc ≤ R0.cells) (hms : slots + ms ≤ R0.slots)
    (kk : ∀ (v : Option Value) (N' : Nat) (h' : HT), post v N' h' → AtH G X (cells + mc) (slots + ms) (pc + 3) lv (v.toList ++ rest) N' h') : AtH G X cells slots pc lv st0 N h := by
  have hrec := fun H hW => rcv_of (H := H) C hW hk he hci
  obtain ⟨p, l, e, R, s, m, args, below, meth, c, Q, nL⟩ := X
  intro H locs ls hW hS hls
  subst hR
  subst ha
  obtain ⟨hexec, hb, hml, hown, hts, hK, hF, hlocks, -, hbs⟩ := C
  obtain ⟨⟨w1, w2, b0, m0, r0, w3⟩, w4, w5, w6, w7, w8, w9⟩ := wy
  have hcw : va_CU R s args own K x.cls idx x y ccy nLy ret (.code y ccy nLy ret :: LW) (rmD dy mc ms) mc ms n := by
    refine ⟨⟨rfl, rfl, hd, hlo, ?_, List.mem_cons_self⟩, hts _ w7, hts _ w6, w8, fun sig h => ?_, hts _ wl, hts _ w1, va_Decl.of (hts _ w2) (hts _ w3), hts _ w4, hts _ w5⟩
    · intro w hw a' U hW
      have hm : w ∈ LW := by
        rcases List.mem_cons.mp hw with e | e
        · rw [e]; exact w7
        · exact e
      exact word_at hW (LW_good hm) (hts w hm)
    · rw [h] at w9
      exact (Option.some.inj w9).symm
  have hpre : PreV s H K (ad G kk0) (PH G (.ref (ad G kk0) :: As) N h) As := by
    refine ⟨PH_blind, hrec H hW, fun U hU hWm => ⟨rfl, by rw [hU]; exact hW, va_K.moved hWm.alike hK, ?_⟩⟩
    rw [hU]
    exact (hF.kept (fun a h1 h2 => hS.2.1 a h1 h2)).moved hWm
  have hrun := vx_runU (H := H) (locs := locs) (cells := cells) (slots := slots) (p := p) (e := e) (below := below) (meth := meth) (rest := rest) (As := As) (b := ad G kk0) (g := F0 m pc ls st0) ⟨hexec, hb, hml, hown, hts⟩ hE hcw hpre rfl hn hls.1 hst (lv_room hcat) d ⟨hmc, hms⟩
  exact run_onX hrun hS (fun v N' h' H1 locs1 hp hWd hS1 => kk v N' h' hp H1 locs1 ls hWd hS1 hls)
/-- a method of the class above is called -/
theorem r_callSU {idx kk0 ci a0 nLy n dy mc ms : Nat} {K : String} {T : u_T} {nT : Nat} {fs : List Value} {y : MethodName} {ccy : ByteArray} {ret : Option FieldType} {As rest st0 : List Value} {post : Option Value → Nat → HT → Prop}
    (C : Cx G X own cc) (hR : xR X = R0) (d : decode cc pc = .ok (.invokespecial idx, 3)) (wl : .methodLink own idx y ∈ LW) (wy : YW own y ccy nLy ret n) (hE : EvH G (xl X) y ccy nLy ret dy mc ms (.ref a0 :: As) N h post noH) (ha : ad G kk0 = a0) (hk : kk0 < N) (he : h kk0 = .inr (ci, fs)) (hci : cls7[ci]? = some (K, T, nT)) (hst : st0 = As.reverse ++ .ref a0 :: rest) (hn : As.length = n)
    (hcat : (rest.map fun v => v.category).sum ≤ 8) (hd : dy + 1 ≤ R0.frames) (hlo : 8 + (nLy + 11) + 40 * dy ≤ R0.locals) (hmc : cells + mc ≤ R0.cells) (hms : slots + ms ≤ R0.slots)
    (kk : ∀ (v : Option Value) (N' : Nat) (h' : HT), post v N' h' → AtH G X (cells + mc) (slots + ms) (pc + 3) lv (v.toList ++ rest) N' h') : AtH G X cells slots pc lv st0 N h := by
  have hrec := fun H hW => rcv_of (H := H) C hW hk he (by rw [hci]; rfl)
  obtain ⟨p, l, e, R, s, m, args, below, meth, c, Q, nL⟩ := X
  intro H locs ls hW hS hls
  subst hR
  subst ha
  obtain ⟨hexec, hb, hml, hown, hts, hK, hF, hlocks, -, hbs⟩ := C
  obtain ⟨w1, w2, w5, w6, w7, w8, w9⟩ := wy
  have hcw : va_CS R s args own idx y ccy nLy ret (.code y ccy nLy ret :: LW) (rmD dy mc ms) mc ms n := by
    refine ⟨⟨rfl, rfl, hd, hlo, ?_, List.mem_cons_self⟩, hts _ wl, hts _ w1, hts _ w2, hts _ w5, hts _ w6, hts _ w7, w8, fun sig h => ?_⟩
    · intro w hw a' U hW
      have hm : w ∈ LW := by
        rcases List.mem_cons.mp hw with e | e
        · rw [e]; exact w7
        · exact e
      exact word_at hW (LW_good hm) (hts w hm)
    · rw [h] at w9
      exact (Option.some.inj w9).symm
  have hat : ClassAt s K ((gD G).1 ci) := (hK.1 ci _ hci).2
  have hpre : PreV s H K (ad G kk0) (PH G (.ref (ad G kk0) :: As) N h) As := by
    refine ⟨PH_blind, hrec H hW, fun U hU hWm => ⟨rfl, by rw [hU]; exact hW, va_K.moved hWm.alike hK, ?_⟩⟩
    rw [hU]
    exact (hF.kept (fun a h1 h2 => hS.2.1 a h1 h2)).moved hWm
  have hrun := vx_runSU (H := H) (locs := locs) (cells := cells) (slots := slots) (p := p) (e := e) (below := below) (meth := meth) (rest := rest) (As := As) (b := ad G kk0) (g := F0 m pc ls st0) hat ⟨hexec, hb, hml, hown, hts⟩ hE hcw hpre rfl hn hls.1 hst (lv_room hcat) d ⟨hmc, hms⟩
  exact run_onX hrun hS (fun v N' h' H1 locs1 hp hWd hS1 => kk v N' h' hp H1 locs1 ls hWd hS1 hls)
/-- Math.max and min, whatever the heap -/
theorem r_mmax {idx : Nat} {x y : Int} {rest : List Value} (C : Cx G X own cc) (hR : xR X = R0) (d : decode cc pc = .ok (.invokestatic idx, 3)) (wl : .methodLink own idx ⟨"java/lang/Math", "max", "(II)I"⟩ ∈ LW) (hx : rg x) (hy : rg y) (hf : 1 ≤ R0.frames) (hlo : 80 ≤ R0.locals) (hcat : (rest.map fun v => v.category).sum ≤ 8) (hc : cells ≤ R0.cells) (hs : slots ≤ R0.slots)
    (kk : AtH G X cells slots (pc + 3) lv (vI (max x y) :: rest) N h) : AtH G X cells slots pc lv (vI y :: vI x :: rest) N h := by
  obtain ⟨p, l, e, R, s, m, args, below, meth, c, Q, nL⟩ := X
  intro H locs ls hW hS hls
  subst hR
  have hlo9 : 80 ≤ R.locals := hlo
  refine va_mmax C.1 C.2.1 (by rw [hls.1]; exact C.2.2.1) C.2.2.2.1 (C.2.2.2.2.1 _ wl) (C.2.2.2.2.1 _ wJ9_max_7cf53.1) (C.2.2.2.2.1 _ wJ9_max_7cf53.2.1) (C.2.2.2.2.1 _ wJ9_max_7cf53.2.2.1) hf (by omega) hc hs d ?_
  have e : (Value.int (if iI x < iI y then iI y else iI x)) = vI (max x y) := by
    by_cases q : x < y
    · rw [if_pos ((iI_lt hx hy).mpr q), Int.max_eq_right (by omega)]
    · rw [if_neg (fun z => q ((iI_lt hx hy).mp z)), Int.max_eq_left (by omega)]
  rw [e]
  exact kk H locs ls hW hS hls
theorem r_mmin {idx : Nat} {x y : Int} {rest : List Value} (C : Cx G X own cc) (hR : xR X = R0) (d : decode cc pc = .ok (.invokestatic idx, 3)) (wl : .methodLink own idx ⟨"java/lang/Math", "min", "(II)I"⟩ ∈ LW) (hx : rg x) (hy : rg y) (hf : 1 ≤ R0.frames) (hlo : 80 ≤ R0.locals) (hcat : (rest.map fun v => v.category).sum ≤ 8) (hc : cells ≤ R0.cells) (hs : slots ≤ R0.slots)
    (kk : AtH G X cells slots (pc + 3) lv (vI (min x y) :: rest) N h) : AtH G X cells slots pc lv (vI y :: vI x :: rest) N h := by
  obtain ⟨p, l, e, R, s, m, args, below, meth, c, Q, nL⟩ := X
  intro H locs ls hW hS hls
  subst hR
  have hlo9 : 80 ≤ R.locals := hlo
  refine va_mmin C.1 C.2.1 (by rw [hls.1]; exact C.2.2.1) C.2.2.2.1 (C.2.2.2.2.1 _ wl) (C.2.2.2.2.1 _ wJ9_min_7cf53.1) (C.2.2.2.2.1 _ wJ9_min_7cf53.2.1) (C.2.2.2.2.1 _ wJ9_min_7cf53.2.2.1) hf (by omega) hc hs d ?_
  have e : (Value.int (if iI y < iI x then iI y else iI x)) = vI (min x y) := by
    by_cases q : y < x
    · rw [if_pos ((iI_lt hy hx).mpr q), Int.min_eq_right (by omega)]
    · rw [if_neg (fun z => q ((iI_lt hy hx).mp z)), Int.min_eq_left (by omega)]
  rw [e]
  exact kk H locs ls hW hS hls
end
