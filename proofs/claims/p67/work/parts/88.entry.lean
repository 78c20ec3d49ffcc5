/-! what the start gives (printed by g88.py) -/
/-- the constants' terms: the class's three, the law's two -/
def tS (i : Nat) : Term := if i < 3 then .string "ChannelSchedule" (ixX.getD i 0) else .string "ChannelScheduleLaw" (ixL.getD (i - 3) 0)
def tSv (i : Nat) : Term := .field (tS i) "java/lang/String" "value" "[B"
/-- the conditions of the start that are used, in their order -/
def nS (i : Nat) : List Cond := [.exactly (tS i) "java/lang/String", .eq (.field (tS i) "java/lang/String" "coder" "B") (.int 0), .arrayOf (tSv i) .byte, .eq (.length (tSv i)) (.int (Int32.ofNat (leS.getD i 0)))] ++ ((List.range (leS.getD i 0)).map (fun j => .eq (.elem (tSv i) (.int (Int32.ofNat j))) (.int ((byS.getD i []).getD j 0))) ++ (List.range i).map (fun j => .not (.eq (tS j) (tS i))))
abbrev tD (n : String) : Term := .static "java/lang/Integer" n "[B"
def nD (n : String) (f : Nat → Nat) : List Cond := [.arrayOf (tD n) .byte, .eq (.length (tD n)) (.int (Int32.ofNat 100))] ++ (List.range 100).map (fun j => .eq (.elem (tD n) (.int (Int32.ofNat j))) (.int (iI ((f j : Nat) : Int))))
def nH : List Cond := [.eq (.static "java/lang/String" "COMPACT_STRINGS" "Z") (.int 1), .isRef (.static "jdk/internal/util/Preconditions" "SIOOBE_FORMATTER" "Ljava/util/function/BiFunction;")]
def dO (j : Nat) : Nat := 48 + j % 10
def dT (j : Nat) : Nat := 48 + j / 10
def nA : List Cond := nH ++ (nD "DigitOnes" dO ++ (nD "DigitTens" dT ++ (List.range 5).flatMap nS))
set_option maxRecDepth 100000 in
theorem nA_sub : nA.isSublist (flatC (.and given_1 narrow_1)) = true := by decide +kernel
theorem nA_in {c : Cond} (h : c ∈ nA) : c ∈ flatC (.and given_1 narrow_1) := (List.isSublist_iff_sublist.mp nA_sub).subset h
theorem nS_in {i : Nat} (hi : i < 5) {c : Cond} (h : c ∈ nS i) : c ∈ nA := List.mem_append_right _ (List.mem_append_right _ (List.mem_append_right _ (List.mem_flatMap.mpr ⟨i, List.mem_range.mpr hi, h⟩)))
theorem nO_in {c : Cond} (h : c ∈ nD "DigitOnes" dO) : c ∈ nA := List.mem_append_right _ (List.mem_append_left _ h)
theorem nT_in {c : Cond} (h : c ∈ nD "DigitTens" dT) : c ∈ nA := List.mem_append_right _ (List.mem_append_right _ (List.mem_append_left _ h))
theorem nH_in {c : Cond} (h : c ∈ nH) : c ∈ nA := List.mem_append_left _ h
set_option maxRecDepth 100000 in
theorem sX_in : ∀ i : Nat, i < 3 → Cond.stringRef "ChannelSchedule" (ixX.getD i 0) (txS.getD (i) "") ∈ lw_tbl
  | 0, _ => List.mem_of_getElem? (i := 247) (by decide +kernel)
  | 1, _ => List.mem_of_getElem? (i := 323) (by decide +kernel)
  | 2, _ => List.mem_of_getElem? (i := 350) (by decide +kernel)
  | n + 3, h => absurd h (by omega)
set_option maxRecDepth 100000 in
theorem sL_in : ∀ i : Nat, i < 2 → Cond.stringRef "ChannelScheduleLaw" (ixL.getD i 0) (txS.getD (3 + i) "") ∈ lw_tbl
  | 0, _ => List.mem_of_getElem? (i := 834) (by decide +kernel)
  | 1, _ => List.mem_of_getElem? (i := 1009) (by decide +kernel)
  | n + 2, h => absurd h (by omega)
theorem st_str {s : State} {args : Array Value} {A : Nat → Prop} (hts : ∀ w ∈ lw_tbl, w.before args s = true) (hgv : (Cond.and given_1 narrow_1).before args s = true) (hA : ∀ a : Nat, a < s.heap.size → ¬ A a) : ∃ adK adV : Nat → Nat, vk_S 5 leS byS adK adV A s s.heap ∧ (∀ i : Nat, i < 3 → vk_R "ChannelSchedule" (ixX.getD i 0) (txS.getD i "") (adK i) s) ∧ ∀ i : Nat, i < 2 → vk_R "ChannelScheduleLaw" (ixL.getD i 0) (txS.getD (3 + i) "") (adK (3 + i)) s := by
  have hs : ∀ {c : Cond}, c ∈ nA → c.before args s = true := fun h => flat_of_before _ hgv _ (nA_in h)
  obtain ⟨adK, adV, h1, h2⟩ := vk_Sof (args := args) (s := s) (N := 5) (tm := tS) (len := leS) (byt := byS) (A := A) (by decide +kernel)
    (fun i hi => hs (nS_in hi (List.mem_append_left _ List.mem_cons_self))) (fun i hi => hs (nS_in hi (List.mem_append_left _ (List.mem_cons_of_mem _ List.mem_cons_self))))
    (fun i hi => hs (nS_in hi (List.mem_append_left _ (List.mem_cons_of_mem _ (List.mem_cons_of_mem _ List.mem_cons_self))))) (fun i hi => hs (nS_in hi (List.mem_append_left _ (List.mem_cons_of_mem _ (List.mem_cons_of_mem _ (List.mem_cons_of_mem _ List.mem_cons_self))))))
    (fun i hi j hj => hs (nS_in hi (List.mem_append_right _ (List.mem_append_left _ (List.mem_map.mpr ⟨j, List.mem_range.mpr hj, rfl⟩)))))
    (fun i j hi hj hij => by
      rcases Nat.lt_or_gt_of_ne hij with q | q
      · exact Or.inl (hs (nS_in hj (List.mem_append_right _ (List.mem_append_right _ (List.mem_map.mpr ⟨i, List.mem_range.mpr q, rfl⟩)))))
      · exact Or.inr (hs (nS_in hi (List.mem_append_right _ (List.mem_append_right _ (List.mem_map.mpr ⟨j, List.mem_range.mpr q, rfl⟩)))))) hA
  refine ⟨adK, adV, h1, fun i hi => vk_R.of (hts _ (sX_in i hi)) ?_, fun i hi => vk_R.of (hts _ (sL_in i hi)) ?_⟩
  · have h9 := h2 i (by omega)
    unfold tS at h9
    rwa [if_pos hi] at h9
  · have h9 := h2 (3 + i) (by omega)
    unfold tS at h9
    rwa [if_neg (by omega), Nat.add_sub_cancel_left] at h9
theorem st_dig {s : State} {args : Array Value} {A : Nat → Prop} {n : String} {f : Nat → Nat} (hgv : ∀ c ∈ nD n f, c.before args s = true) (hl : (Cond.laysStatic "java/lang/Integer" n "[B").before args s = true) (hini : (Cond.initialized "java/lang/Integer").before args s = true) (hA : ∀ a : Nat, a < s.heap.size → ¬ A a) : ∃ t : Nat, va_Z "java/lang/Integer" n "[B" (.ref t) A s s.heap ∧ va_T .byte t 100 (fun j => .int (iI ((f j : Nat) : Int))) A s s.heap := by
  obtain ⟨t, ht, hT⟩ := va_Tof (tm := tD n) (ty := .byte) (N := 100) (f := fun j => .int (iI ((f j : Nat) : Int))) (A := A) (by decide) (hgv _ (List.mem_append_left _ List.mem_cons_self)) (va_eqt (hgv _ (List.mem_append_left _ (List.mem_cons_of_mem _ List.mem_cons_self)))) (fun j hj => va_eqt (hgv _ (List.mem_append_right _ (List.mem_map.mpr ⟨j, List.mem_range.mpr hj, rfl⟩)))) hA
  exact ⟨t, va_Zof hl hini ht hA, hT⟩
/-- what stays at the start: of any world whose base is the heap's end -/
theorem st_SF {G : GT} {s : State} {args : Array Value} (hts : ∀ w ∈ lw_tbl, w.before args s = true) (hgv : (Cond.and given_1 narrow_1).before args s = true) (hA : ∀ a : Nat, a < s.heap.size → ¬ gR G a) (h1 : vk_S 5 leS byS (gK G) (gV G) (gR G) s s.heap) (h2 : ∀ i : Nat, i < 3 → vk_R "ChannelSchedule" (ixX.getD i 0) (txS.getD i "") (gK G i) s) (h3 : ∀ i : Nat, i < 2 → vk_R "ChannelScheduleLaw" (ixL.getD i 0) (txS.getD (3 + i) "") (gK G (3 + i)) s)
    (h4 : va_Z "java/lang/Integer" "DigitOnes" "[B" (.ref (gDo G)) (gR G) s s.heap ∧ va_Z "java/lang/Integer" "DigitTens" "[B" (.ref (gDt G)) (gR G) s s.heap ∧ va_T .byte (gDo G) 100 (fun j => .int (iI ((48 + j % 10 : Nat) : Int))) (gR G) s s.heap ∧ va_T .byte (gDt G) 100 (fun j => .int (iI ((48 + j / 10 : Nat) : Int))) (gR G) s s.heap) (h5 : va_X (gSa G) (gSl G) (gSx G) s s.heap ∧ ¬ gR G (gSa G) ∧ gSl G ≤ 260) : SF G s s.heap := by
  have hs : ∀ {c : Cond}, c ∈ nH → c.before args s = true := fun h => flat_of_before _ hgv _ (nA_in (nH_in h))
  exact ⟨va_Zof (hts _ (List.mem_of_getElem? (i := 257) (by decide +kernel))) (hts _ (List.mem_of_getElem? (i := 34) (by decide +kernel))) (va_eqi (hs List.mem_cons_self)) hA, va_Zqof (hts _ (List.mem_of_getElem? (i := 273) (by decide +kernel))) (hts _ (List.mem_of_getElem? (i := 36) (by decide +kernel))) (hs (List.mem_cons_of_mem _ List.mem_cons_self)) hA, h4, h1, h2, h3, h5, va_Nw.of rfl (hts _ (List.mem_of_getElem? (i := 767) (by decide +kernel))), ⟨va_AO.of (hts _ (List.mem_of_getElem? (i := 133) (by decide +kernel))), va_AO.of (hts _ (List.mem_of_getElem? (i := 246) (by decide +kernel)))⟩, va_Nw.of rfl (hts _ (List.mem_of_getElem? (i := 896) (by decide +kernel)))⟩
/-- the words of the four private members of the builder -/
theorem lwE_ok {s : State} {args : Array Value} (hts : ∀ w ∈ lw_tbl, w.before args s = true) : ∀ w ∈ lwE, w.before args s = true := by
  have hi : (Cond.instantiable "java/lang/StringBuilder" 4).before args s = true := hts _ (List.mem_of_getElem? (i := 833) (by decide +kernel))
  intro w hw
  unfold lwE at hw
  simp only [List.map_cons, List.map_nil, List.mem_cons, List.not_mem_nil, or_false] at hw
  rcases hw with e | e | e | e <;> subst e
  · exact sel_up hi (hts _ (List.mem_of_getElem? (i := 871) (by decide +kernel))) (hts _ (List.mem_of_getElem? (i := 872) (by decide +kernel))) (hts _ (List.mem_of_getElem? (i := 1106) (by decide +kernel)))
  · exact sel_up hi (hts _ (List.mem_of_getElem? (i := 875) (by decide +kernel))) (hts _ (List.mem_of_getElem? (i := 876) (by decide +kernel))) (hts _ (List.mem_of_getElem? (i := 1107) (by decide +kernel)))
  · exact sel_up hi (hts _ (List.mem_of_getElem? (i := 926) (by decide +kernel))) (hts _ (List.mem_of_getElem? (i := 927) (by decide +kernel))) (hts _ (List.mem_of_getElem? (i := 1108) (by decide +kernel)))
  · exact sel_up hi (hts _ (List.mem_of_getElem? (i := 930) (by decide +kernel))) (hts _ (List.mem_of_getElem? (i := 931) (by decide +kernel))) (hts _ (List.mem_of_getElem? (i := 1109) (by decide +kernel)))
theorem LW_ok {s : State} {args : Array Value} (hts : ∀ w ∈ lw_tbl, w.before args s = true) : ∀ w ∈ LW, w.before args s = true := fun w h => by
  rcases List.mem_append.mp (LW_tbl h) with q | q
  · exact hts w q
  · exact lwE_ok hts w q
theorem st_arr {s : State} {args : Array Value} {ty : FieldType} (h : (Cond.arrayClass ty).before args s = true) : ∃ cA : ClassId, ArrOfT s cA ty ∧ s.vm.findClass ("[" ++ ty.toString) = some cA := by
  obtain ⟨c, k, comp, h1, h2, h3⟩ := Cond.arrayClass_spec h
  exact ⟨c, fun n z => ⟨fun k h => (by cases h), k, h2, comp, h3⟩, h1⟩
theorem st_arO {s : State} {args : Array Value} {C : String} (h : (Cond.arrayOver (.object C)).before args s = true) : ∃ cA : ClassId, ArrOfT s cA (.object C) ∧ va_RA s cA (.object C) := by
  obtain ⟨comp, c, k, h1, h2, h3, h4, h5⟩ := Cond.arrayOver_spec h
  exact ⟨c, fun n z => ⟨fun k h => (by cases h), k, h3, comp, h4⟩, k, comp, h3, h4, h1, h5⟩
/-- the classes' numbers and slots, the array classes -/
theorem st_K {s : State} {args : Array Value} (hts : ∀ w ∈ lw_tbl, w.before args s = true) : ∃ (D : va_G) (A : Nat → ClassId), va_K D cls7 [(A 0, .int), (A 1, .boolean), (A 2, .byte), (A 3, .int), (A 4, .object R4), (A 5, .object R1)] s := by
  have hw : ∀ w ∈ LW, w.before args s = true := LW_ok hts
  obtain ⟨c0, i0, k0⟩ := u_known (C := R0) (T := T0) (N := 8) (n := 8) hw ws0_in (hw _ wn0)
  obtain ⟨c1, i1, k1⟩ := u_known (C := R1) (T := T1) (N := 15) (n := 15) hw ws1_in (hw _ wn1)
  obtain ⟨c2, i2, k2⟩ := u_known (C := R2) (T := T2) (N := 6) (n := 6) hw ws2_in (hw _ wn2)
  obtain ⟨c3, i3, k3⟩ := u_known (C := R3) (T := T3) (N := 5) (n := 5) hw ws3_in (hw _ wn3)
  obtain ⟨c4, i4, k4⟩ := u_known (C := R4) (T := T4) (N := 5) (n := 5) hw ws4_in (hw _ wn4)
  obtain ⟨c5, i5, k5⟩ := u_known (C := R5) (T := T5) (N := 14) (n := 14) hw ws5_in (hw _ wn5)
  obtain ⟨c6, i6, k6⟩ := u_known (C := R6) (T := T6) (N := 12) (n := 12) hw ws6_in (hw _ wn6)
  obtain ⟨c7, i7, k7⟩ := u_known (C := R7) (T := T7) (N := 4) (n := 4) hw ws7_in (hw _ wn7)
  obtain ⟨c8, i8, k8⟩ := u_known (C := R8) (T := T8) (N := 4) (n := 4) hw ws8_in (hw _ wn8)
  obtain ⟨a0, x0, y0⟩ := st_arr (hw _ wA_int)
  obtain ⟨a1, x1, y1⟩ := st_arr (hw _ wA_boolean)
  obtain ⟨a2, x2, y2⟩ := st_arr (hw _ wA_byte)
  obtain ⟨a4, x4, y4⟩ := st_arO (C := R4) (hts _ (List.mem_of_getElem? (i := 133) (by decide +kernel)))
  obtain ⟨a5, x5, y5⟩ := st_arO (C := R1) (hts _ (List.mem_of_getElem? (i := 246) (by decide +kernel)))
  refine ⟨(fun k => match k with | 0 => c0 | 1 => c1 | 2 => c2 | 3 => c3 | 4 => c4 | 5 => c5 | 6 => c6 | 7 => c7 | _ => c8, fun k => match k with | 0 => i0 | 1 => i1 | 2 => i2 | 3 => i3 | 4 => i4 | 5 => i5 | 6 => i6 | 7 => i7 | _ => i8), fun k => match k with | 0 => a0 | 1 => a1 | 2 => a2 | 3 => a0 | 4 => a4 | _ => a5, ?_⟩
  refine ⟨fun k q hq => ?_, fun k q hq => ?_⟩
  · match k, hq with
    | 0, hq => cases hq; exact k0
    | 1, hq => cases hq; exact k1
    | 2, hq => cases hq; exact k2
    | 3, hq => cases hq; exact k3
    | 4, hq => cases hq; exact k4
    | 5, hq => cases hq; exact k5
    | 6, hq => cases hq; exact k6
    | 7, hq => cases hq; exact k7
    | 8, hq => cases hq; exact k8
    | k + 9, hq => simp [cls7] at hq
  · match k, hq with
    | 0, hq => cases hq; exact ⟨x0, y0⟩
    | 1, hq => cases hq; exact ⟨x1, y1⟩
    | 2, hq => cases hq; exact ⟨x2, y2⟩
    | 3, hq => cases hq; exact ⟨x0, y0⟩
    | 4, hq => cases hq; exact ⟨x4, y4⟩
    | 5, hq => cases hq; exact ⟨x5, y5⟩
    | k + 6, hq => simp at hq
