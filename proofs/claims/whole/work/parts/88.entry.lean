/-! what the start gives (printed by g88.py) -/
abbrev tX (i : Nat) : Term := .string "ChannelSchedule" (ixX.getD i 0)
abbrev tM (i : Nat) : Term := .string "ChannelScheduleModel" (ixM.getD i 0)
abbrev tXv (i : Nat) : Term := .field (tX i) "java/lang/String" "value" "[B"
/-- the conditions of the start that are used, in their order -/
def nS (i : Nat) : List Cond := [.exactly (tX i) "java/lang/String", .eq (.field (tX i) "java/lang/String" "coder" "B") (.int 0), .arrayOf (tXv i) .byte, .eq (.length (tXv i)) (.int (Int32.ofNat (leS.getD i 0)))] ++ ((List.range (leS.getD i 0)).map (fun j => .eq (.elem (tXv i) (.int (Int32.ofNat j))) (.int ((byS.getD i []).getD j 0))) ++ (List.range i).map (fun j => .not (.eq (tX j) (tX i))))
def nH : List Cond := [.eq (.static "java/lang/String" "COMPACT_STRINGS" "Z") (.int 1), .isRef (.static "jdk/internal/util/Preconditions" "SIOOBE_FORMATTER" "Ljava/util/function/BiFunction;"), .isRef (.static Bundle.tN "UNASSIGNED_STACK" Bundle.steD), .isRef (.static Bundle.tN "SUPPRESSED_SENTINEL" Bundle.listD), .not (.castable "java/lang/IllegalStateException" "java/lang/IllegalArgumentException"), .not (.castable "java/util/NoSuchElementException" "java/lang/IllegalArgumentException"), .not (.castable "java/lang/IllegalStateException" "java/lang/IndexOutOfBoundsException"), .not (.castable "java/lang/IllegalArgumentException" "java/lang/IndexOutOfBoundsException"), .not (.castable "java/util/NoSuchElementException" "java/lang/IndexOutOfBoundsException")]
def nA : List Cond := nH ++ ((List.range 12).flatMap nS ++ (List.range 12).map (fun i => .eq (tX i) (tM i)))
set_option maxRecDepth 100000 in
theorem nA_sub : nA.isSublist (flatC (.and given_1 narrow_1)) = true := by decide +kernel
theorem nA_in {c : Cond} (h : c ∈ nA) : c ∈ flatC (.and given_1 narrow_1) := (List.isSublist_iff_sublist.mp nA_sub).subset h
theorem nS_in {i : Nat} (hi : i < 12) {c : Cond} (h : c ∈ nS i) : c ∈ nA := List.mem_append_right _ (List.mem_append_left _ (List.mem_flatMap.mpr ⟨i, List.mem_range.mpr hi, h⟩))
theorem nQ_in {i : Nat} (hi : i < 12) : Cond.eq (tX i) (tM i) ∈ nA := List.mem_append_right _ (List.mem_append_right _ (List.mem_map.mpr ⟨i, List.mem_range.mpr hi, rfl⟩))
theorem nH_in {c : Cond} (h : c ∈ nH) : c ∈ nA := List.mem_append_left _ h
theorem st_eqr {args : Array Value} {s : State} {t u : Term} {q : Nat} (h : (Cond.eq t u).before args s = true) (ht : t.eval args s none [] s = some (.ref q)) : u.eval args s none [] s = some (.ref q) := by
  cases hv : u.eval args s none [] s with
  | none => simp [Cond.before, Cond.holds, Cond.value, ht, hv] at h
  | some w =>
    simp only [Cond.before, Cond.holds, Cond.value, hv, ht] at h
    cases w <;> simp_all
set_option maxRecDepth 100000 in
theorem sX_in : ∀ i : Nat, i < 12 → Cond.stringRef "ChannelSchedule" (ixX.getD i 0) (txS.getD i "") ∈ lw_tbl
  | 0, _ => List.mem_of_getElem? (i := 333) (by decide +kernel)
  | 1, _ => List.mem_of_getElem? (i := 409) (by decide +kernel)
  | 2, _ => List.mem_of_getElem? (i := 436) (by decide +kernel)
  | 3, _ => List.mem_of_getElem? (i := 1196) (by decide +kernel)
  | 4, _ => List.mem_of_getElem? (i := 1197) (by decide +kernel)
  | 5, _ => List.mem_of_getElem? (i := 1198) (by decide +kernel)
  | 6, _ => List.mem_of_getElem? (i := 1199) (by decide +kernel)
  | 7, _ => List.mem_of_getElem? (i := 1200) (by decide +kernel)
  | 8, _ => List.mem_of_getElem? (i := 1201) (by decide +kernel)
  | 9, _ => List.mem_of_getElem? (i := 1202) (by decide +kernel)
  | 10, _ => List.mem_of_getElem? (i := 1207) (by decide +kernel)
  | 11, _ => List.mem_of_getElem? (i := 1208) (by decide +kernel)
  | n + 12, h => absurd h (by omega)
set_option maxRecDepth 100000 in
theorem sM_in : ∀ i : Nat, i < 12 → Cond.stringRef "ChannelScheduleModel" (ixM.getD i 0) (txS.getD i "") ∈ lw_tbl
  | 0, _ => List.mem_of_getElem? (i := 1255) (by decide +kernel)
  | 1, _ => List.mem_of_getElem? (i := 1276) (by decide +kernel)
  | 2, _ => List.mem_of_getElem? (i := 1296) (by decide +kernel)
  | 3, _ => List.mem_of_getElem? (i := 1398) (by decide +kernel)
  | 4, _ => List.mem_of_getElem? (i := 1399) (by decide +kernel)
  | 5, _ => List.mem_of_getElem? (i := 1400) (by decide +kernel)
  | 6, _ => List.mem_of_getElem? (i := 1401) (by decide +kernel)
  | 7, _ => List.mem_of_getElem? (i := 1402) (by decide +kernel)
  | 8, _ => List.mem_of_getElem? (i := 1403) (by decide +kernel)
  | 9, _ => List.mem_of_getElem? (i := 1404) (by decide +kernel)
  | 10, _ => List.mem_of_getElem? (i := 1421) (by decide +kernel)
  | 11, _ => List.mem_of_getElem? (i := 1422) (by decide +kernel)
  | n + 12, h => absurd h (by omega)
theorem st_str {s : State} {args : Array Value} {A : Nat → Prop} (hts : ∀ w ∈ lw_tbl, w.before args s = true) (hgv : (Cond.and given_1 narrow_1).before args s = true) (hA : ∀ a : Nat, a < s.heap.size → ¬ A a) : ∃ adK adV : Nat → Nat, vk_S 12 leS byS adK adV A s s.heap ∧ (∀ i : Nat, i < 12 → vk_R "ChannelSchedule" (ixX.getD i 0) (txS.getD i "") (adK i) s) ∧ ∀ i : Nat, i < 12 → vk_R "ChannelScheduleModel" (ixM.getD i 0) (txS.getD i "") (adK i) s := by
  have hs : ∀ {c : Cond}, c ∈ nA → c.before args s = true := fun h => flat_of_before _ hgv _ (nA_in h)
  obtain ⟨adK, adV, h1, h2⟩ := vk_Sof (args := args) (s := s) (N := 12) (tm := tX) (len := leS) (byt := byS) (A := A) (by decide +kernel)
    (fun i hi => hs (nS_in hi (List.mem_append_left _ List.mem_cons_self))) (fun i hi => hs (nS_in hi (List.mem_append_left _ (List.mem_cons_of_mem _ List.mem_cons_self))))
    (fun i hi => hs (nS_in hi (List.mem_append_left _ (List.mem_cons_of_mem _ (List.mem_cons_of_mem _ List.mem_cons_self))))) (fun i hi => hs (nS_in hi (List.mem_append_left _ (List.mem_cons_of_mem _ (List.mem_cons_of_mem _ (List.mem_cons_of_mem _ List.mem_cons_self))))))
    (fun i hi j hj => hs (nS_in hi (List.mem_append_right _ (List.mem_append_left _ (List.mem_map.mpr ⟨j, List.mem_range.mpr hj, rfl⟩)))))
    (fun i j hi hj hij => by
      rcases Nat.lt_or_gt_of_ne hij with q | q
      · exact Or.inl (hs (nS_in hj (List.mem_append_right _ (List.mem_append_right _ (List.mem_map.mpr ⟨i, List.mem_range.mpr q, rfl⟩)))))
      · exact Or.inr (hs (nS_in hi (List.mem_append_right _ (List.mem_append_right _ (List.mem_map.mpr ⟨j, List.mem_range.mpr q, rfl⟩)))))) hA
  exact ⟨adK, adV, h1, fun i hi => vk_R.of (hts _ (sX_in i hi)) (h2 i hi), fun i hi => vk_R.of (hts _ (sM_in i hi)) (st_eqr (hs (nQ_in hi)) (h2 i hi))⟩
set_option maxRecDepth 100000 in
theorem xd_in : ∀ x ∈ XWd, Cond.declares x ∈ lw_tbl := List.forall_mem_cons.mpr ⟨List.mem_of_getElem? (i := 667) (by decide +kernel), List.forall_mem_cons.mpr ⟨List.mem_of_getElem? (i := 669) (by decide +kernel), List.forall_mem_cons.mpr ⟨List.mem_of_getElem? (i := 671) (by decide +kernel), fun _ h => absurd h List.not_mem_nil⟩⟩⟩
set_option maxRecDepth 100000 in
theorem xc_in : ∀ c ∈ XWc, Cond.castable c c ∈ lw_tbl := List.forall_mem_cons.mpr ⟨List.mem_of_getElem? (i := 789) (by decide +kernel), List.forall_mem_cons.mpr ⟨List.mem_of_getElem? (i := 749) (by decide +kernel), List.forall_mem_cons.mpr ⟨List.mem_of_getElem? (i := 666) (by decide +kernel), List.forall_mem_cons.mpr ⟨List.mem_of_getElem? (i := 836) (by decide +kernel), fun _ h => absurd h List.not_mem_nil⟩⟩⟩⟩
/-- the constants and statics at the start -/
theorem st_SF {G : GT} {s : State} {args : Array Value} (hts : ∀ w ∈ lw_tbl, w.before args s = true) (hgv : (Cond.and given_1 narrow_1).before args s = true) (hA : ∀ a : Nat, a < s.heap.size → ¬ gB G ≤ a) (h1 : vk_S 12 leS byS (gK G) (gV G) (fun q => gB G ≤ q) s s.heap) (h2 : ∀ i : Nat, i < 12 → vk_R "ChannelSchedule" (ixX.getD i 0) (txS.getD i "") (gK G i) s) (h3 : ∀ i : Nat, i < 12 → vk_R "ChannelScheduleModel" (ixM.getD i 0) (txS.getD i "") (gK G i) s) : SF G s s.heap := by
  have hs : ∀ {c : Cond}, c ∈ nH → c.before args s = true := fun h => flat_of_before _ hgv _ (nA_in (nH_in h))
  refine ⟨va_Zof (hts _ (List.mem_of_getElem? (i := 343) (by decide +kernel))) (hts _ (List.mem_of_getElem? (i := 116) (by decide +kernel))) (va_eqi (hs List.mem_cons_self)) hA, va_Zqof (hts _ (List.mem_of_getElem? (i := 359) (by decide +kernel))) (hts _ (List.mem_of_getElem? (i := 118) (by decide +kernel))) (hs (List.mem_cons_of_mem _ List.mem_cons_self)) hA, vx_Zqof (hts _ (List.mem_of_getElem? (i := 691) (by decide +kernel))) (hts _ (List.mem_of_getElem? (i := 121) (by decide +kernel))) (hs (List.mem_cons_of_mem _ (List.mem_cons_of_mem _ List.mem_cons_self))) hA, vx_Zqof (hts _ (List.mem_of_getElem? (i := 693) (by decide +kernel))) (hts _ (List.mem_of_getElem? (i := 121) (by decide +kernel))) (hs (List.mem_cons_of_mem _ (List.mem_cons_of_mem _ (List.mem_cons_of_mem _ List.mem_cons_self)))) hA, h1, h2, h3, fun x hx => hts _ (xd_in x hx), fun c hc => hts _ (xc_in c hc)⟩
theorem st_XK {s : State} {args : Array Value} (hts : ∀ w ∈ lw_tbl, w.before args s = true) (hgv : (Cond.and given_1 narrow_1).before args s = true) : XK s := by
  have hs : ∀ {c : Cond}, c ∈ nH → c.before args s = true := fun h => flat_of_before _ hgv _ (nA_in (nH_in h))
  refine ⟨va_AO.of (hts _ (List.mem_of_getElem? (i := 217) (by decide +kernel))), va_AO.of (hts _ (List.mem_of_getElem? (i := 332) (by decide +kernel))), fun q hq => va_Nc.of (hs ?_)⟩
  unfold NCs at hq
  simp only [List.mem_cons, List.not_mem_nil, or_false] at hq
  unfold nH
  rcases hq with e | e | e | e | e <;> subst e <;> simp
theorem st_arr {s : State} {args : Array Value} {ty : FieldType} (h : (Cond.arrayClass ty).before args s = true) : ∃ cA : ClassId, ArrOfT s cA ty ∧ s.vm.findClass ("[" ++ ty.toString) = some cA := by
  obtain ⟨c, k, comp, h1, h2, h3⟩ := Cond.arrayClass_spec h
  exact ⟨c, fun n z => ⟨fun k h => (by cases h), k, h2, comp, h3⟩, h1⟩
theorem st_arO {s : State} {args : Array Value} {C : String} (h : (Cond.arrayOver (.object C)).before args s = true) : ∃ cA : ClassId, ArrOfT s cA (.object C) ∧ va_RA s cA (.object C) := by
  obtain ⟨comp, c, k, h1, h2, h3, h4, h5⟩ := Cond.arrayOver_spec h
  exact ⟨c, fun n z => ⟨fun k h => (by cases h), k, h3, comp, h4⟩, k, comp, h3, h4, h1, h5⟩
/-- the classes' numbers and slots, the array classes -/
theorem st_K {s : State} {args : Array Value} (hts : ∀ w ∈ lw_tbl, w.before args s = true) : ∃ (D : va_G) (A : Nat → ClassId), ∀ B : Nat → ClassId, (∀ i, i < 6 → B i = A i) → va_K D cls7 [(B 0, .int), (B 1, .boolean), (B 2, .byte), (B 3, .long), (B 4, .object R4), (B 5, .object R1)] s := by
  have hw : ∀ w ∈ LW, w.before args s = true := fun w h => hts w (LW_tbl h)
  obtain ⟨c0, i0, k0⟩ := u_known (C := R0) (T := T0) (N := 8) (n := 8) hw ws0_in (hw _ wn0)
  obtain ⟨c1, i1, k1⟩ := u_known (C := R1) (T := T1) (N := 15) (n := 15) hw ws1_in (hw _ wn1)
  obtain ⟨c2, i2, k2⟩ := u_known (C := R2) (T := T2) (N := 6) (n := 6) hw ws2_in (hw _ wn2)
  obtain ⟨c3, i3, k3⟩ := u_known (C := R3) (T := T3) (N := 5) (n := 5) hw ws3_in (hw _ wn3)
  obtain ⟨c4, i4, k4⟩ := u_known (C := R4) (T := T4) (N := 5) (n := 5) hw ws4_in (hw _ wn4)
  obtain ⟨c5, i5, k5⟩ := u_known (C := R5) (T := T5) (N := 14) (n := 14) hw ws5_in (hw _ wn5)
  obtain ⟨c6, i6, k6⟩ := u_known (C := R6) (T := T6) (N := 15) (n := 15) hw ws6_in (hw _ wn6)
  obtain ⟨a0, x0, y0⟩ := st_arr (hw _ wA_int)
  obtain ⟨a1, x1, y1⟩ := st_arr (hw _ wA_boolean)
  obtain ⟨a2, x2, y2⟩ := st_arr (hw _ wA_byte)
  obtain ⟨a3, x3, y3⟩ := st_arr (hw _ wA_long)
  obtain ⟨a4, x4, y4⟩ := st_arO (C := R4) (hts _ (List.mem_of_getElem? (i := 217) (by decide +kernel)))
  obtain ⟨a5, x5, y5⟩ := st_arO (C := R1) (hts _ (List.mem_of_getElem? (i := 332) (by decide +kernel)))
  refine ⟨(fun k => match k with | 0 => c0 | 1 => c1 | 2 => c2 | 3 => c3 | 4 => c4 | 5 => c5 | _ => c6, fun k => match k with | 0 => i0 | 1 => i1 | 2 => i2 | 3 => i3 | 4 => i4 | 5 => i5 | _ => i6), fun k => match k with | 0 => a0 | 1 => a1 | 2 => a2 | 3 => a3 | 4 => a4 | _ => a5, fun B hB => ?_⟩
  have e0 : B 0 = a0 := hB 0 (by omega)
  have e1 : B 1 = a1 := hB 1 (by omega)
  have e2 : B 2 = a2 := hB 2 (by omega)
  have e3 : B 3 = a3 := hB 3 (by omega)
  have e4 : B 4 = a4 := hB 4 (by omega)
  have e5 : B 5 = a5 := hB 5 (by omega)
  rw [e0, e1, e2, e3, e4, e5]
  refine ⟨fun k q hq => ?_, fun k q hq => ?_⟩
  · match k, hq with
    | 0, hq => cases hq; exact k0
    | 1, hq => cases hq; exact k1
    | 2, hq => cases hq; exact k2
    | 3, hq => cases hq; exact k3
    | 4, hq => cases hq; exact k4
    | 5, hq => cases hq; exact k5
    | 6, hq => cases hq; exact k6
    | k + 7, hq => simp [cls7] at hq
  · match k, hq with
    | 0, hq => cases hq; exact ⟨x0, y0⟩
    | 1, hq => cases hq; exact ⟨x1, y1⟩
    | 2, hq => cases hq; exact ⟨x2, y2⟩
    | 3, hq => cases hq; exact ⟨x3, y3⟩
    | 4, hq => cases hq; exact ⟨x4, y4⟩
    | 5, hq => cases hq; exact ⟨x5, y5⟩
    | k + 6, hq => simp at hq
