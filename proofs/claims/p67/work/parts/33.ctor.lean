/-! the constructors of the small classes -/
theorem td_I : parseFieldDescriptor "I" = some .int := by decide +kernel
theorem td_aI : parseFieldDescriptor "[I" = some (.array .int) := by decide +kernel
theorem td_aZ : parseFieldDescriptor "[Z" = some (.array .boolean) := by decide +kernel
theorem td_aB : parseFieldDescriptor "[B" = some (.array .byte) := by decide +kernel
theorem td_aShip : parseFieldDescriptor "[LChannelSchedule$Ship;" = some (.array (.object "ChannelSchedule$Ship")) := by decide +kernel
theorem td_aPlan : parseFieldDescriptor "[LChannelSchedule$Plan;" = some (.array (.object "ChannelSchedule$Plan")) := by decide +kernel
theorem td_oPlan : parseFieldDescriptor "LChannelSchedule$Plan;" = some (.object "ChannelSchedule$Plan") := by decide +kernel
theorem td_oSetup : parseFieldDescriptor "LChannelSchedule$Setup;" = some (.object "ChannelSchedule$Setup") := by decide +kernel
theorem td_oInput : parseFieldDescriptor "LChannelSchedule$Input;" = some (.object "ChannelSchedule$Input") := by decide +kernel
theorem td_oScript : parseFieldDescriptor "LChannelSchedule$Script;" = some (.object "ChannelSchedule$Script") := by decide +kernel
def zr : Nat → Int := fun _ => 0
theorem upH_e {h : HT} {k j : Nat} {e : va_E} (hj : j = k) : upH h k e j = e := if_pos hj
/-- the heap with a new thing's cells from k on -/
def hFrom (h : HT) (k : Nat) (f : Nat → va_E) : HT := fun j => if j < k then h j else f (j - k)
theorem hFrom_lo {h : HT} {k j : Nat} {f : Nat → va_E} (hj : j < k) : hFrom h k f j = h j := if_pos hj
theorem hFrom_at {h : HT} {k i : Nat} {f : Nat → va_E} : hFrom h k f (k + i) = f i := by
  unfold hFrom
  rw [if_neg (by omega), Nat.add_sub_cancel_left]
theorem hFrom_0 {h : HT} {k : Nat} {f : Nat → va_E} : hFrom h k f k = f 0 := hFrom_at (i := 0)
def cIn (G : GT) (k i : Nat) : va_E := if i = 0 then .inr (0, [.ref (gB G + (k + 1)), vI 0, vI 0, vI (-1), vI 0, vI 0, vI 0, vI 0]) else arI (gA G 2) 600 zr
def cSc (G : GT) (k i : Nat) : va_E := if i = 0 then .inr (2, [vI 0, .ref (gB G + (k + 1)), .ref (gB G + (k + 2)), .ref (gB G + (k + 3)), .ref (gB G + (k + 4)), .ref (gB G + (k + 5))]) else if i = 3 then arI (gA G 1) 30 zr else arI (gA G 0) 30 zr
def cShp (G : GT) (k i : Nat) : va_E := if i = 0 then obShip (gB G) k zr else arI (gA G 2) 6 zr
def cPl (G : GT) (k i : Nat) : va_E := celPlan (gB G) (gA G) (k + i) i zr
theorem ci4 {G : GT} {l : Launch} {h : HT} {k : Nat} (hlt : l.stackTraces = false) (hX : gZ G) (hk : h k = .inr (4, [.null, vI 0, vI 0, vI 0, vI 0])) : EvC G l y4_init b4_init 1 1 1 6 [.ref (gB G + k)] (k + 1) h (fun v N h1 => v = none ∧ N = k + 2 ∧ h1 = hFrom h k (cShp G k)) noH := by
  refine evc_of hlt (by decide +kernel) rfl (Nat.le_of_ble_eq_true rfl) (av1 rfl) (fun X hl hx C M hnm => ?_)
  subst hl
  replace C : Cx G X "ChannelSchedule$Ship" b4_init := C
  have hR := M.room
  show AtH G X 0 0 0 [(0, .ref (gB G + k))] [] (k + 1) h
  refine r_aload_n C d4_init_0 rfl ?_
  refine r_objInit C hR d4_init_1 l4_3 (Nat.le_of_ble_eq_true rfl) (Nat.le_of_ble_eq_true rfl) (Nat.le_of_ble_eq_true rfl) ?_
  refine r_aload_n C d4_init_4 rfl ?_
  refine r_bipush C d4_init_5 (by decide +kernel) ?_
  refine r_newB (n := 6) hX C hR d4_init_7 (by decide +kernel) (by decide +kernel) (Nat.le_of_ble_eq_true rfl) (Nat.le_of_ble_eq_true rfl) (Nat.le_of_ble_eq_true rfl) ?_
  refine r_pfF (k := k) (sl := 0) (fs := [.null, vI 0, vI 0, vI 0, vI 0]) (ty := (.array .byte)) C hnm d4_init_9 hX.ad (by omega) ((upH_n (by omega)).trans hk) oi4 (by omega) f4_9 rfl rfl td_aB rfl rfl (Nat.le_of_ble_eq_true rfl) ?_
  refine r_aload_n C d4_init_12 rfl ?_
  refine r_iconst C d4_init_13 ?_
  refine r_pf (k := k) (sl := 1) (fs := [.ref (gB G + (k + 1)), vI 0, vI 0, vI 0, vI 0]) (ty := .int) C d4_init_14 hX.ad (by omega) (upH_e (by omega)) oi4 (by omega) f4_15 rfl td_I rfl rfl (Nat.le_of_ble_eq_true rfl) ?_
  refine r_aload_n C d4_init_17 rfl ?_
  refine r_iconst C d4_init_18 ?_
  refine r_pf (k := k) (sl := 2) (fs := [.ref (gB G + (k + 1)), vI 0, vI 0, vI 0, vI 0]) (ty := .int) C d4_init_19 hX.ad (by omega) (upH_e (by omega)) oi4 (by omega) f4_19 rfl td_I rfl rfl (Nat.le_of_ble_eq_true rfl) ?_
  refine r_aload_n C d4_init_22 rfl ?_
  refine r_iconst C d4_init_23 ?_
  refine r_pf (k := k) (sl := 3) (fs := [.ref (gB G + (k + 1)), vI 0, vI 0, vI 0, vI 0]) (ty := .int) C d4_init_24 hX.ad (by omega) (upH_e (by omega)) oi4 (by omega) f4_22 rfl td_I rfl rfl (Nat.le_of_ble_eq_true rfl) ?_
  refine r_aload_n C d4_init_27 rfl ?_
  refine r_iconst C d4_init_28 ?_
  refine r_pf (k := k) (sl := 4) (fs := [.ref (gB G + (k + 1)), vI 0, vI 0, vI 0, vI 0]) (ty := .int) C d4_init_29 hX.ad (by omega) (upH_e (by omega)) oi4 (by omega) f4_25 rfl td_I rfl rfl (Nat.le_of_ble_eq_true rfl) ?_
  refine AtH.e (h' := hFrom h k (cShp G k)) (fun j hj => ?_) (r_vret C M d4_init_32 (Nat.le_of_ble_eq_true rfl) (Nat.le_of_ble_eq_true rfl) ⟨rfl, rfl, rfl⟩)
  rcases Nat.lt_or_ge j k with q | q
  · rw [hFrom_lo q]
    simp (disch := omega) only [upH_n]
  · obtain ⟨i, hi, e⟩ : ∃ i, i < 2 ∧ j = k + i := ⟨j - k, by omega, by omega⟩
    subst e
    rw [hFrom_at]
    rcases (show i = 0 ∨ i = 1 by omega) with e | e <;> subst e <;> simp (disch := omega) only [upH_e, upH_n] <;> rfl
theorem ci0 {G : GT} {l : Launch} {h : HT} {k : Nat} (hlt : l.stackTraces = false) (hX : gZ G) (hk : h k = .inr (0, [.null, vI 0, vI 0, vI 0, vI 0, vI 0, vI 0, vI 0])) : EvC G l y0_init b0_init 1 1 1 600 [.ref (gB G + k)] (k + 1) h (fun v N h1 => v = none ∧ N = k + 2 ∧ h1 = hFrom h k (cIn G k)) noH := by
  refine evc_of hlt (by decide +kernel) rfl (Nat.le_of_ble_eq_true rfl) (av1 rfl) (fun X hl hx C M hnm => ?_)
  subst hl
  replace C : Cx G X "ChannelSchedule$Input" b0_init := C
  have hR := M.room
  show AtH G X 0 0 0 [(0, .ref (gB G + k))] [] (k + 1) h
  refine r_aload_n C d0_init_0 rfl ?_
  refine r_objInit C hR d0_init_1 l0_3 (Nat.le_of_ble_eq_true rfl) (Nat.le_of_ble_eq_true rfl) (Nat.le_of_ble_eq_true rfl) ?_
  refine r_aload_n C d0_init_4 rfl ?_
  refine r_sipush C d0_init_5 (by decide +kernel) ?_
  refine r_newB (n := 600) hX C hR d0_init_8 (by decide +kernel) (by decide +kernel) (Nat.le_of_ble_eq_true rfl) (Nat.le_of_ble_eq_true rfl) (Nat.le_of_ble_eq_true rfl) ?_
  refine r_pfF (k := k) (sl := 0) (fs := [.null, vI 0, vI 0, vI 0, vI 0, vI 0, vI 0, vI 0]) (ty := (.array .byte)) C hnm d0_init_10 hX.ad (by omega) ((upH_n (by omega)).trans hk) oi0 (by omega) f0_9 rfl rfl td_aB rfl rfl (Nat.le_of_ble_eq_true rfl) ?_
  refine r_aload_n C d0_init_13 rfl ?_
  refine r_iconst C d0_init_14 ?_
  refine r_pf (k := k) (sl := 1) (fs := [.ref (gB G + (k + 1)), vI 0, vI 0, vI 0, vI 0, vI 0, vI 0, vI 0]) (ty := .int) C d0_init_15 hX.ad (by omega) (upH_e (by omega)) oi0 (by omega) f0_15 rfl td_I rfl rfl (Nat.le_of_ble_eq_true rfl) ?_
  refine r_aload_n C d0_init_18 rfl ?_
  refine r_iconst C d0_init_19 ?_
  refine r_pf (k := k) (sl := 2) (fs := [.ref (gB G + (k + 1)), vI 0, vI 0, vI 0, vI 0, vI 0, vI 0, vI 0]) (ty := .int) C d0_init_20 hX.ad (by omega) (upH_e (by omega)) oi0 (by omega) f0_19 rfl td_I rfl rfl (Nat.le_of_ble_eq_true rfl) ?_
  refine r_aload_n C d0_init_23 rfl ?_
  refine r_iconst C d0_init_24 ?_
  refine r_pf (k := k) (sl := 3) (fs := [.ref (gB G + (k + 1)), vI 0, vI 0, vI 0, vI 0, vI 0, vI 0, vI 0]) (ty := .int) C d0_init_25 hX.ad (by omega) (upH_e (by omega)) oi0 (by omega) f0_22 rfl td_I rfl rfl (Nat.le_of_ble_eq_true rfl) ?_
  refine r_aload_n C d0_init_28 rfl ?_
  refine r_iconst C d0_init_29 ?_
  refine r_pf (k := k) (sl := 4) (fs := [.ref (gB G + (k + 1)), vI 0, vI 0, vI (-1), vI 0, vI 0, vI 0, vI 0]) (ty := .int) C d0_init_30 hX.ad (by omega) (upH_e (by omega)) oi0 (by omega) f0_25 rfl td_I rfl rfl (Nat.le_of_ble_eq_true rfl) ?_
  refine r_aload_n C d0_init_33 rfl ?_
  refine r_iconst C d0_init_34 ?_
  refine r_pf (k := k) (sl := 5) (fs := [.ref (gB G + (k + 1)), vI 0, vI 0, vI (-1), vI 0, vI 0, vI 0, vI 0]) (ty := .int) C d0_init_35 hX.ad (by omega) (upH_e (by omega)) oi0 (by omega) f0_28 rfl td_I rfl rfl (Nat.le_of_ble_eq_true rfl) ?_
  refine r_aload_n C d0_init_38 rfl ?_
  refine r_iconst C d0_init_39 ?_
  refine r_pf (k := k) (sl := 6) (fs := [.ref (gB G + (k + 1)), vI 0, vI 0, vI (-1), vI 0, vI 0, vI 0, vI 0]) (ty := .int) C d0_init_40 hX.ad (by omega) (upH_e (by omega)) oi0 (by omega) f0_31 rfl td_I rfl rfl (Nat.le_of_ble_eq_true rfl) ?_
  refine r_aload_n C d0_init_43 rfl ?_
  refine r_iconst C d0_init_44 ?_
  refine r_pf (k := k) (sl := 7) (fs := [.ref (gB G + (k + 1)), vI 0, vI 0, vI (-1), vI 0, vI 0, vI 0, vI 0]) (ty := .int) C d0_init_45 hX.ad (by omega) (upH_e (by omega)) oi0 (by omega) f0_34 rfl td_I rfl rfl (Nat.le_of_ble_eq_true rfl) ?_
  refine AtH.e (h' := hFrom h k (cIn G k)) (fun j hj => ?_) (r_vret C M d0_init_48 (Nat.le_of_ble_eq_true rfl) (Nat.le_of_ble_eq_true rfl) ⟨rfl, rfl, rfl⟩)
  rcases Nat.lt_or_ge j k with q | q
  · rw [hFrom_lo q]
    simp (disch := omega) only [upH_n]
  · obtain ⟨i, hi, e⟩ : ∃ i, i < 2 ∧ j = k + i := ⟨j - k, by omega, by omega⟩
    subst e
    rw [hFrom_at]
    rcases (show i = 0 ∨ i = 1 by omega) with e | e <;> subst e <;> simp (disch := omega) only [upH_e, upH_n] <;> rfl
theorem ci2 {G : GT} {l : Launch} {h : HT} {k : Nat} (hlt : l.stackTraces = false) (hX : gZ G) (hk : h k = .inr (2, [vI 0, .null, .null, .null, .null, .null])) : EvC G l y2_init b2_init 1 1 5 150 [.ref (gB G + k)] (k + 1) h (fun v N h1 => v = none ∧ N = k + 6 ∧ h1 = hFrom h k (cSc G k)) noH := by
  refine evc_of hlt (by decide +kernel) rfl (Nat.le_of_ble_eq_true rfl) (av1 rfl) (fun X hl hx C M hnm => ?_)
  subst hl
  replace C : Cx G X "ChannelSchedule$Script" b2_init := C
  have hR := M.room
  show AtH G X 0 0 0 [(0, .ref (gB G + k))] [] (k + 1) h
  refine r_aload_n C d2_init_0 rfl ?_
  refine r_objInit C hR d2_init_1 l2_3 (Nat.le_of_ble_eq_true rfl) (Nat.le_of_ble_eq_true rfl) (Nat.le_of_ble_eq_true rfl) ?_
  refine r_aload_n C d2_init_4 rfl ?_
  refine r_iconst C d2_init_5 ?_
  refine r_pf (k := k) (sl := 0) (fs := [vI 0, .null, .null, .null, .null, .null]) (ty := .int) C d2_init_6 hX.ad (by omega) hk oi2 (by omega) f2_9 rfl td_I rfl rfl (Nat.le_of_ble_eq_true rfl) ?_
  refine r_aload_n C d2_init_9 rfl ?_
  refine r_bipush C d2_init_10 (by decide +kernel) ?_
  refine r_newI (n := 30) hX C hR d2_init_12 (by decide +kernel) (by decide +kernel) (Nat.le_of_ble_eq_true rfl) (Nat.le_of_ble_eq_true rfl) (Nat.le_of_ble_eq_true rfl) ?_
  refine r_pfF (k := k) (sl := 1) (fs := [vI 0, .null, .null, .null, .null, .null]) (ty := (.array .int)) C hnm d2_init_14 hX.ad (by omega) ((upH_n (by omega)).trans (upH_e (by omega))) oi2 (by omega) f2_15 rfl rfl td_aI rfl rfl (Nat.le_of_ble_eq_true rfl) ?_
  refine r_aload_n C d2_init_17 rfl ?_
  refine r_bipush C d2_init_18 (by decide +kernel) ?_
  refine r_newI (n := 30) hX C hR d2_init_20 (by decide +kernel) (by decide +kernel) (Nat.le_of_ble_eq_true rfl) (Nat.le_of_ble_eq_true rfl) (Nat.le_of_ble_eq_true rfl) ?_
  refine r_pfF (k := k) (sl := 2) (fs := [vI 0, .ref (gB G + (k + 1)), .null, .null, .null, .null]) (ty := (.array .int)) C hnm d2_init_22 hX.ad (by omega) ((upH_n (by omega)).trans (upH_e (by omega))) oi2 (by omega) f2_19 rfl rfl td_aI rfl rfl (Nat.le_of_ble_eq_true rfl) ?_
  refine r_aload_n C d2_init_25 rfl ?_
  refine r_bipush C d2_init_26 (by decide +kernel) ?_
  refine r_newZ (n := 30) hX C hR d2_init_28 (by decide +kernel) (by decide +kernel) (Nat.le_of_ble_eq_true rfl) (Nat.le_of_ble_eq_true rfl) (Nat.le_of_ble_eq_true rfl) ?_
  refine r_pfF (k := k) (sl := 3) (fs := [vI 0, .ref (gB G + (k + 1)), .ref (gB G + (k + 1 + 1)), .null, .null, .null]) (ty := (.array .boolean)) C hnm d2_init_30 hX.ad (by omega) ((upH_n (by omega)).trans (upH_e (by omega))) oi2 (by omega) f2_22 rfl rfl td_aZ rfl rfl (Nat.le_of_ble_eq_true rfl) ?_
  refine r_aload_n C d2_init_33 rfl ?_
  refine r_bipush C d2_init_34 (by decide +kernel) ?_
  refine r_newI (n := 30) hX C hR d2_init_36 (by decide +kernel) (by decide +kernel) (Nat.le_of_ble_eq_true rfl) (Nat.le_of_ble_eq_true rfl) (Nat.le_of_ble_eq_true rfl) ?_
  refine r_pfF (k := k) (sl := 4) (fs := [vI 0, .ref (gB G + (k + 1)), .ref (gB G + (k + 1 + 1)), .ref (gB G + (k + 1 + 1 + 1)), .null, .null]) (ty := (.array .int)) C hnm d2_init_38 hX.ad (by omega) ((upH_n (by omega)).trans (upH_e (by omega))) oi2 (by omega) f2_26 rfl rfl td_aI rfl rfl (Nat.le_of_ble_eq_true rfl) ?_
  refine r_aload_n C d2_init_41 rfl ?_
  refine r_bipush C d2_init_42 (by decide +kernel) ?_
  refine r_newI (n := 30) hX C hR d2_init_44 (by decide +kernel) (by decide +kernel) (Nat.le_of_ble_eq_true rfl) (Nat.le_of_ble_eq_true rfl) (Nat.le_of_ble_eq_true rfl) ?_
  refine r_pfF (k := k) (sl := 5) (fs := [vI 0, .ref (gB G + (k + 1)), .ref (gB G + (k + 1 + 1)), .ref (gB G + (k + 1 + 1 + 1)), .ref (gB G + (k + 1 + 1 + 1 + 1)), .null]) (ty := (.array .int)) C hnm d2_init_46 hX.ad (by omega) ((upH_n (by omega)).trans (upH_e (by omega))) oi2 (by omega) f2_29 rfl rfl td_aI rfl rfl (Nat.le_of_ble_eq_true rfl) ?_
  refine AtH.e (h' := hFrom h k (cSc G k)) (fun j hj => ?_) (r_vret C M d2_init_49 (Nat.le_of_ble_eq_true rfl) (Nat.le_of_ble_eq_true rfl) ⟨rfl, rfl, rfl⟩)
  rcases Nat.lt_or_ge j k with q | q
  · rw [hFrom_lo q]
    simp (disch := omega) only [upH_n]
  · obtain ⟨i, hi, e⟩ : ∃ i, i < 6 ∧ j = k + i := ⟨j - k, by omega, by omega⟩
    subst e
    rw [hFrom_at]
    rcases (show i = 0 ∨ i = 1 ∨ i = 2 ∨ i = 3 ∨ i = 4 ∨ i = 5 by omega) with e | e | e | e | e | e <;> subst e <;> simp (disch := omega) only [upH_e, upH_n] <;> rfl
theorem ci1 {G : GT} {l : Launch} {h : HT} {k : Nat} (hlt : l.stackTraces = false) (hX : gZ G) (hk : h k = .inr (1, [vI 0, vI 0, vI 0, vI 0, vI 0, vI 0, .null, .null, .null, .null, vI 0, .null, .null, .null, .null])) : EvC G l y1_init b1_init 1 1 8 112 [.ref (gB G + k)] (k + 1) h (fun v N h1 => v = none ∧ N = k + 9 ∧ h1 = hFrom h k (cPl G k)) noH := by
  refine evc_of hlt (by decide +kernel) rfl (Nat.le_of_ble_eq_true rfl) (av1 rfl) (fun X hl hx C M hnm => ?_)
  subst hl
  replace C : Cx G X "ChannelSchedule$Plan" b1_init := C
  have hR := M.room
  show AtH G X 0 0 0 [(0, .ref (gB G + k))] [] (k + 1) h
  refine r_aload_n C d1_init_0 rfl ?_
  refine r_objInit C hR d1_init_1 l1_3 (Nat.le_of_ble_eq_true rfl) (Nat.le_of_ble_eq_true rfl) (Nat.le_of_ble_eq_true rfl) ?_
  refine r_aload_n C d1_init_4 rfl ?_
  refine r_iconst C d1_init_5 ?_
  refine r_pf (k := k) (sl := 0) (fs := [vI 0, vI 0, vI 0, vI 0, vI 0, vI 0, .null, .null, .null, .null, vI 0, .null, .null, .null, .null]) (ty := .int) C d1_init_6 hX.ad (by omega) hk oi1 (by omega) f1_9 rfl td_I rfl rfl (Nat.le_of_ble_eq_true rfl) ?_
  refine r_aload_n C d1_init_9 rfl ?_
  refine r_iconst C d1_init_10 ?_
  refine r_pf (k := k) (sl := 1) (fs := [vI 0, vI 0, vI 0, vI 0, vI 0, vI 0, .null, .null, .null, .null, vI 0, .null, .null, .null, .null]) (ty := .int) C d1_init_11 hX.ad (by omega) (upH_e (by omega)) oi1 (by omega) f1_15 rfl td_I rfl rfl (Nat.le_of_ble_eq_true rfl) ?_
  refine r_aload_n C d1_init_14 rfl ?_
  refine r_iconst C d1_init_15 ?_
  refine r_pf (k := k) (sl := 2) (fs := [vI 0, vI 0, vI 0, vI 0, vI 0, vI 0, .null, .null, .null, .null, vI 0, .null, .null, .null, .null]) (ty := .int) C d1_init_16 hX.ad (by omega) (upH_e (by omega)) oi1 (by omega) f1_18 rfl td_I rfl rfl (Nat.le_of_ble_eq_true rfl) ?_
  refine r_aload_n C d1_init_19 rfl ?_
  refine r_iconst C d1_init_20 ?_
  refine r_pf (k := k) (sl := 3) (fs := [vI 0, vI 0, vI 0, vI 0, vI 0, vI 0, .null, .null, .null, .null, vI 0, .null, .null, .null, .null]) (ty := .int) C d1_init_21 hX.ad (by omega) (upH_e (by omega)) oi1 (by omega) f1_21 rfl td_I rfl rfl (Nat.le_of_ble_eq_true rfl) ?_
  refine r_aload_n C d1_init_24 rfl ?_
  refine r_iconst C d1_init_25 ?_
  refine r_pf (k := k) (sl := 4) (fs := [vI 0, vI 0, vI 0, vI 0, vI 0, vI 0, .null, .null, .null, .null, vI 0, .null, .null, .null, .null]) (ty := .int) C d1_init_26 hX.ad (by omega) (upH_e (by omega)) oi1 (by omega) f1_24 rfl td_I rfl rfl (Nat.le_of_ble_eq_true rfl) ?_
  refine r_aload_n C d1_init_29 rfl ?_
  refine r_iconst C d1_init_30 ?_
  refine r_pf (k := k) (sl := 5) (fs := [vI 0, vI 0, vI 0, vI 0, vI 0, vI 0, .null, .null, .null, .null, vI 0, .null, .null, .null, .null]) (ty := .int) C d1_init_31 hX.ad (by omega) (upH_e (by omega)) oi1 (by omega) f1_27 rfl td_I rfl rfl (Nat.le_of_ble_eq_true rfl) ?_
  refine r_aload_n C d1_init_34 rfl ?_
  refine r_bipush C d1_init_35 (by decide +kernel) ?_
  refine r_newI (n := 20) hX C hR d1_init_37 (by decide +kernel) (by decide +kernel) (Nat.le_of_ble_eq_true rfl) (Nat.le_of_ble_eq_true rfl) (Nat.le_of_ble_eq_true rfl) ?_
  refine r_pfF (k := k) (sl := 6) (fs := [vI 0, vI 0, vI 0, vI 0, vI 0, vI 0, .null, .null, .null, .null, vI 0, .null, .null, .null, .null]) (ty := (.array .int)) C hnm d1_init_39 hX.ad (by omega) ((upH_n (by omega)).trans (upH_e (by omega))) oi1 (by omega) f1_30 rfl rfl td_aI rfl rfl (Nat.le_of_ble_eq_true rfl) ?_
  refine r_aload_n C d1_init_42 rfl ?_
  refine r_bipush C d1_init_43 (by decide +kernel) ?_
  refine r_newZ (n := 20) hX C hR d1_init_45 (by decide +kernel) (by decide +kernel) (Nat.le_of_ble_eq_true rfl) (Nat.le_of_ble_eq_true rfl) (Nat.le_of_ble_eq_true rfl) ?_
  refine r_pfF (k := k) (sl := 7) (fs := [vI 0, vI 0, vI 0, vI 0, vI 0, vI 0, .ref (gB G + (k + 1)), .null, .null, .null, vI 0, .null, .null, .null, .null]) (ty := (.array .boolean)) C hnm d1_init_47 hX.ad (by omega) ((upH_n (by omega)).trans (upH_e (by omega))) oi1 (by omega) f1_34 rfl rfl td_aZ rfl rfl (Nat.le_of_ble_eq_true rfl) ?_
  refine r_aload_n C d1_init_50 rfl ?_
  refine r_bipush C d1_init_51 (by decide +kernel) ?_
  refine r_newI (n := 20) hX C hR d1_init_53 (by decide +kernel) (by decide +kernel) (Nat.le_of_ble_eq_true rfl) (Nat.le_of_ble_eq_true rfl) (Nat.le_of_ble_eq_true rfl) ?_
  refine r_pfF (k := k) (sl := 8) (fs := [vI 0, vI 0, vI 0, vI 0, vI 0, vI 0, .ref (gB G + (k + 1)), .ref (gB G + (k + 1 + 1)), .null, .null, vI 0, .null, .null, .null, .null]) (ty := (.array .int)) C hnm d1_init_55 hX.ad (by omega) ((upH_n (by omega)).trans (upH_e (by omega))) oi1 (by omega) f1_38 rfl rfl td_aI rfl rfl (Nat.le_of_ble_eq_true rfl) ?_
  refine r_aload_n C d1_init_58 rfl ?_
  refine r_bipush C d1_init_59 (by decide +kernel) ?_
  refine r_newI (n := 20) hX C hR d1_init_61 (by decide +kernel) (by decide +kernel) (Nat.le_of_ble_eq_true rfl) (Nat.le_of_ble_eq_true rfl) (Nat.le_of_ble_eq_true rfl) ?_
  refine r_pfF (k := k) (sl := 9) (fs := [vI 0, vI 0, vI 0, vI 0, vI 0, vI 0, .ref (gB G + (k + 1)), .ref (gB G + (k + 1 + 1)), .ref (gB G + (k + 1 + 1 + 1)), .null, vI 0, .null, .null, .null, .null]) (ty := (.array .int)) C hnm d1_init_63 hX.ad (by omega) ((upH_n (by omega)).trans (upH_e (by omega))) oi1 (by omega) f1_41 rfl rfl td_aI rfl rfl (Nat.le_of_ble_eq_true rfl) ?_
  refine r_aload_n C d1_init_66 rfl ?_
  refine r_iconst C d1_init_67 ?_
  refine r_pf (k := k) (sl := 10) (fs := [vI 0, vI 0, vI 0, vI 0, vI 0, vI 0, .ref (gB G + (k + 1)), .ref (gB G + (k + 1 + 1)), .ref (gB G + (k + 1 + 1 + 1)), .ref (gB G + (k + 1 + 1 + 1 + 1)), vI 0, .null, .null, .null, .null]) (ty := .int) C d1_init_68 hX.ad (by omega) (upH_e (by omega)) oi1 (by omega) f1_44 rfl td_I rfl rfl (Nat.le_of_ble_eq_true rfl) ?_
  refine r_aload_n C d1_init_71 rfl ?_
  refine r_bipush C d1_init_72 (by decide +kernel) ?_
  refine r_newI (n := 8) hX C hR d1_init_74 (by decide +kernel) (by decide +kernel) (Nat.le_of_ble_eq_true rfl) (Nat.le_of_ble_eq_true rfl) (Nat.le_of_ble_eq_true rfl) ?_
  refine r_pfF (k := k) (sl := 11) (fs := [vI 0, vI 0, vI 0, vI 0, vI 0, vI 0, .ref (gB G + (k + 1)), .ref (gB G + (k + 1 + 1)), .ref (gB G + (k + 1 + 1 + 1)), .ref (gB G + (k + 1 + 1 + 1 + 1)), vI 0, .null, .null, .null, .null]) (ty := (.array .int)) C hnm d1_init_76 hX.ad (by omega) ((upH_n (by omega)).trans (upH_e (by omega))) oi1 (by omega) f1_47 rfl rfl td_aI rfl rfl (Nat.le_of_ble_eq_true rfl) ?_
  refine r_aload_n C d1_init_79 rfl ?_
  refine r_bipush C d1_init_80 (by decide +kernel) ?_
  refine r_newZ (n := 8) hX C hR d1_init_82 (by decide +kernel) (by decide +kernel) (Nat.le_of_ble_eq_true rfl) (Nat.le_of_ble_eq_true rfl) (Nat.le_of_ble_eq_true rfl) ?_
  refine r_pfF (k := k) (sl := 12) (fs := [vI 0, vI 0, vI 0, vI 0, vI 0, vI 0, .ref (gB G + (k + 1)), .ref (gB G + (k + 1 + 1)), .ref (gB G + (k + 1 + 1 + 1)), .ref (gB G + (k + 1 + 1 + 1 + 1)), vI 0, .ref (gB G + (k + 1 + 1 + 1 + 1 + 1)), .null, .null, .null]) (ty := (.array .boolean)) C hnm d1_init_84 hX.ad (by omega) ((upH_n (by omega)).trans (upH_e (by omega))) oi1 (by omega) f1_50 rfl rfl td_aZ rfl rfl (Nat.le_of_ble_eq_true rfl) ?_
  refine r_aload_n C d1_init_87 rfl ?_
  refine r_bipush C d1_init_88 (by decide +kernel) ?_
  refine r_newI (n := 8) hX C hR d1_init_90 (by decide +kernel) (by decide +kernel) (Nat.le_of_ble_eq_true rfl) (Nat.le_of_ble_eq_true rfl) (Nat.le_of_ble_eq_true rfl) ?_
  refine r_pfF (k := k) (sl := 13) (fs := [vI 0, vI 0, vI 0, vI 0, vI 0, vI 0, .ref (gB G + (k + 1)), .ref (gB G + (k + 1 + 1)), .ref (gB G + (k + 1 + 1 + 1)), .ref (gB G + (k + 1 + 1 + 1 + 1)), vI 0, .ref (gB G + (k + 1 + 1 + 1 + 1 + 1)), .ref (gB G + (k + 1 + 1 + 1 + 1 + 1 + 1)), .null, .null]) (ty := (.array .int)) C hnm d1_init_92 hX.ad (by omega) ((upH_n (by omega)).trans (upH_e (by omega))) oi1 (by omega) f1_53 rfl rfl td_aI rfl rfl (Nat.le_of_ble_eq_true rfl) ?_
  refine r_aload_n C d1_init_95 rfl ?_
  refine r_bipush C d1_init_96 (by decide +kernel) ?_
  refine r_newI (n := 8) hX C hR d1_init_98 (by decide +kernel) (by decide +kernel) (Nat.le_of_ble_eq_true rfl) (Nat.le_of_ble_eq_true rfl) (Nat.le_of_ble_eq_true rfl) ?_
  refine r_pfF (k := k) (sl := 14) (fs := [vI 0, vI 0, vI 0, vI 0, vI 0, vI 0, .ref (gB G + (k + 1)), .ref (gB G + (k + 1 + 1)), .ref (gB G + (k + 1 + 1 + 1)), .ref (gB G + (k + 1 + 1 + 1 + 1)), vI 0, .ref (gB G + (k + 1 + 1 + 1 + 1 + 1)), .ref (gB G + (k + 1 + 1 + 1 + 1 + 1 + 1)), .ref (gB G + (k + 1 + 1 + 1 + 1 + 1 + 1 + 1)), .null]) (ty := (.array .int)) C hnm d1_init_100 hX.ad (by omega) ((upH_n (by omega)).trans (upH_e (by omega))) oi1 (by omega) f1_56 rfl rfl td_aI rfl rfl (Nat.le_of_ble_eq_true rfl) ?_
  refine AtH.e (h' := hFrom h k (cPl G k)) (fun j hj => ?_) (r_vret C M d1_init_103 (Nat.le_of_ble_eq_true rfl) (Nat.le_of_ble_eq_true rfl) ⟨rfl, rfl, rfl⟩)
  rcases Nat.lt_or_ge j k with q | q
  · rw [hFrom_lo q]
    simp (disch := omega) only [upH_n]
  · obtain ⟨i, hi, e⟩ : ∃ i, i < 9 ∧ j = k + i := ⟨j - k, by omega, by omega⟩
    subst e
    rw [hFrom_at]
    rcases (show i = 0 ∨ i = 1 ∨ i = 2 ∨ i = 3 ∨ i = 4 ∨ i = 5 ∨ i = 6 ∨ i = 7 ∨ i = 8 by omega) with e | e | e | e | e | e | e | e | e <;> subst e <;> simp (disch := omega) only [upH_e, upH_n] <;> rfl
theorem td_oMain : parseFieldDescriptor "LChannelSchedule;" = some (.object "ChannelSchedule") := by decide +kernel
