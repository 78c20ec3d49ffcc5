/-! the constructor of the schedule of the law -/
def hOwn (G : GT) (h : HT) : HT := fun j => if j < 148 then h j else celOf (gB G) (gC G) (gA G) j zr
theorem ci6 {G : GT} {l : Launch} {h : HT} (hlt : l.stackTraces = false) (hX : gX G = true) (hC : gB G ≤ gC G) (hk : h 148 = .inr (6, [.null, .null, .null, .null, .null, vI 0, .null, .null, .null, .null, vI 0, vI 0])) : EvC G l y6_init b6_init 2 1 8 112 [.ref (gC G + 148), .ref (gB G + 0)] 149 h (fun v N h1 => v = none ∧ N = 157 ∧ h1 = hOwn G h) noH := by
  refine evc_of hlt (by decide +kernel) rfl (Nat.le_of_ble_eq_true rfl) (av1 rfl) (fun X hl hx C M hnm => ?_)
  subst hl
  replace C : Cx G X "ChannelScheduleLaw$Own" b6_init := C
  have hR := M.room
  show AtH G X 0 0 0 [(0, .ref (gC G + 148)), (1, .ref (gB G + 0))] [] 149 h
  refine r_aload_n C d6_init_0 rfl ?_
  refine r_objInit C hR d6_init_1 l6_1 (Nat.le_of_ble_eq_true rfl) (Nat.le_of_ble_eq_true rfl) (Nat.le_of_ble_eq_true rfl) ?_
  refine r_aload_n C d6_init_4 rfl ?_
  refine r_bipush C d6_init_5 (by decide +kernel) ?_
  refine r_newOI (n := 20) hX (by omega) C hR d6_init_7 (by decide +kernel) (by decide +kernel) (Nat.le_of_ble_eq_true rfl) (Nat.le_of_ble_eq_true rfl) (Nat.le_of_ble_eq_true rfl) ?_
  refine r_pfF (k := 148) (sl := 1) (fs := [.null, .null, .null, .null, .null, vI 0, .null, .null, .null, .null, vI 0, vI 0]) (ty := (.array .int)) C hnm d6_init_9 (ad_hi (by omega)) (by omega) ((upH_n (by omega)).trans hk) oi6 (by omega) f6_7 rfl rfl td_aI rfl rfl (Nat.le_of_ble_eq_true rfl) ?_
  refine r_aload_n C d6_init_12 rfl ?_
  refine r_bipush C d6_init_13 (by decide +kernel) ?_
  refine r_newOZ (n := 20) hX (by omega) C hR d6_init_15 (by decide +kernel) (by decide +kernel) (Nat.le_of_ble_eq_true rfl) (Nat.le_of_ble_eq_true rfl) (Nat.le_of_ble_eq_true rfl) ?_
  refine r_pfF (k := 148) (sl := 2) (fs := [.null, .ref (gC G + 149), .null, .null, .null, vI 0, .null, .null, .null, .null, vI 0, vI 0]) (ty := (.array .boolean)) C hnm d6_init_17 (ad_hi (by omega)) (by omega) ((upH_n (by omega)).trans (upH_e rfl)) oi6 (by omega) f6_13 rfl rfl td_aZ rfl rfl (Nat.le_of_ble_eq_true rfl) ?_
  refine r_aload_n C d6_init_20 rfl ?_
  refine r_bipush C d6_init_21 (by decide +kernel) ?_
  refine r_newOI (n := 20) hX (by omega) C hR d6_init_23 (by decide +kernel) (by decide +kernel) (Nat.le_of_ble_eq_true rfl) (Nat.le_of_ble_eq_true rfl) (Nat.le_of_ble_eq_true rfl) ?_
  refine r_pfF (k := 148) (sl := 3) (fs := [.null, .ref (gC G + 149), .ref (gC G + 150), .null, .null, vI 0, .null, .null, .null, .null, vI 0, vI 0]) (ty := (.array .int)) C hnm d6_init_25 (ad_hi (by omega)) (by omega) ((upH_n (by omega)).trans (upH_e rfl)) oi6 (by omega) f6_17 rfl rfl td_aI rfl rfl (Nat.le_of_ble_eq_true rfl) ?_
  refine r_aload_n C d6_init_28 rfl ?_
  refine r_bipush C d6_init_29 (by decide +kernel) ?_
  refine r_newOI (n := 20) hX (by omega) C hR d6_init_31 (by decide +kernel) (by decide +kernel) (Nat.le_of_ble_eq_true rfl) (Nat.le_of_ble_eq_true rfl) (Nat.le_of_ble_eq_true rfl) ?_
  refine r_pfF (k := 148) (sl := 4) (fs := [.null, .ref (gC G + 149), .ref (gC G + 150), .ref (gC G + 151), .null, vI 0, .null, .null, .null, .null, vI 0, vI 0]) (ty := (.array .int)) C hnm d6_init_33 (ad_hi (by omega)) (by omega) ((upH_n (by omega)).trans (upH_e rfl)) oi6 (by omega) f6_20 rfl rfl td_aI rfl rfl (Nat.le_of_ble_eq_true rfl) ?_
  refine r_aload_n C d6_init_36 rfl ?_
  refine r_bipush C d6_init_37 (by decide +kernel) ?_
  refine r_newOI (n := 8) hX (by omega) C hR d6_init_39 (by decide +kernel) (by decide +kernel) (Nat.le_of_ble_eq_true rfl) (Nat.le_of_ble_eq_true rfl) (Nat.le_of_ble_eq_true rfl) ?_
  refine r_pfF (k := 148) (sl := 6) (fs := [.null, .ref (gC G + 149), .ref (gC G + 150), .ref (gC G + 151), .ref (gC G + 152), vI 0, .null, .null, .null, .null, vI 0, vI 0]) (ty := (.array .int)) C hnm d6_init_41 (ad_hi (by omega)) (by omega) ((upH_n (by omega)).trans (upH_e rfl)) oi6 (by omega) f6_23 rfl rfl td_aI rfl rfl (Nat.le_of_ble_eq_true rfl) ?_
  refine r_aload_n C d6_init_44 rfl ?_
  refine r_bipush C d6_init_45 (by decide +kernel) ?_
  refine r_newOZ (n := 8) hX (by omega) C hR d6_init_47 (by decide +kernel) (by decide +kernel) (Nat.le_of_ble_eq_true rfl) (Nat.le_of_ble_eq_true rfl) (Nat.le_of_ble_eq_true rfl) ?_
  refine r_pfF (k := 148) (sl := 7) (fs := [.null, .ref (gC G + 149), .ref (gC G + 150), .ref (gC G + 151), .ref (gC G + 152), vI 0, .ref (gC G + 153), .null, .null, .null, vI 0, vI 0]) (ty := (.array .boolean)) C hnm d6_init_49 (ad_hi (by omega)) (by omega) ((upH_n (by omega)).trans (upH_e rfl)) oi6 (by omega) f6_26 rfl rfl td_aZ rfl rfl (Nat.le_of_ble_eq_true rfl) ?_
  refine r_aload_n C d6_init_52 rfl ?_
  refine r_bipush C d6_init_53 (by decide +kernel) ?_
  refine r_newOI (n := 8) hX (by omega) C hR d6_init_55 (by decide +kernel) (by decide +kernel) (Nat.le_of_ble_eq_true rfl) (Nat.le_of_ble_eq_true rfl) (Nat.le_of_ble_eq_true rfl) ?_
  refine r_pfF (k := 148) (sl := 8) (fs := [.null, .ref (gC G + 149), .ref (gC G + 150), .ref (gC G + 151), .ref (gC G + 152), vI 0, .ref (gC G + 153), .ref (gC G + 154), .null, .null, vI 0, vI 0]) (ty := (.array .int)) C hnm d6_init_57 (ad_hi (by omega)) (by omega) ((upH_n (by omega)).trans (upH_e rfl)) oi6 (by omega) f6_29 rfl rfl td_aI rfl rfl (Nat.le_of_ble_eq_true rfl) ?_
  refine r_aload_n C d6_init_60 rfl ?_
  refine r_bipush C d6_init_61 (by decide +kernel) ?_
  refine r_newOI (n := 8) hX (by omega) C hR d6_init_63 (by decide +kernel) (by decide +kernel) (Nat.le_of_ble_eq_true rfl) (Nat.le_of_ble_eq_true rfl) (Nat.le_of_ble_eq_true rfl) ?_
  refine r_pfF (k := 148) (sl := 9) (fs := [.null, .ref (gC G + 149), .ref (gC G + 150), .ref (gC G + 151), .ref (gC G + 152), vI 0, .ref (gC G + 153), .ref (gC G + 154), .ref (gC G + 155), .null, vI 0, vI 0]) (ty := (.array .int)) C hnm d6_init_65 (ad_hi (by omega)) (by omega) ((upH_n (by omega)).trans (upH_e rfl)) oi6 (by omega) f6_32 rfl rfl td_aI rfl rfl (Nat.le_of_ble_eq_true rfl) ?_
  refine r_aload_n C d6_init_68 rfl ?_
  refine r_aload_n C d6_init_69 rfl ?_
  refine r_pfF (k := 148) (sl := 0) (fs := [.null, .ref (gC G + 149), .ref (gC G + 150), .ref (gC G + 151), .ref (gC G + 152), vI 0, .ref (gC G + 153), .ref (gC G + 154), .ref (gC G + 155), .ref (gC G + 156), vI 0, vI 0]) (ty := .object "ChannelSchedule") C hnm d6_init_70 (ad_hi (by omega)) (by omega) (upH_e rfl) oi6 (by omega) f6_35 rfl rfl td_oMain rfl rfl (Nat.le_of_ble_eq_true rfl) ?_
  refine AtH.e (h' := hOwn G h) (fun j hj => ?_) (r_vret C M d6_init_73 (Nat.le_of_ble_eq_true rfl) (Nat.le_of_ble_eq_true rfl) ⟨rfl, rfl, rfl⟩)
  unfold hOwn
  by_cases q : j < 148
  · rw [if_pos q]
    simp (disch := omega) only [upH_n]
  · rw [if_neg q]
    obtain ⟨i, hi, e⟩ : ∃ i, i < 9 ∧ j = 148 + i := ⟨j - 148, by omega, by omega⟩
    subst e
    rcases (show i = 0 ∨ i = 1 ∨ i = 2 ∨ i = 3 ∨ i = 4 ∨ i = 5 ∨ i = 6 ∨ i = 7 ∨ i = 8 by omega) with e | e | e | e | e | e | e | e | e <;> subst e <;> simp (disch := omega) only [upH_e, upH_n] <;> rfl
