/-! the constructor of the reference; the start (printed by g77.py) -/
set_option maxRecDepth 100000
def Vm0 (Va : VV) : VV := fun k => if k < 148 then Va k else if k = 148 then (fun i => if i = 6 then -1 else 0) else zr
def VM (Va : VV) : Nat → VV
  | 0 => Vm0 Va
  | i + 1 => up2 (VM Va i) 151 i (scI 0 i)
theorem ci6 {G : GT} {l : Launch} {h : HT} {Va W1 W2 : VV} {r : Int} (hlt : l.stackTraces = false) (hX : gX G = true) (hG : gN G = 154) (hlo : ∀ j, j < 148 → h j = hV G Va j) (hk : h 148 = .inr (6, [.null, .null, vI 0, .null, vI 0, vI 0, vI 0, .null, vI 0, vI 0, vI 0, vI 0, vI 0, vI 0, .null])) (h1 : f6_begin (up2 (VM Va 79) 148 4 79) = some W1) (h2 : f6_parseSetup W1 = some (r, W2)) : EvC G l y6_init b6_init 3 6 5 3412 [.ref (gB G + 148)] 149 h (vP G (QO (.ok none) (up2 W2 148 4 0))) (vX G (QE (.ok none) (up2 W2 148 4 0))) := by
  refine evc_of hlt (by decide +kernel) rfl (Nat.le_of_ble_eq_true rfl) (av1 rfl) (fun X hl hx C M hnm hXK => ?_)
  subst hl
  replace C : Cx G X "ChannelScheduleModel" b6_init := C
  have hR := M.room
  show AtH G X 0 0 0 [(0, .ref (gB G + 148))] [] 149 h
  refine r_aload_n C d6_init_0 rfl ?_
  refine r_objInit C hR d6_init_1 l6_7 (Nat.le_of_ble_eq_true rfl) (Nat.le_of_ble_eq_true rfl) (Nat.le_of_ble_eq_true rfl) ?_
  refine r_aload_n C d6_init_4 rfl ?_
  refine r_sipush C d6_init_5 (by decide +kernel) ?_
  refine r_newI (n := 2300) hX C hR d6_init_8 (by decide +kernel) (by decide +kernel) (Nat.le_of_ble_eq_true rfl) (Nat.le_of_ble_eq_true rfl) (Nat.le_of_ble_eq_true rfl) ?_
  refine r_pfF (k := 148) (sl := 0) (fs := [.null, .null, vI 0, .null, vI 0, vI 0, vI 0, .null, vI 0, vI 0, vI 0, vI 0, vI 0, vI 0, .null]) (ty := (.array .int)) C hnm d6_init_10 (by omega) ((upH_n (by omega)).trans hk) oi6 (by omega) f6_13 rfl rfl td_aI rfl rfl (Nat.le_of_ble_eq_true rfl) ?_
  refine r_aload_n C d6_init_13 rfl ?_
  refine r_iconst C d6_init_14 ?_
  refine r_newZ (n := 2) hX C hR d6_init_15 (by decide +kernel) (by decide +kernel) (Nat.le_of_ble_eq_true rfl) (Nat.le_of_ble_eq_true rfl) (Nat.le_of_ble_eq_true rfl) ?_
  refine r_pfF (k := 148) (sl := 1) (fs := [.ref (gB G + (148 + 1)), .null, vI 0, .null, vI 0, vI 0, vI 0, .null, vI 0, vI 0, vI 0, vI 0, vI 0, vI 0, .null]) (ty := (.array .boolean)) C hnm d6_init_17 (by omega) ((upH_n (by omega)).trans (upH_e (by omega))) oi6 (by omega) f6_17 rfl rfl td_aZ rfl rfl (Nat.le_of_ble_eq_true rfl) ?_
  refine r_aload_n C d6_init_20 rfl ?_
  refine r_iconst C d6_init_21 ?_
  refine r_pf (k := 148) (sl := 2) (fs := [.ref (gB G + (148 + 1)), .ref (gB G + (148 + 1 + 1)), vI 0, .null, vI 0, vI 0, vI 0, .null, vI 0, vI 0, vI 0, vI 0, vI 0, vI 0, .null]) (ty := .int) C d6_init_22 (by omega) (upH_e (by omega)) oi6 (by omega) f6_21 rfl td_I rfl rfl (Nat.le_of_ble_eq_true rfl) ?_
  refine r_aload_n C d6_init_25 rfl ?_
  refine r_sipush C d6_init_26 (by decide +kernel) ?_
  refine r_newI (n := 600) hX C hR d6_init_29 (by decide +kernel) (by decide +kernel) (Nat.le_of_ble_eq_true rfl) (Nat.le_of_ble_eq_true rfl) (Nat.le_of_ble_eq_true rfl) ?_
  refine r_pfF (k := 148) (sl := 3) (fs := [.ref (gB G + (148 + 1)), .ref (gB G + (148 + 1 + 1)), vI 0, .null, vI 0, vI 0, vI 0, .null, vI 0, vI 0, vI 0, vI 0, vI 0, vI 0, .null]) (ty := (.array .int)) C hnm d6_init_31 (by omega) ((upH_n (by omega)).trans (upH_e (by omega))) oi6 (by omega) f6_24 rfl rfl td_aI rfl rfl (Nat.le_of_ble_eq_true rfl) ?_
  refine r_aload_n C d6_init_34 rfl ?_
  refine r_iconst C d6_init_35 ?_
  refine r_pf (k := 148) (sl := 4) (fs := [.ref (gB G + (148 + 1)), .ref (gB G + (148 + 1 + 1)), vI 0, .ref (gB G + (148 + 1 + 1 + 1)), vI 0, vI 0, vI 0, .null, vI 0, vI 0, vI 0, vI 0, vI 0, vI 0, .null]) (ty := .int) C d6_init_36 (by omega) (upH_e (by omega)) oi6 (by omega) f6_27 rfl td_I rfl rfl (Nat.le_of_ble_eq_true rfl) ?_
  refine r_aload_n C d6_init_39 rfl ?_
  refine r_iconst C d6_init_40 ?_
  refine r_pf (k := 148) (sl := 5) (fs := [.ref (gB G + (148 + 1)), .ref (gB G + (148 + 1 + 1)), vI 0, .ref (gB G + (148 + 1 + 1 + 1)), vI 0, vI 0, vI 0, .null, vI 0, vI 0, vI 0, vI 0, vI 0, vI 0, .null]) (ty := .int) C d6_init_41 (by omega) (upH_e (by omega)) oi6 (by omega) f6_30 rfl td_I rfl rfl (Nat.le_of_ble_eq_true rfl) ?_
  refine r_aload_n C d6_init_44 rfl ?_
  refine r_iconst C d6_init_45 ?_
  refine r_pf (k := 148) (sl := 6) (fs := [.ref (gB G + (148 + 1)), .ref (gB G + (148 + 1 + 1)), vI 0, .ref (gB G + (148 + 1 + 1 + 1)), vI 0, vI 0, vI 0, .null, vI 0, vI 0, vI 0, vI 0, vI 0, vI 0, .null]) (ty := .int) C d6_init_46 (by omega) (upH_e (by omega)) oi6 (by omega) f6_33 rfl td_I rfl rfl (Nat.le_of_ble_eq_true rfl) ?_
  refine r_aload_n C d6_init_49 rfl ?_
  refine r_sipush C d6_init_50 (by decide +kernel) ?_
  refine r_newI (n := 360) hX C hR d6_init_53 (by decide +kernel) (by decide +kernel) (Nat.le_of_ble_eq_true rfl) (Nat.le_of_ble_eq_true rfl) (Nat.le_of_ble_eq_true rfl) ?_
  refine r_pfF (k := 148) (sl := 7) (fs := [.ref (gB G + (148 + 1)), .ref (gB G + (148 + 1 + 1)), vI 0, .ref (gB G + (148 + 1 + 1 + 1)), vI 0, vI 0, vI (-1), .null, vI 0, vI 0, vI 0, vI 0, vI 0, vI 0, .null]) (ty := (.array .int)) C hnm d6_init_55 (by omega) ((upH_n (by omega)).trans (upH_e (by omega))) oi6 (by omega) f6_36 rfl rfl td_aI rfl rfl (Nat.le_of_ble_eq_true rfl) ?_
  refine r_aload_n C d6_init_58 rfl ?_
  refine r_iconst C d6_init_59 ?_
  refine r_pf (k := 148) (sl := 8) (fs := [.ref (gB G + (148 + 1)), .ref (gB G + (148 + 1 + 1)), vI 0, .ref (gB G + (148 + 1 + 1 + 1)), vI 0, vI 0, vI (-1), .ref (gB G + (148 + 1 + 1 + 1 + 1)), vI 0, vI 0, vI 0, vI 0, vI 0, vI 0, .null]) (ty := .int) C d6_init_60 (by omega) (upH_e (by omega)) oi6 (by omega) f6_39 rfl td_I rfl rfl (Nat.le_of_ble_eq_true rfl) ?_
  refine r_aload_n C d6_init_63 rfl ?_
  refine r_iconst C d6_init_64 ?_
  refine r_pf (k := 148) (sl := 9) (fs := [.ref (gB G + (148 + 1)), .ref (gB G + (148 + 1 + 1)), vI 0, .ref (gB G + (148 + 1 + 1 + 1)), vI 0, vI 0, vI (-1), .ref (gB G + (148 + 1 + 1 + 1 + 1)), vI 0, vI 0, vI 0, vI 0, vI 0, vI 0, .null]) (ty := .int) C d6_init_65 (by omega) (upH_e (by omega)) oi6 (by omega) f6_1 rfl td_I rfl rfl (Nat.le_of_ble_eq_true rfl) ?_
  refine r_aload_n C d6_init_68 rfl ?_
  refine r_iconst C d6_init_69 ?_
  refine r_pf (k := 148) (sl := 10) (fs := [.ref (gB G + (148 + 1)), .ref (gB G + (148 + 1 + 1)), vI 0, .ref (gB G + (148 + 1 + 1 + 1)), vI 0, vI 0, vI (-1), .ref (gB G + (148 + 1 + 1 + 1 + 1)), vI 0, vI 0, vI 0, vI 0, vI 0, vI 0, .null]) (ty := .int) C d6_init_70 (by omega) (upH_e (by omega)) oi6 (by omega) f6_42 rfl td_I rfl rfl (Nat.le_of_ble_eq_true rfl) ?_
  refine r_aload_n C d6_init_73 rfl ?_
  refine r_iconst C d6_init_74 ?_
  refine r_pf (k := 148) (sl := 11) (fs := [.ref (gB G + (148 + 1)), .ref (gB G + (148 + 1 + 1)), vI 0, .ref (gB G + (148 + 1 + 1 + 1)), vI 0, vI 0, vI (-1), .ref (gB G + (148 + 1 + 1 + 1 + 1)), vI 0, vI 0, vI 0, vI 0, vI 0, vI 0, .null]) (ty := .int) C d6_init_75 (by omega) (upH_e (by omega)) oi6 (by omega) f6_45 rfl td_I rfl rfl (Nat.le_of_ble_eq_true rfl) ?_
  refine r_aload_n C d6_init_78 rfl ?_
  refine r_iconst C d6_init_79 ?_
  refine r_pf (k := 148) (sl := 12) (fs := [.ref (gB G + (148 + 1)), .ref (gB G + (148 + 1 + 1)), vI 0, .ref (gB G + (148 + 1 + 1 + 1)), vI 0, vI 0, vI (-1), .ref (gB G + (148 + 1 + 1 + 1 + 1)), vI 0, vI 0, vI 0, vI 0, vI 0, vI 0, .null]) (ty := .int) C d6_init_80 (by omega) (upH_e (by omega)) oi6 (by omega) f6_48 rfl td_I rfl rfl (Nat.le_of_ble_eq_true rfl) ?_
  refine r_aload_n C d6_init_83 rfl ?_
  refine r_iconst C d6_init_84 ?_
  refine r_pf (k := 148) (sl := 13) (fs := [.ref (gB G + (148 + 1)), .ref (gB G + (148 + 1 + 1)), vI 0, .ref (gB G + (148 + 1 + 1 + 1)), vI 0, vI 0, vI (-1), .ref (gB G + (148 + 1 + 1 + 1 + 1)), vI 0, vI 0, vI 0, vI 0, vI 0, vI 0, .null]) (ty := .int) C d6_init_85 (by omega) (upH_e (by omega)) oi6 (by omega) f6_51 rfl td_I rfl rfl (Nat.le_of_ble_eq_true rfl) ?_
  refine r_aload_n C d6_init_88 rfl ?_
  refine r_sipush C d6_init_89 (by decide +kernel) ?_
  refine r_newI (n := 150) hX C hR d6_init_92 (by decide +kernel) (by decide +kernel) (Nat.le_of_ble_eq_true rfl) (Nat.le_of_ble_eq_true rfl) (Nat.le_of_ble_eq_true rfl) ?_
  refine r_pfF (k := 148) (sl := 14) (fs := [.ref (gB G + (148 + 1)), .ref (gB G + (148 + 1 + 1)), vI 0, .ref (gB G + (148 + 1 + 1 + 1)), vI 0, vI 0, vI (-1), .ref (gB G + (148 + 1 + 1 + 1 + 1)), vI 0, vI 0, vI 0, vI 0, vI 0, vI 0, .null]) (ty := (.array .int)) C hnm d6_init_94 (by omega) ((upH_n (by omega)).trans (upH_e (by omega))) oi6 (by omega) f6_54 rfl rfl td_aI rfl rfl (Nat.le_of_ble_eq_true rfl) ?_
  have hN : 154 ≤ gN G := by omega
  suffices rest : At G X 5 3412 97 [(0, .ref (gB G + 148))] [] (Vm0 Va) by
    have rest2 : AtH G X 5 3412 97 [(0, .ref (gB G + 148))] [] (gN G) (hV G (Vm0 Va)) := rest
    rw [hG] at rest2
    refine AtH.e (fun j hj => ?_) rest2
    show _ = celOf (gB G) (gA G) j (Vm0 Va j)
    rcases Nat.lt_or_ge j 148 with q | q
    · simp (disch := omega) only [upH_n]
      rw [hlo j q]
      show celOf _ _ j (Va j) = _
      unfold Vm0
      rw [if_pos q]
    · obtain ⟨i, hi, e⟩ : ∃ i, i < 6 ∧ j = 148 + i := ⟨j - 148, by omega, by omega⟩
      subst e
      rcases (show i = 0 ∨ i = 1 ∨ i = 2 ∨ i = 3 ∨ i = 4 ∨ i = 5 by omega) with e | e | e | e | e | e <;> subst e <;> simp (disch := omega) only [upH_e, upH_n] <;> rfl
  have e79 : slI 0 = 79 := by decide +kernel
  suffices loop : ∀ (n i : Nat), i + n = 79 → At G X 5 3412 102 [(0, .ref (gB G + 148)), (1, .ref (gK G 0)), (2, vI (i : Int))] [] (VM Va i) by
    refine x_ldcM (k := 0) C d6_init_97 (by decide) ?_
    refine x_astore_n hx C d6_init_99 rfl ?_
    refine r_iconst C d6_init_100 ?_
    refine x_istore_n hx C d6_init_101 rfl ?_
    exact AtH.sw (loop 79 0 rfl) ⟨rfl, rfl, rfl, trivial⟩
  intro n
  induction n with
  | zero =>
    intro i hi
    obtain rfl : i = 79 := by omega
    refine r_iload_n C d6_init_102 rfl ?_
    refine r_aload_n C d6_init_103 rfl ?_
    refine x_slen C M d6_init_104 l6_59 (by decide) rfl (Nat.le_of_ble_eq_true rfl) (Nat.le_of_ble_eq_true rfl) ?_
    rw [e79]
    refine r_icmpge (tgt := 127) C d6_init_107 rfl ⟨by omega, by omega⟩ ⟨by omega, by omega⟩ (fun _ => ?_) (fun c => absurd (by omega) c)
    refine r_aload_n C d6_init_127 rfl ?_
    refine r_aload_n C d6_init_128 rfl ?_
    refine x_slen C M d6_init_129 l6_59 (by decide) rfl (Nat.le_of_ble_eq_true rfl) (Nat.le_of_ble_eq_true rfl) ?_
    rw [e79]
    refine p_model_4 C d6_init_132 f6_27 hN ?_
    refine r_aload_n C d6_init_135 rfl ?_
    refine cV0_v C M d6_init_136 l6_68 w6_begin (rc_model hN) (ev6_begin C.lt hN h1) rfl (Nat.le_of_ble_eq_true rfl) (Nat.le_of_ble_eq_true rfl) ?_
    refine r_aload_n C d6_init_139 rfl ?_
    refine cV0_i C M d6_init_140 l6_71 w6_parseSetup (rc_model hN) (ev6_parseSetup C.lt hN h2) rfl (Nat.le_of_ble_eq_true rfl) (Nat.le_of_ble_eq_true rfl) ?_
    refine r_pop C d6_init_143 rfl ?_
    refine r_aload_n C d6_init_144 rfl ?_
    refine r_iconst C d6_init_145 ?_
    refine p_model_4 C d6_init_146 f6_27 hN ?_
    exact v_vret C M d6_init_149 (Nat.le_of_ble_eq_true rfl) (Nat.le_of_ble_eq_true rfl) ⟨rfl, rfl⟩
  | succ n ih =>
    intro i hi
    refine r_iload_n C d6_init_102 rfl ?_
    refine r_aload_n C d6_init_103 rfl ?_
    refine x_slen C M d6_init_104 l6_59 (by decide) rfl (Nat.le_of_ble_eq_true rfl) (Nat.le_of_ble_eq_true rfl) ?_
    rw [e79]
    refine r_icmpge (tgt := 127) C d6_init_107 rfl ⟨by omega, by omega⟩ ⟨by omega, by omega⟩ (fun c => absurd c (by omega)) (fun _ => ?_)
    refine r_aload_n C d6_init_110 rfl ?_
    refine g_model_3 C d6_init_111 f6_24 hN ?_
    refine r_iload_n C d6_init_114 rfl ?_
    refine r_aload_n C d6_init_115 rfl ?_
    refine r_iload_n C d6_init_116 rfl ?_
    refine x_schar C M d6_init_117 l6_64 (by decide) ⟨by omega, by omega⟩ rfl (Nat.le_of_ble_eq_true rfl) (Nat.le_of_ble_eq_true rfl) ?_
    refine x_iast C d6_init_120 (ra_buffer hN) ⟨by omega, by omega⟩ ?_
    rw [Int.toNat_natCast]
    refine r_iinc C d6_init_121 rfl (by rw [hx]; decide) ?_
    refine r_goto (tgt := 102) C d6_init_124 rfl ?_
    rw [show (i : Int) + 1 = ((i + 1 : Nat) : Int) by omega]
    exact AtH.sw (ih (i + 1) (by omega)) ⟨rfl, rfl, rfl, trivial⟩
theorem wB_wB (z : Int) : wB (wB z) = wB z := by unfold wB; omega
theorem VL_b : ∀ (i j : Nat), j < i → VL i 2 j = wB (scI 0 j)
  | 0, j, h => absurd h (by omega)
  | i + 1, j, h => by
    show up2 (up2 (VL i) 2 i (wB (wB (scI 0 i)))) 1 1 ((i : Int) + 1) 2 j = _
    rw [up2_n (by omega)]
    by_cases e : j = i
    · rw [e, up2_s, wB_wB]
    · rw [up2_n (by omega), VL_b i j (by omega)]
theorem VL_r {k : Nat} (h1 : k ≠ 1) (h2 : k ≠ 2) : ∀ i : Nat, VL i k = V00 k
  | 0 => rfl
  | i + 1 => by
    show up2 (up2 (VL i) 2 i (wB (wB (scI 0 i)))) 1 1 ((i : Int) + 1) k = _
    rw [up2_r h1, up2_r h2, VL_r h1 h2 i]
theorem VM_b {Va : VV} : ∀ (i j : Nat), j < i → VM Va i 151 j = scI 0 j
  | 0, j, h => absurd h (by omega)
  | i + 1, j, h => by
    show up2 (VM Va i) 151 i (scI 0 i) 151 j = _
    by_cases e : j = i
    · rw [e, up2_s]
    · rw [up2_n (by omega), VM_b i j (by omega)]
theorem VM_r {Va : VV} {k : Nat} (h1 : k ≠ 151) : ∀ i : Nat, VM Va i k = Vm0 Va k
  | 0 => rfl
  | i + 1 => by
    show up2 (VM Va i) 151 i (scI 0 i) k = _
    rw [up2_r h1, VM_r h1 i]
def isRt {α : Type} (s : PE α) : Bool := match s with
  | .inl _ => false
  | .inr _ => true
theorem first_ok : isRt (sSetup (fun j => scI 0 j) 79) = true := by decide +kernel
theorem first_rg : ∀ j, j < 79 → 0 ≤ scI 0 j ∧ scI 0 j ≤ 255 := by decide +kernel
/-- both constructors come to their ends, and class and reference agree -/
theorem start_ok : ∃ V1 V2 W1 W2 : VV, ∃ r : Int, f5_readSetup (VL 79) = some (1, V1) ∧ f5_startWithDraft V1 = some V2 ∧ f6_begin (up2 (VM (up2 V2 1 1 0) 79) 148 4 79) = some W1 ∧ f6_parseSetup W1 = some (r, W2) ∧ (∀ k, k < 148 → up2 W2 148 4 0 k = up2 V2 1 1 0 k) ∧ ∃ (S : Su) (P : Pl), RV (up2 W2 148 4 0) S P := by
  have hF : okF (fun j => scI 0 j) 79 := ⟨by omega, first_rg⟩
  have ad0 : ∀ k, aS 1 ≤ k ∧ k < aS 1 + 22 → 31 ≤ k ∧ k < 53 := fun k hk => by unfold aS at hk; omega
  rcases X_readSetup (V := VL 79) (d := 1) hF (VL_1 79) (VL_b 79) (by omega) (by rw [VL_r (by omega) (by omega)]; rfl) with ⟨A, r, a1, a2, a3, a4, a5, a6, a7, a8, a9⟩ | ⟨A, e, a1, -⟩
  · have a0 : ∀ k, k ≠ 1 → k ≠ 2 → ¬ (31 ≤ k ∧ k < 53) → A k = V00 k := fun k k1 k2 k3 => by rw [a5 k k1 (fun z => k3 (ad0 k z)), VL_r k1 k2]
    obtain ⟨V2, b1, b2, b3, b4, b5, b6, b7, b8⟩ := X_startWithDraft (V := A) (q := 0) (d := 1) (by omega) (by omega) (by rw [a0 0 (by omega) (by omega) (by omega)]; rfl) (by rw [a0 0 (by omega) (by omega) (by omega)]; rfl)
    obtain ⟨Va, hVa⟩ : ∃ Va, Va = up2 V2 1 1 0 := ⟨_, rfl⟩
    refine ⟨A, V2, ?_⟩
    rw [← hVa]
    obtain ⟨W1, c1, c2, c3, c4, c5, c6⟩ := M_begin (V := up2 (VM Va 79) 148 4 79) hF (up2_s _ _ _ _) (fun j hj => by rw [up2_r (by omega), VM_b 79 j hj])
    rcases M_parseSetup hF c2 c3 c4 with ⟨W2, r', d1, d2, d3, ⟨d4, d5, d6⟩, d7, d8⟩ | ⟨W2, e, d1, -⟩
    · have hrr : r' = r := by rw [a1] at d1; cases d1; rfl
      subst hrr
      obtain ⟨V9, hV9⟩ : ∃ V9, V9 = up2 W2 148 4 0 := ⟨_, rfl⟩
      have em : ∀ k, k ≠ 148 → k ≠ 149 → k ≠ 151 → V9 k = Vm0 Va k := fun k k1 k2 k3 => by rw [hV9, up2_r k1, d4 k k1 k2, c5 k k1, up2_r k1, VM_r k3]
      have ek : ∀ k, k < 148 → V9 k = Va k := fun k hk => by
        rw [em k (by omega) (by omega) (by omega)]
        exact if_pos hk
      have e148 : ∀ i, i ≠ 4 → i ≠ 5 → i ≠ 6 → i ≠ 10 → i ≠ 11 → i ≠ 12 → i ≠ 13 → V9 148 i = 0 := fun i i4 i5 i6 i10 i11 i12 i13 => by
        rw [hV9, up2_n (by omega), d5 i i5 i6 i10 i11 i12 i13, c6 i i5 i6 i10 i11 i12 i13, up2_n (by omega), VM_r (by omega)]
        show (if i = 6 then (-1 : Int) else 0) = 0
        rw [if_neg i6]
      have e150 : ∀ s, V9 150 s = 0 := fun s => by rw [em 150 (by omega) (by omega) (by omega)]; rfl
      have e149 : V9 149 = W2 149 := by rw [hV9, up2_r (by omega)]
      have ev : ∀ k, k ≠ 1 → k < 148 → V9 k = V2 k := fun k k1 k2 => by rw [ek k k2, hVa, up2_r k1]
      have e0 : V9 0 = V2 0 := ev 0 (by omega) (by omega)
      have ez : ∀ i, i ≠ 2 → i ≠ 3 → i ≠ 8 → V9 0 i = 0 := fun i i2 i3 i8 => by
        rw [e0, b5 i i2 i3 i8, a0 0 (by omega) (by omega) (by omega)]
        unfold V00
        rw [up2_n (by omega), up2_n (by omega)]
      have e02 : (V9 0 2).toNat = 1 := by rw [e0, b2]; rfl
      have e1 : ∀ i, i ≠ 1 → V9 1 i = A 1 i := fun i hi => by rw [ek 1 (by omega), hVa, up2_n (by omega), b8 1 (by omega) (by omega) (by omega)]
      have hS9 : rpS V9 (aS 1) (r'.1, r'.2.1, r'.2.2.2) := rpS_of a8 a6 (fun k k1 k2 => by
        have hk := ad0 k ⟨k1, k2⟩
        rw [ev k (by omega) (by omega), b8 k (by omega) (by omega) (by omega)])
      refine ⟨W1, W2, 1, a2, b1, c1, d2, ?_⟩
      rw [← hV9]
      refine ⟨ek, (r'.1, r'.2.1, r'.2.2.2), P0 r'.2.2.1, ⟨?_, ?_, by rw [e02]; omega, a8, P0_ok a9⟩, ⟨rpM_of d8 e149, rpN_of d7 e149, a8, P0_ok a9⟩, ?_, ?_, ?_, ?_, ?_⟩
      · rw [a7] at b6
        exact rpC_of b6 (fun k k1 k2 => ev k (by omega) (by omega))
      · rw [e02]
        exact hS9
      · rw [e0, b2, b3]
        omega
      · unfold RPast
        rw [ez 7 (by omega) (by omega) (by omega), e148 2 (by omega) (by omega) (by omega) (by omega) (by omega) (by omega) (by omega), e0, b4]
        exact ⟨by omega, rfl, by omega, fun k hk => absurd hk (by omega)⟩
      · intro s hs
        rw [ev 73 (by omega) (by omega), b7 s hs, e150]
        exact ⟨rfl, Or.inl rfl⟩
      · unfold RIn
        rw [e1 2 (by omega), e1 3 (by omega), a4.1, a4.2, ek 1 (by omega), hVa, up2_s, hV9, up2_s, up2_n (by omega), up2_n (by omega), d3.1, d3.2]
        exact ⟨rfl, by omega, fun j hj => absurd hj (by omega), rfl, rfl⟩
      · unfold ROut
        rw [ez 13 (by omega) (by omega) (by omega), e148 8 (by omega) (by omega) (by omega) (by omega) (by omega) (by omega) (by omega)]
        exact ⟨rfl, by omega, fun j hj => absurd hj (by omega)⟩
    · exfalso
      rw [a1] at d1
      cases d1
  · exfalso
    have h9 := first_ok
    rw [a1] at h9
    cases h9
