/-! the builder: whole numbers; the text it makes -/
theorem sb_size {l : Launch} (hlt : l.stackTraces = false) {G : GT} {N : Nat} {h : HT} {z : Nat} (hz : z < 100) : EvH G l yJ6_stringSize_0f7a4 bJ6_stringSize_0f7a4 4 (some .int) 0 0 0 [vI (z : Int)] (N) h (Pu (some (vI (dn z : Int))) N h) noH := by
  refine ev_of hlt (by decide +kernel) (Nat.le_of_ble_eq_true rfl) (av1 rfl) (Or.inr trivial) (fun X hl hx C M => ?_)
  subst hl
  replace C : Cx G X "java/lang/Integer" bJ6_stringSize_0f7a4 := C
  have hR := M.room
  show AtH G X 0 0 0 [(0, vI (z : Int))] [] (N) h
  refine r_iconst C dJ6_stringSize_0f7a4_0 ?_
  refine r_istore_n C dJ6_stringSize_0f7a4_1 (by rw [hx]; decide) ?_
  refine r_iload_n C dJ6_stringSize_0f7a4_2 rfl ?_
  refine r_iflt (tgt := 11) C dJ6_stringSize_0f7a4_3 rfl ⟨by omega, by omega⟩ (fun c => False.elim (by omega)) (fun c => ?_)
  clear c
  refine r_iconst C dJ6_stringSize_0f7a4_6 ?_
  refine r_istore_n C dJ6_stringSize_0f7a4_7 (by rw [hx]; decide) ?_
  refine r_iload_n C dJ6_stringSize_0f7a4_8 rfl ?_
  refine r_ineg C dJ6_stringSize_0f7a4_9 ?_
  refine r_istore_n C dJ6_stringSize_0f7a4_10 (by rw [hx]; decide) ?_
  refine r_bipush C dJ6_stringSize_0f7a4_11 (by decide +kernel) ?_
  refine r_istore_n C dJ6_stringSize_0f7a4_13 (by rw [hx]; decide) ?_
  refine r_iconst C dJ6_stringSize_0f7a4_14 ?_
  refine r_istore_n C dJ6_stringSize_0f7a4_15 (by rw [hx]; decide) ?_
  refine r_iload_n C dJ6_stringSize_0f7a4_16 rfl ?_
  refine r_bipush C dJ6_stringSize_0f7a4_17 (by decide +kernel) ?_
  refine r_icmpge (tgt := 42) C dJ6_stringSize_0f7a4_19 rfl ⟨by omega, by omega⟩ ⟨by omega, by omega⟩ (fun c => False.elim (by omega)) (fun c => ?_)
  clear c
  refine r_iload_n C dJ6_stringSize_0f7a4_22 rfl ?_
  refine r_iload_n C dJ6_stringSize_0f7a4_23 rfl ?_
  refine r_icmple (tgt := 31) C dJ6_stringSize_0f7a4_24 rfl ⟨by omega, by omega⟩ ⟨by omega, by omega⟩ (fun c => ?_) (fun c => ?_)
  · refine r_bipush C dJ6_stringSize_0f7a4_31 (by decide +kernel) ?_
    refine r_iload_n C dJ6_stringSize_0f7a4_33 rfl ?_
    refine r_imul C dJ6_stringSize_0f7a4_34 ?_
    refine r_istore_n C dJ6_stringSize_0f7a4_35 (by rw [hx]; decide) ?_
    refine r_iinc C dJ6_stringSize_0f7a4_36 rfl (by rw [hx]; decide) ?_
    refine r_goto (tgt := 16) C dJ6_stringSize_0f7a4_39 rfl ?_
    refine r_iload_n C dJ6_stringSize_0f7a4_16 rfl ?_
    refine r_bipush C dJ6_stringSize_0f7a4_17 (by decide +kernel) ?_
    refine r_icmpge (tgt := 42) C dJ6_stringSize_0f7a4_19 rfl ⟨by omega, by omega⟩ ⟨by omega, by omega⟩ (fun c => False.elim (by omega)) (fun c => ?_)
    clear c
    refine r_iload_n C dJ6_stringSize_0f7a4_22 rfl ?_
    refine r_iload_n C dJ6_stringSize_0f7a4_23 rfl ?_
    refine r_icmple (tgt := 31) C dJ6_stringSize_0f7a4_24 rfl ⟨by omega, by omega⟩ ⟨by omega, by omega⟩ (fun c => False.elim (by omega)) (fun c => ?_)
    clear c
    refine r_iload_n C dJ6_stringSize_0f7a4_27 rfl ?_
    refine r_iload_n C dJ6_stringSize_0f7a4_28 rfl ?_
    refine r_iadd C dJ6_stringSize_0f7a4_29 ?_
    exact r_iret C M dJ6_stringSize_0f7a4_30 rfl (Nat.le_of_ble_eq_true rfl) (Nat.le_of_ble_eq_true rfl) ⟨by unfold dn; rw [if_neg (by omega)]; rfl, rfl, rfl⟩
  · refine r_iload_n C dJ6_stringSize_0f7a4_27 rfl ?_
    refine r_iload_n C dJ6_stringSize_0f7a4_28 rfl ?_
    refine r_iadd C dJ6_stringSize_0f7a4_29 ?_
    exact r_iret C M dJ6_stringSize_0f7a4_30 rfl (Nat.le_of_ble_eq_true rfl) (Nat.le_of_ble_eq_true rfl) ⟨by unfold dn; rw [if_pos (by omega)]; rfl, rfl, rfl⟩
theorem sb_chars {l : Launch} (hlt : l.stackTraces = false) {G : GT} {N : Nat} {h : HT} {j m e z : Nat} {f : Nat → Int} (hX : gZ G) (hj : j < N) (hh : h j = arI (gA G 2) m f) (hz : z < 100) (he : dn z ≤ e ∧ e ≤ m ∧ m ≤ 400) : EvH G l yJ6_getChars_ba4f3 bJ6_getChars_ba4f3 7 (some .int) 0 0 0 [vI (z : Int), vI (e : Int), .ref (gB G + j)] (N) h (Pu (some (vI ((e : Int) - dn z))) N (upH h j (arI (gA G 2) m (dgF z e f)))) noH := by
  refine ev_of hlt (by decide +kernel) (Nat.le_of_ble_eq_true rfl) (av1 rfl) (Or.inr trivial) (fun X hl hx C M => ?_)
  subst hl
  replace C : Cx G X "java/lang/Integer" bJ6_getChars_ba4f3 := C
  have hR := M.room
  show AtH G X 0 0 0 [(0, vI (z : Int)), (1, vI (e : Int)), (2, .ref (gB G + j))] [] (N) h
  have hdn := dn_le z
  have hd1 : z < 10 → dn z = 1 := fun c => if_pos c
  have hd2 : ¬ z < 10 → dn z = 2 := fun c => if_neg c
  refine r_iload_n C dJ6_getChars_ba4f3_0 rfl ?_
  refine r_istore C dJ6_getChars_ba4f3_1 (by rw [hx]; decide) ?_
  refine r_iload_n C dJ6_getChars_ba4f3_3 rfl ?_
  refine r_ifge (tgt := 11) C dJ6_getChars_ba4f3_4 rfl ⟨by omega, by omega⟩ (fun c => ?_) (fun c => False.elim (by omega))
  clear c
  refine r_iconst C dJ6_getChars_ba4f3_11 ?_
  refine r_istore C dJ6_getChars_ba4f3_12 (by rw [hx]; decide) ?_
  refine r_iload C dJ6_getChars_ba4f3_14 rfl ?_
  refine r_ifne (tgt := 22) C dJ6_getChars_ba4f3_16 rfl ⟨by omega, by omega⟩ (fun c => False.elim (by omega)) (fun c => ?_)
  clear c
  refine r_iload_n C dJ6_getChars_ba4f3_19 rfl ?_
  refine r_ineg C dJ6_getChars_ba4f3_20 ?_
  refine r_istore_n C dJ6_getChars_ba4f3_21 (by rw [hx]; decide) ?_
  refine r_iload_n C dJ6_getChars_ba4f3_22 rfl ?_
  refine r_bipush C dJ6_getChars_ba4f3_23 (by decide +kernel) ?_
  refine r_icmpgt (tgt := 72) C dJ6_getChars_ba4f3_25 rfl ⟨by omega, by omega⟩ ⟨by omega, by omega⟩ (fun c => ?_) (fun c => False.elim (by omega))
  clear c
  refine r_aload_n C dJ6_getChars_ba4f3_72 rfl ?_
  refine r_iinc C dJ6_getChars_ba4f3_73 rfl (by rw [hx]; decide) ?_
  refine r_iload C dJ6_getChars_ba4f3_76 rfl ?_
  refine r_getsO C dJ6_getChars_ba4f3_78 fJ6_83 ?_
  refine r_iload_n C dJ6_getChars_ba4f3_81 rfl ?_
  refine r_ineg C dJ6_getChars_ba4f3_82 ?_
  refine r_top (show - -(z : Int) = (z : Int) by omega) ?_
  refine r_digO C dJ6_getChars_ba4f3_83 hz ?_
  refine r_bast (k := j) (n := m) (row := f) C dJ6_getChars_ba4f3_84 hX.ad hj hh (by omega) (by omega) (by omega) ?_
  refine r_iload_n C dJ6_getChars_ba4f3_85 rfl ?_
  refine r_bipush C dJ6_getChars_ba4f3_86 (by decide +kernel) ?_
  suffices J : ∀ (e1 : Int) (f1 : Nat → Int), dgF z e f = f1 → e1 = (e : Int) - dn z → AtH G X 0 0 104 [(5, vI e1), (6, vI 0)] [] N (upH h j (arI (gA G 2) m f1)) by
    refine r_icmpge (tgt := 104) C dJ6_getChars_ba4f3_88 rfl ⟨by omega, by omega⟩ ⟨by omega, by omega⟩ (fun c => ?_) (fun c => ?_)
    · refine AtH.sw (J _ _ ?_ ?_) ⟨rfl, rfl, trivial⟩
      · unfold dgF
        rw [if_pos (by omega), show ((e : Int) + -1).toNat = e - 1 by omega, wB_id (by omega)]
      · rw [hd1 (by omega)]
        omega
    · refine r_aload_n C dJ6_getChars_ba4f3_91 rfl ?_
      refine r_iinc C dJ6_getChars_ba4f3_92 rfl (by rw [hx]; decide) ?_
      refine r_iload C dJ6_getChars_ba4f3_95 rfl ?_
      refine r_getsT C dJ6_getChars_ba4f3_97 fJ6_87 ?_
      refine r_iload_n C dJ6_getChars_ba4f3_100 rfl ?_
      refine r_ineg C dJ6_getChars_ba4f3_101 ?_
      refine r_top (show - -(z : Int) = (z : Int) by omega) ?_
      refine r_digT C dJ6_getChars_ba4f3_102 hz ?_
      refine r_bast (k := j) (n := m) C dJ6_getChars_ba4f3_103 hX.ad (by omega) (upH_e rfl) (by omega) (by omega) (by omega) ?_
      rw [upH_upH]
      refine AtH.sw (J _ _ ?_ ?_) ⟨rfl, rfl, trivial⟩
      · unfold dgF
        rw [if_neg (by omega), show ((e : Int) + -1).toNat = e - 1 by omega, show ((e : Int) + -1 + -1).toNat = e - 2 by omega, wB_id (by omega), wB_id (by omega)]
      · rw [hd2 (by omega)]
        omega
  intro e1 f1 ef ee
  refine r_iload C dJ6_getChars_ba4f3_104 rfl ?_
  refine r_ifeq (tgt := 118) C dJ6_getChars_ba4f3_106 rfl ⟨by omega, by omega⟩ (fun c => ?_) (fun c => False.elim (by omega))
  clear c
  refine r_iload C dJ6_getChars_ba4f3_118 rfl ?_
  exact r_iret C M dJ6_getChars_ba4f3_120 rfl (Nat.le_of_ble_eq_true rfl) (Nat.le_of_ble_eq_true rfl) ⟨by rw [ee], rfl, by rw [ef]⟩
