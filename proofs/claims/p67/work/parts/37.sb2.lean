/-! the builder: whole numbers; the text it makes -/
theorem sb_size {l : Launch} (hlt : l.stackTraces = false) {G : GT} {N : Nat} {h : HT} {z : Nat} (hz : z < 100) : EvH G l yJ6_stringSize_0f7a4 bJ6_stringSize_0f7a4 4 (some .int) 0 0 0 [vI (z : Int)] (N) h (Pu (some (vI (dn z : Int))) N h) noH := by
  refine ev_of hlt (by decide +kernel) (Nat.le_of_ble_eq_true rfl) (av1 rfl) (Or.inr trivial) (fun X hl hx C M => ?_)
  subst hl
  replace C : Cx G X "java/lang/Integer" bJ6_stringSize_0f7a4 := C
  have hR := M.room
  show AtH G X 0 0 0 [(0, vI (z : Int))] [] (N) h
  refine r_iconst C dJ6_stringSize_0f7a4_0 ?_
  refine r_istore_n C dJ6_stringSize_0f7a4_1 (by rw [hx]; decide) ?_
  refine r_iload_n C dJ6_stringSize_0f7a4_2 rfl ?_
  refine r_iflt (tgt := 11) C dJ6_stringSize_0f7a4_3 rfl ⟨by omega, by omega⟩ (fun c => False.elim (by omega)) (fun c => ?_)
  clear c
  refine r_iconst C dJ6_stringSize_0f7a4_6 ?_
  refine r_istore_n C dJ6_stringSize_0f7a4_7 (by rw [hx]; decide) ?_
  refine r_iload_n C dJ6_stringSize_0f7a4_8 rfl ?_
  refine r_ineg C dJ6_stringSize_0f7a4_9 ?_
  refine r_istore_n C dJ6_stringSize_0f7a4_10 (by rw [hx]; decide) ?_
  refine r_bipush C dJ6_stringSize_0f7a4_11 (by decide +kernel) ?_
  refine r_istore_n C dJ6_stringSize_0f7a4_13 (by rw [hx]; decide) ?_
  refine r_iconst C dJ6_stringSize_0f7a4_14 ?_
  refine r_istore_n C dJ6_stringSize_0f7a4_15 (by rw [hx]; decide) ?_
  refine r_iload_n C dJ6_stringSize_0f7a4_16 rfl ?_
  refine r_bipush C dJ6_stringSize_0f7a4_17 (by decide +kernel) ?_
  refine r_icmpge (tgt := 42) C dJ6_stringSize_0f7a4_19 rfl ⟨by omega, by omega⟩ ⟨by omega, by omega⟩ (fun c => False.elim (by omega)) (fun c => ?_)
  clear c
  refine r_iload_n C dJ6_stringSize_0f7a4_22 rfl ?_
  refine r_iload_n C dJ6_stringSize_0f7a4_23 rfl ?_
  refine r_icmple (tgt := 31) C dJ6_stringSize_0f7a4_24 rfl ⟨by omega, by omega⟩ ⟨by omega, by omega⟩ (fun c => ?_) (fun c => ?_)
  · refine r_bipush C dJ6_stringSize_0f7a4_31 (by decide +kernel) ?_
    refine r_iload_n C dJ6_stringSize_0f7a4_33 rfl ?_
    refine r_imul C dJ6_stringSize_0f7a4_34 ?_
    refine r_istore_n C dJ6_stringSize_0f7a4_35 (by rw [hx]; decide) ?_
    refine r_iinc C dJ6_stringSize_0f7a4_36 rfl (by rw [hx]; decide) ?_
    refine r_goto (tgt := 16) C dJ6_stringSize_0f7a4_39 rfl ?_
    refine r_iload_n C dJ6_stringSize_0f7a4_16 rfl ?_
    refine r_bipush C dJ6_stringSize_0f7a4_17 (by decide +kernel) ?_
    refine r_icmpge (tgt := 42) C dJ6_stringSize_0f7a4_19 rfl ⟨by omega, by omega⟩ ⟨by omega, by omega⟩ (fun c => False.elim (by omega)) (fun c => ?_)
    clear c
    refine r_iload_n C dJ6_stringSize_0f7a4_22 rfl ?_
    refine r_iload_n C dJ6_stringSize_0f7a4_23 rfl ?_
    refine r_icmple (tgt := 31) C dJ6_stringSize_0f7a4_24 rfl ⟨by omega, by omega⟩ ⟨by omega, by omega⟩ (fun c => False.elim (by omega)) (fun c => ?_)
    clear c
    refine r_iload_n C dJ6_stringSize_0f7a4_27 rfl ?_
    refine r_iload_n C dJ6_stringSize_0f7a4_28 rfl ?_
    refine r_iadd C dJ6_stringSize_0f7a4_29 ?_
    exact r_iret C M dJ6_stringSize_0f7a4_30 rfl (Nat.le_of_ble_eq_true rfl) (Nat.le_of_ble_eq_true rfl) ⟨by unfold dn; rw [if_neg (by omega)]; rfl, rfl, rfl⟩
  · refine r_iload_n C dJ6_stringSize_0f7a4_27 rfl ?_
    refine r_iload_n C dJ6_stringSize_0f7a4_28 rfl ?_
    refine r_iadd C dJ6_stringSize_0f7a4_29 ?_
    exact r_iret C M dJ6_stringSize_0f7a4_30 rfl (Nat.le_of_ble_eq_true rfl) (Nat.le_of_ble_eq_true rfl) ⟨by unfold dn; rw [if_pos (by omega)]; rfl, rfl, rfl⟩
theorem sb_chars {l : Launch} (hlt : l.stackTraces = false) {G : GT} {N : Nat} {h : HT} {j m e z : Nat} {f : Nat → Int} (hX : gZ G) (hj : j < N) (hh : h j = arI (gA G 2) m f) (hz : z < 100) (he : dn z ≤ e ∧ e ≤ m ∧ m ≤ 400) : EvH G l yJ6_getChars_ba4f3 bJ6_getChars_ba4f3 7 (some .int) 0 0 0 [vI (z : Int), vI (e : Int), .ref (gB G + j)] (N) h (Pu (some (vI ((e : Int) - dn z))) N (upH h j (arI (gA G 2) m (dgF z e f)))) noH := by
  refine ev_of hlt (by decide +kernel) (Nat.le_of_ble_eq_true rfl) (av1 rfl) (Or.inr trivial) (fun X hl hx C M => ?_)
  subst hl
  replace C : Cx G X "java/lang/Integer" bJ6_getChars_ba4f3 := C
  have hR := M.room
  show AtH G X 0 0 0 [(0, vI (z : Int)), (1, vI (e : Int)), (2, .ref (gB G + j))] [] (N) h
  have hdn := dn_le z
  have hd1 : z < 10 → dn z = 1 := fun c => if_pos c
  have hd2 : ¬ z < 10 → dn z = 2 := fun c => if_neg c
  refine r_iload_n C dJ6_getChars_ba4f3_0 rfl ?_
  refine r_istore C dJ6_getChars_ba4f3_1 (by rw [hx]; decide) ?_
  refine r_iload_n C dJ6_getChars_ba4f3_3 rfl ?_
  refine r_ifge (tgt := 11) C dJ6_getChars_ba4f3_4 rfl ⟨by omega, by omega⟩ (fun c => ?_) (fun c => False.elim (by omega))
  clear c
  refine r_iconst C dJ6_getChars_ba4f3_11 ?_
  refine r_istore C dJ6_getChars_ba4f3_12 (by rw [hx]; decide) ?_
  refine r_iload C dJ6_getChars_ba4f3_14 rfl ?_
  refine r_ifne (tgt := 22) C dJ6_getChars_ba4f3_16 rfl ⟨by omega, by omega⟩ (fun c => False.elim (by omega)) (fun c => ?_)
  clear c
  refine r_iload_n C dJ6_getChars_ba4f3_19 rfl ?_
  refine r_ineg C dJ6_getChars_ba4f3_20 ?_
  refine r_istore_n C dJ6_getChars_ba4f3_21 (by rw [hx]; decide) ?_
  refine r_iload_n C dJ6_getChars_ba4f3_22 rfl ?_
  refine r_bipush C dJ6_getChars_ba4f3_23 (by decide +kernel) ?_
  refine r_icmpgt (tgt := 72) C dJ6_getChars_ba4f3_25 rfl ⟨by omega, by omega⟩ ⟨by omega, by omega⟩ (fun c => ?_) (fun c => False.elim (by omega))
  clear c
  refine r_aload_n C dJ6_getChars_ba4f3_72 rfl ?_
  refine r_iinc C dJ6_getChars_ba4f3_73 rfl (by rw [hx]; decide) ?_
  refine r_iload C dJ6_getChars_ba4f3_76 rfl ?_
  refine r_getsO C dJ6_getChars_ba4f3_78 fJ6_83 ?_
  refine r_iload_n C dJ6_getChars_ba4f3_81 rfl ?_
  refine r_ineg C dJ6_getChars_ba4f3_82 ?_
  refine r_top (show - -(z : Int) = (z : Int) by omega) ?_
  refine r_digO C dJ6_getChars_ba4f3_83 hz ?_
  refine r_bast (k := j) (n := m) (row := f) C dJ6_getChars_ba4f3_84 hX.ad hj hh (by omega) (by omega) (by omega) ?_
  refine r_iload_n C dJ6_getChars_ba4f3_85 rfl ?_
  refine r_bipush C dJ6_getChars_ba4f3_86 (by decide +kernel) ?_
  suffices J : ∀ (e1 : Int) (f1 : Nat → Int), dgF z e f = f1 → e1 = (e : Int) - dn z → AtH G X 0 0 104 [(5, vI e1), (6, vI 0)] [] N (upH h j (arI (gA G 2) m f1)) by
    refine r_icmpge (tgt := 104) C dJ6_getChars_ba4f3_88 rfl ⟨by omega, by omega⟩ ⟨by omega, by omega⟩ (fun c => ?_) (fun c => ?_)
    · refine AtH.sw (J _ _ ?_ ?_) ⟨rfl, rfl, trivial⟩
      · unfold dgF
        rw [if_pos (by omega), show ((e : Int) + -1).toNat = e - 1 by omega, wB_id (by omega)]
      · rw [hd1 (by omega)]
        omega
    · refine r_aload_n C dJ6_getChars_ba4f3_91 rfl ?_
      refine r_iinc C dJ6_getChars_ba4f3_92 rfl (by rw [hx]; decide) ?_
      refine r_iload C dJ6_getChars_ba4f3_95 rfl ?_
      refine r_getsT C dJ6_getChars_ba4f3_97 fJ6_87 ?_
      refine r_iload_n C dJ6_getChars_ba4f3_100 rfl ?_
      refine r_ineg C dJ6_getChars_ba4f3_101 ?_
      refine r_top (show - -(z : Int) = (z : Int) by omega) ?_
      refine r_digT C dJ6_getChars_ba4f3_102 hz ?_
      refine r_bast (k := j) (n := m) C dJ6_getChars_ba4f3_103 hX.ad (by omega) (upH_e rfl) (by omega) (by omega) (by omega) ?_
      rw [upH_upH]
      refine AtH.sw (J _ _ ?_ ?_) ⟨rfl, rfl, trivial⟩
      · unfold dgF
        rw [if_neg (by omega), show ((e : Int) + -1).toNat = e - 1 by omega, show ((e : Int) + -1 + -1).toNat = e - 2 by omega, wB_id (by omega), wB_id (by omega)]
      · rw [hd2 (by omega)]
        omega
  intro e1 f1 ef ee
  refine r_iload C dJ6_getChars_ba4f3_104 rfl ?_
  refine r_ifeq (tgt := 118) C dJ6_getChars_ba4f3_106 rfl ⟨by omega, by omega⟩ (fun c => ?_) (fun c => False.elim (by omega))
  clear c
  refine r_iload C dJ6_getChars_ba4f3_118 rfl ?_
  exact r_iret C M dJ6_getChars_ba4f3_120 rfl (Nat.le_of_ble_eq_true rfl) (Nat.le_of_ble_eq_true rfl) ⟨by rw [ee], rfl, by rw [ef]⟩
theorem dgF_fit {z e : Nat} {f : Nat → Int} (hz : z < 100) (h : ∀ i, 0 ≤ f i ∧ f i ≤ 127) (k : Nat) : 0 ≤ dgF z e f k ∧ dgF z e f k ≤ 127 := by
  have h1 := h k
  unfold dgF
  split <;> unfold updI <;> (repeat' split) <;> omega
theorem dgF_at {z c : Nat} {f : Nat → Int} {k : Nat} (hk : k < c + dn z) (L : List Int) (hL : L.length = c) (h : ∀ i, i < c → f i = L.getD i 0) : dgF z (c + dn z) f k = (L ++ dgL z).getD k 0 := by
  rw [getD_app, hL]
  unfold dn at hk ⊢
  unfold dgF dgL
  by_cases q : z < 10
  · rw [if_pos q, if_pos q, if_pos q]
    rw [if_pos q] at hk
    by_cases e : k < c
    · rw [if_pos e, updI_n (by omega), h k e]
    · obtain rfl : k = c := by omega
      rw [if_neg e, Nat.sub_self, show k + 1 - 1 = k by omega, updI_s]
      show ((48 + z % 10 : Nat) : Int) = ((48 + z : Nat) : Int)
      omega
  · rw [if_neg q, if_neg q, if_neg q]
    rw [if_neg q] at hk
    by_cases e : k < c
    · rw [if_pos e, updI_n (by omega), updI_n (by omega), h k e]
    · rw [if_neg e]
      by_cases e2 : k = c
      · subst e2
        rw [Nat.sub_self, show k + 2 - 2 = k by omega, updI_s]
        rfl
      · obtain rfl : k = c + 1 := by omega
        rw [updI_n (by omega), show c + 2 - 1 = c + 1 by omega, updI_s, show c + 1 - c = 1 by omega]
        rfl
theorem sb_appI {l : Launch} (hlt : l.stackTraces = false) {G : GT} {N : Nat} {h : HT} {L : List Int} (hX : gZ G) (S : Sb G N h L) {z : Nat} (hz : z < 100) (hL : L.length ≤ 153) : EvH G l yJ5_append_c97b9 bJ5_append_c97b9 4 (some (.object "java/lang/AbstractStringBuilder")) 5 1 400 [.ref (gB G + 0), vI (z : Int)] (N) h (PB G (some (.ref (gB G + 0))) N (L ++ dgL z)) noH := by
  refine ev_of hlt (by decide +kernel) (Nat.le_of_ble_eq_true rfl) (av1 rfl) (Or.inr trivial) (fun X hl hx C M => ?_)
  subst hl
  replace C : Cx G X "java/lang/AbstractStringBuilder" bJ5_append_c97b9 := C
  have hR := M.room
  show AtH G X 0 0 0 [(0, .ref (gB G + 0)), (1, vI (z : Int))] [] (N) h
  obtain ⟨j, m, f, ⟨s1, s2⟩, s3, s4, s5, s6, s7, s8⟩ := S
  have hdn := dn_le z
  refine r_aload_n C dJ5_append_c97b9_0 rfl ?_
  refine r_gf (k := 0) (sl := 3) (fs := sbF G (j) ((L.length : Int))) C dJ5_append_c97b9_1 hX.ad (by omega) (oSB (s3)) oi7 (by omega) fJ5_79 rfl ?_
  refine r_istore_n C dJ5_append_c97b9_4 (by rw [hx]; decide) ?_
  refine r_iload_n C dJ5_append_c97b9_5 rfl ?_
  refine r_iload_n C dJ5_append_c97b9_6 rfl ?_
  refine r_callS C M dJ5_append_c97b9_7 lJ5_245 wJ6_stringSize_0f7a4 (sb_size C.lt hz) rfl rfl (Nat.le_of_ble_eq_true rfl) (Nat.le_of_ble_eq_true rfl) (Nat.le_of_ble_eq_true rfl) (Nat.le_of_ble_eq_true rfl) (Nat.le_of_ble_eq_true rfl) (fun E N9 h9 q => q.elim) (fun v N9 h9 q => ?_)
  obtain ⟨rfl, rfl, rfl⟩ := q
  refine r_iadd C dJ5_append_c97b9_10 ?_
  refine r_istore_n C dJ5_append_c97b9_11 (by rw [hx]; decide) ?_
  refine r_aload_n C dJ5_append_c97b9_12 rfl ?_
  refine r_iload_n C dJ5_append_c97b9_13 rfl ?_
  refine r_callU (kk0 := 0) (As := [vI ((L.length : Int) + (dn z : Int))]) C hR dJ5_append_c97b9_14 lJ5_100 uJ5_ensureCapacityInternal_d00df (sb_ensure C.lt hX ⟨⟨s1, s2⟩, s3, s4, s5, s6, s7, s8⟩ (q := (L.length : Int) + (dn z : Int)) (by omega)) hX.ad (by omega) (oSB (s3)) rfl rfl rfl (Nat.le_of_ble_eq_true rfl) (Nat.le_of_ble_eq_true rfl) (Nat.le_of_ble_eq_true rfl) (Nat.le_of_ble_eq_true rfl) (Nat.le_of_ble_eq_true rfl) (fun v N9 h9 q => ?_)
  obtain ⟨rfl, hN1, j1, m1, f1, ⟨⟨t1, t2⟩, t3, t4, t5, t6, t7, t8⟩, t9⟩ := q
  refine r_aload_n C dJ5_append_c97b9_17 rfl ?_
  refine r_callU (kk0 := 0) (As := []) C hR dJ5_append_c97b9_18 lJ5_83 uJ5_isLatin1_aae02 (sb_isLatin1 C.lt hX ⟨⟨t1, t2⟩, t3, t4, t5, t6, t7, t8⟩) hX.ad (by omega) (oSB (t3)) rfl rfl rfl (Nat.le_of_ble_eq_true rfl) (Nat.le_of_ble_eq_true rfl) (Nat.le_of_ble_eq_true rfl) (Nat.le_of_ble_eq_true rfl) (Nat.le_of_ble_eq_true rfl) (fun v N9 h9 q => ?_)
  obtain ⟨rfl, rfl, rfl⟩ := q
  refine r_ifeq (tgt := 37) C dJ5_append_c97b9_21 rfl ⟨by omega, by omega⟩ (fun c => False.elim (by omega)) (fun c => ?_)
  clear c
  refine r_iload_n C dJ5_append_c97b9_24 rfl ?_
  refine r_iload_n C dJ5_append_c97b9_25 rfl ?_
  refine r_aload_n C dJ5_append_c97b9_26 rfl ?_
  refine r_gf (k := 0) (sl := 0) (fs := sbF G (j1) ((L.length : Int))) C dJ5_append_c97b9_27 hX.ad (by omega) (oSB (t3)) oi7 (by omega) fJ5_15 rfl ?_
  rw [← Int.natCast_add]
  refine r_callS C M dJ5_append_c97b9_30 lJ5_248 wJ6_getChars_ba4f3 (sb_chars C.lt hX t2 t4 hz (e := L.length + dn z) (by omega)) rfl rfl (Nat.le_of_ble_eq_true rfl) (Nat.le_of_ble_eq_true rfl) (Nat.le_of_ble_eq_true rfl) (Nat.le_of_ble_eq_true rfl) (Nat.le_of_ble_eq_true rfl) (fun E N9 h9 q => q.elim) (fun v N9 h9 q => ?_)
  obtain ⟨rfl, rfl, rfl⟩ := q
  refine r_pop C dJ5_append_c97b9_33 rfl ?_
  refine r_goto (tgt := 48) C dJ5_append_c97b9_34 rfl ?_
  refine r_aload_n C dJ5_append_c97b9_48 rfl ?_
  refine r_iload_n C dJ5_append_c97b9_49 rfl ?_
  refine r_pf (k := 0) (sl := 3) (fs := sbF G (j1) ((L.length : Int))) (ty := .int) C dJ5_append_c97b9_50 hX.ad (by omega) (oSB ((upH_n (by omega)).trans t3)) oi7 (by omega) fJ5_79 rfl td_I rfl rfl (Nat.le_of_ble_eq_true rfl) ?_
  refine r_aload_n C dJ5_append_c97b9_53 rfl ?_
  refine r_aret C M dJ5_append_c97b9_54 (Or.inl ⟨_, rfl⟩) (Nat.le_of_ble_eq_true rfl) (Nat.le_of_ble_eq_true rfl) ⟨rfl, hN1, j1, m1, dgF z (L.length + dn z) f1, ⟨t1, t2⟩, (upH_e rfl).trans (by rw [List.length_append, dgL_len]; rfl), (upH_n (by omega)).trans (upH_e rfl), by rw [List.length_append, dgL_len]; omega, t6, fun k => dgF_fit hz t7 k, fun k hk => ?_⟩
  rw [List.length_append, dgL_len] at hk
  exact dgF_at hk L rfl t8
theorem sb_appendI {l : Launch} (hlt : l.stackTraces = false) {G : GT} {N : Nat} {h : HT} {L : List Int} (hX : gZ G) (S : Sb G N h L) {z : Nat} (hz : z < 100) (hL : L.length ≤ 153) : EvH G l yJ4_append_bf812 bJ4_append_bf812 2 (some (.object "java/lang/StringBuilder")) 6 1 400 [.ref (gB G + 0), vI (z : Int)] (N) h (PB G (some (.ref (gB G + 0))) N (L ++ dgL z)) noH := by
  refine ev_of hlt (by decide +kernel) (Nat.le_of_ble_eq_true rfl) (av1 rfl) (Or.inr trivial) (fun X hl hx C M => ?_)
  subst hl
  replace C : Cx G X "java/lang/StringBuilder" bJ4_append_bf812 := C
  have hR := M.room
  show AtH G X 0 0 0 [(0, .ref (gB G + 0)), (1, vI (z : Int))] [] (N) h
  have S0 := S
  obtain ⟨j, m, f, ⟨s1, s2⟩, s3, s4, s5, s6, s7, s8⟩ := S
  refine r_aload_n C dJ4_append_bf812_0 rfl ?_
  refine r_iload_n C dJ4_append_bf812_1 rfl ?_
  refine r_callSU (kk0 := 0) (As := [vI (z : Int)]) C hR dJ4_append_bf812_2 lJ4_53 pJ5_append_c97b9 (sb_appI C.lt hX S0 hz hL) hX.ad (by omega) (oSB (s3)) rfl rfl rfl (Nat.le_of_ble_eq_true rfl) (Nat.le_of_ble_eq_true rfl) (Nat.le_of_ble_eq_true rfl) (Nat.le_of_ble_eq_true rfl) (Nat.le_of_ble_eq_true rfl) (fun v N9 h9 q => ?_)
  obtain ⟨rfl, hN1, S1⟩ := q
  refine r_pop C dJ4_append_bf812_5 rfl ?_
  refine r_aload_n C dJ4_append_bf812_6 rfl ?_
  exact r_aret C M dJ4_append_bf812_7 (Or.inl ⟨_, rfl⟩) (Nat.le_of_ble_eq_true rfl) (Nat.le_of_ble_eq_true rfl) ⟨rfl, hN1, S1⟩
theorem sb_getValue {l : Launch} (hlt : l.stackTraces = false) {G : GT} {N : Nat} {h : HT} {L : List Int} {j m : Nat} {f : Nat → Int} (hX : gZ G) (S : SbC G N h L j m f) : EvH G l yJ5_getValue_6d5f1 bJ5_getValue_6d5f1 1 (some (.array .byte)) 0 0 0 [.ref (gB G + 0)] (N) h (Pu (some (.ref (gB G + j))) N h) noH := by
  refine ev_of hlt (by decide +kernel) (Nat.le_of_ble_eq_true rfl) (av1 rfl) (Or.inr trivial) (fun X hl hx C M => ?_)
  subst hl
  replace C : Cx G X "java/lang/AbstractStringBuilder" bJ5_getValue_6d5f1 := C
  have hR := M.room
  show AtH G X 0 0 0 [(0, .ref (gB G + 0))] [] (N) h
  obtain ⟨⟨s1, s2⟩, s3, s4, s5, s6, s7, s8⟩ := S
  refine r_aload_n C dJ5_getValue_6d5f1_0 rfl ?_
  refine r_gf (k := 0) (sl := 0) (fs := sbF G (j) ((L.length : Int))) C dJ5_getValue_6d5f1_1 hX.ad (by omega) (oSB (s3)) oi7 (by omega) fJ5_15 rfl ?_
  exact r_aret C M dJ5_getValue_6d5f1_4 (Or.inr ⟨_, rfl⟩) (Nat.le_of_ble_eq_true rfl) (Nat.le_of_ble_eq_true rfl) ⟨rfl, rfl, rfl⟩
theorem sb_len5 {l : Launch} (hlt : l.stackTraces = false) {G : GT} {N : Nat} {h : HT} {L : List Int} {j m : Nat} {f : Nat → Int} (hX : gZ G) (S : SbC G N h L j m f) : EvH G l yJ5_length_8abf5 bJ5_length_8abf5 1 (some .int) 0 0 0 [.ref (gB G + 0)] (N) h (Pu (some (vI (L.length : Int))) N h) noH := by
  refine ev_of hlt (by decide +kernel) (Nat.le_of_ble_eq_true rfl) (av1 rfl) (Or.inr trivial) (fun X hl hx C M => ?_)
  subst hl
  replace C : Cx G X "java/lang/AbstractStringBuilder" bJ5_length_8abf5 := C
  have hR := M.room
  show AtH G X 0 0 0 [(0, .ref (gB G + 0))] [] (N) h
  obtain ⟨⟨s1, s2⟩, s3, s4, s5, s6, s7, s8⟩ := S
  refine r_aload_n C dJ5_length_8abf5_0 rfl ?_
  refine r_gf (k := 0) (sl := 3) (fs := sbF G (j) ((L.length : Int))) C dJ5_length_8abf5_1 hX.ad (by omega) (oSB (s3)) oi7 (by omega) fJ5_79 rfl ?_
  exact r_iret C M dJ5_length_8abf5_4 rfl (Nat.le_of_ble_eq_true rfl) (Nat.le_of_ble_eq_true rfl) ⟨rfl, rfl, rfl⟩
theorem sb_len4 {l : Launch} (hlt : l.stackTraces = false) {G : GT} {N : Nat} {h : HT} {L : List Int} {j m : Nat} {f : Nat → Int} (hX : gZ G) (S : SbC G N h L j m f) : EvH G l yJ4_length_8abf5 bJ4_length_8abf5 1 (some .int) 1 0 0 [.ref (gB G + 0)] (N) h (Pu (some (vI (L.length : Int))) N h) noH := by
  refine ev_of hlt (by decide +kernel) (Nat.le_of_ble_eq_true rfl) (av1 rfl) (Or.inr trivial) (fun X hl hx C M => ?_)
  subst hl
  replace C : Cx G X "java/lang/StringBuilder" bJ4_length_8abf5 := C
  have hR := M.room
  show AtH G X 0 0 0 [(0, .ref (gB G + 0))] [] (N) h
  have S0 := S
  obtain ⟨⟨s1, s2⟩, s3, s4, s5, s6, s7, s8⟩ := S
  refine r_aload_n C dJ4_length_8abf5_0 rfl ?_
  refine r_callSU (kk0 := 0) (As := []) C hR dJ4_length_8abf5_1 lJ4_343 pJ5_length_8abf5 (sb_len5 C.lt hX S0) hX.ad (by omega) (oSB (s3)) rfl rfl rfl (Nat.le_of_ble_eq_true rfl) (Nat.le_of_ble_eq_true rfl) (Nat.le_of_ble_eq_true rfl) (Nat.le_of_ble_eq_true rfl) (Nat.le_of_ble_eq_true rfl) (fun v N9 h9 q => ?_)
  obtain ⟨rfl, rfl, rfl⟩ := q
  exact r_iret C M dJ4_length_8abf5_4 rfl (Nat.le_of_ble_eq_true rfl) (Nat.le_of_ble_eq_true rfl) ⟨rfl, rfl, rfl⟩
theorem sb_chkLen {l : Launch} (hlt : l.stackTraces = false) {G : GT} {N : Nat} {h : HT} {c : Nat} (hc : c ≤ 400) : EvH G l yJ7_checkLength_df160 bJ7_checkLength_df160 2 none 0 0 0 [vI 0, vI (c : Int)] (N) h (Pu none N h) noH := by
  refine ev_of hlt (by decide +kernel) (Nat.le_of_ble_eq_true rfl) (av1 rfl) (Or.inr trivial) (fun X hl hx C M => ?_)
  subst hl
  replace C : Cx G X "java/util/Arrays" bJ7_checkLength_df160 := C
  have hR := M.room
  show AtH G X 0 0 0 [(0, vI 0), (1, vI (c : Int))] [] (N) h
  refine r_iload_n C dJ7_checkLength_df160_0 rfl ?_
  refine r_iload_n C dJ7_checkLength_df160_1 rfl ?_
  refine r_icmpge (tgt := 37) C dJ7_checkLength_df160_2 rfl ⟨by omega, by omega⟩ ⟨by omega, by omega⟩ (fun c => ?_) (fun c => False.elim (by omega))
  clear c
  exact r_vret C M dJ7_checkLength_df160_37 (Nat.le_of_ble_eq_true rfl) (Nat.le_of_ble_eq_true rfl) ⟨rfl, rfl, rfl⟩
theorem sb_rangeB {l : Launch} (hlt : l.stackTraces = false) {G : GT} {N : Nat} {h : HT} {j m c : Nat} {f : Nat → Int} (hX : gZ G) (hj : j < N) (hh : h j = arI (gA G 2) m f) (hf : ∀ i, 0 ≤ f i ∧ f i ≤ 127) (hc : c ≤ m ∧ m ≤ 400) : EvH G l yJ7_copyOfRangeByte_39247 bJ7_copyOfRangeByte_39247 5 (some (.array .byte)) 2 1 400 [.ref (gB G + j), vI 0, vI (c : Int)] (N) h (Pu (some (.ref (gB G + N))) (N + 1) (upH h N (arI (gA G 2) c (cpI f (fun _ => 0) 0 c)))) noH := by
  refine ev_of hlt (by decide +kernel) (Nat.le_of_ble_eq_true rfl) (av1 rfl) (Or.inr trivial) (fun X hl hx C M => ?_)
  subst hl
  replace C : Cx G X "java/util/Arrays" bJ7_copyOfRangeByte_39247 := C
  have hR := M.room
  show AtH G X 0 0 0 [(0, .ref (gB G + j)), (1, vI 0), (2, vI (c : Int))] [] (N) h
  refine r_iload_n C dJ7_copyOfRangeByte_39247_0 rfl ?_
  refine r_iload_n C dJ7_copyOfRangeByte_39247_1 rfl ?_
  refine r_callS C M dJ7_copyOfRangeByte_39247_2 lJ7_343 wJ7_checkLength_df160 (sb_chkLen C.lt (c := c) (by omega)) rfl rfl (Nat.le_of_ble_eq_true rfl) (Nat.le_of_ble_eq_true rfl) (Nat.le_of_ble_eq_true rfl) (Nat.le_of_ble_eq_true rfl) (Nat.le_of_ble_eq_true rfl) (fun E N9 h9 q => q.elim) (fun v N9 h9 q => ?_)
  obtain ⟨rfl, rfl, rfl⟩ := q
  refine r_iload_n C dJ7_copyOfRangeByte_39247_5 rfl ?_
  refine r_iload_n C dJ7_copyOfRangeByte_39247_6 rfl ?_
  refine r_isub C dJ7_copyOfRangeByte_39247_7 ?_
  refine r_top (show (c : Int) - 0 = (c : Int) by omega) ?_
  refine r_istore_n C dJ7_copyOfRangeByte_39247_8 (by rw [hx]; decide) ?_
  refine r_iload_n C dJ7_copyOfRangeByte_39247_9 rfl ?_
  refine r_newB (n := c) hX C hR dJ7_copyOfRangeByte_39247_10 (nn_neg (by omega)) (nn_clamp (by omega)) (by omega) (Nat.le_of_ble_eq_true rfl) (by show 0 + c ≤ 400; omega) ?_
  refine r_astore C dJ7_copyOfRangeByte_39247_12 (by rw [hx]; decide) ?_
  refine r_aload_n C dJ7_copyOfRangeByte_39247_14 rfl ?_
  refine r_iload_n C dJ7_copyOfRangeByte_39247_15 rfl ?_
  refine r_aload C dJ7_copyOfRangeByte_39247_16 rfl ?_
  refine r_iconst C dJ7_copyOfRangeByte_39247_18 ?_
  refine r_aload_n C dJ7_copyOfRangeByte_39247_19 rfl ?_
  refine r_alen2 (k := j) C dJ7_copyOfRangeByte_39247_20 hX.ad (by omega) ((upH_n (by omega)).trans hh) ?_
  refine r_iload_n C dJ7_copyOfRangeByte_39247_21 rfl ?_
  refine r_isub C dJ7_copyOfRangeByte_39247_22 ?_
  refine r_iload_n C dJ7_copyOfRangeByte_39247_23 rfl ?_
  refine r_mmin C hR dJ7_copyOfRangeByte_39247_24 lJ7_304 ⟨by omega, by omega⟩ ⟨by omega, by omega⟩ (Nat.le_of_ble_eq_true rfl) (Nat.le_of_ble_eq_true rfl) (Nat.le_of_ble_eq_true rfl) (Nat.le_of_ble_eq_true rfl) (by show 0 + _ ≤ 400; omega) ?_
  refine r_top (show min ((m : Int) - 0) (c : Int) = (c : Int) by omega) ?_
  refine r_copy (k1 := N) (nS := m) (n1 := c) (n := c) (dp := 0) (f := f) (g := fun _ => 0) C hR dJ7_copyOfRangeByte_39247_27 lJ7_150 (hX.ad (k := j) ▸ SrcB.world C (by omega) ((upH_n (by omega)).trans hh)) hX.ad (by omega) (upH_e rfl) (by omega) (by omega) (by omega) (fun i _ => ⟨by have := hf i; omega, by have := hf i; omega⟩) (Nat.le_of_ble_eq_true rfl) (Nat.le_of_ble_eq_true rfl) (Nat.le_of_ble_eq_true rfl) ?_
  refine r_aload C dJ7_copyOfRangeByte_39247_30 rfl ?_
  exact r_aret C M dJ7_copyOfRangeByte_39247_32 (Or.inr ⟨_, rfl⟩) (Nat.le_of_ble_eq_true rfl) (by show 0 + c ≤ 400; omega) ⟨rfl, rfl, upH_upH.symm⟩
theorem sb_range {l : Launch} (hlt : l.stackTraces = false) {G : GT} {N : Nat} {h : HT} {j m c : Nat} {f : Nat → Int} (hX : gZ G) (hj : j < N) (hh : h j = arI (gA G 2) m f) (hf : ∀ i, 0 ≤ f i ∧ f i ≤ 127) (hc : c ≤ m ∧ m ≤ 400) : EvH G l yJ7_copyOfRange_39247 bJ7_copyOfRange_39247 3 (some (.array .byte)) 3 1 400 [.ref (gB G + j), vI 0, vI (c : Int)] (N) h (fun v N1 h1 => some (.ref (gB G + N)) = v ∧ N + 1 = N1 ∧ ∃ g : Nat → Int, (∀ i, i < c → g i = f i) ∧ upH h N (arI (gA G 2) c g) = h1) noH := by
  refine ev_of hlt (by decide +kernel) (Nat.le_of_ble_eq_true rfl) (av1 rfl) (Or.inr trivial) (fun X hl hx C M => ?_)
  subst hl
  replace C : Cx G X "java/util/Arrays" bJ7_copyOfRange_39247 := C
  have hR := M.room
  show AtH G X 0 0 0 [(0, .ref (gB G + j)), (1, vI 0), (2, vI (c : Int))] [] (N) h
  refine r_iload_n C dJ7_copyOfRange_39247_0 rfl ?_
  refine r_ifne (tgt := 10) C dJ7_copyOfRange_39247_1 rfl ⟨by omega, by omega⟩ (fun c => False.elim (by omega)) (fun c => ?_)
  clear c
  refine r_iload_n C dJ7_copyOfRange_39247_4 rfl ?_
  refine r_aload_n C dJ7_copyOfRange_39247_5 rfl ?_
  refine r_alen2 (k := j) C dJ7_copyOfRange_39247_6 hX.ad (by omega) hh ?_
  refine r_icmpeq (tgt := 17) C dJ7_copyOfRange_39247_7 rfl ⟨by omega, by omega⟩ ⟨by omega, by omega⟩ (fun e => ?_) (fun e => ?_)
  · refine r_aload_n C dJ7_copyOfRange_39247_17 rfl ?_
    refine r_clone (k := j) (n := m) hX C hR dJ7_copyOfRange_39247_18 lJ7_310 hX.ad hj hh (fun i _ => ⟨by have := hf i; omega, by have := hf i; omega⟩) (Nat.le_of_ble_eq_true rfl) (Nat.le_of_ble_eq_true rfl) (Nat.le_of_ble_eq_true rfl) (Nat.le_of_ble_eq_true rfl) (by show 0 + m ≤ 400; omega) ?_
    refine r_castB (k := N) (n := m) (f := f) C dJ7_copyOfRange_39247_21 wcJ7_311 hX.ad (by omega) (upH_e rfl) ?_
    exact r_aret C M dJ7_copyOfRange_39247_24 (Or.inr ⟨_, rfl⟩) (Nat.le_of_ble_eq_true rfl) (by show 0 + m ≤ 400; omega) ⟨rfl, rfl, f, fun _ _ => rfl, by rw [show c = m by omega]⟩
  · refine r_aload_n C dJ7_copyOfRange_39247_10 rfl ?_
    refine r_iload_n C dJ7_copyOfRange_39247_11 rfl ?_
    refine r_iload_n C dJ7_copyOfRange_39247_12 rfl ?_
    refine r_callS C M dJ7_copyOfRange_39247_13 lJ7_339 wJ7_copyOfRangeByte_39247 (sb_rangeB C.lt hX hj hh hf hc) rfl rfl (Nat.le_of_ble_eq_true rfl) (Nat.le_of_ble_eq_true rfl) (Nat.le_of_ble_eq_true rfl) (Nat.le_of_ble_eq_true rfl) (Nat.le_of_ble_eq_true rfl) (fun E N9 h9 q => q.elim) (fun v N9 h9 q => ?_)
    obtain ⟨rfl, rfl, rfl⟩ := q
    exact r_aret C M dJ7_copyOfRange_39247_16 (Or.inr ⟨_, rfl⟩) (Nat.le_of_ble_eq_true rfl) (Nat.le_of_ble_eq_true rfl) ⟨rfl, rfl, _, fun i hi => (cpI_in (by omega)).trans (by rw [Nat.sub_zero]), rfl⟩
theorem sb_strA {l : Launch} (hlt : l.stackTraces = false) {G : GT} {N : Nat} {h : HT} {L : List Int} {j m k : Nat} {f : Nat → Int} (hX : gZ G) (S : SbC G N h L j m f) (hk : 0 < k ∧ k < N ∧ k ≠ j) (hkk : h k = .inr (8, [.null, vI 0, vI 0, vI 0])) : EvC G l yJ0_init_db425 bJ0_init_db425 5 4 1 400 [.ref (gB G + k), .ref (gB G + 0), .null] (N) h (fun v N1 h1 => none = v ∧ N + 1 = N1 ∧ h1 k = .inr (8, [.ref (gB G + N), vI 0, vI 0, vI 0]) ∧ ∃ g : Nat → Int, (∀ i, i < L.length → g i = L.getD i 0) ∧ h1 N = arI (gA G 2) L.length g) noH := by
  refine evc_of hlt (by decide +kernel) rfl (Nat.le_of_ble_eq_true rfl) (av1 rfl) (fun X hl hx C M hnm => ?_)
  subst hl
  replace C : Cx G X "java/lang/String" bJ0_init_db425 := C
  have hR := M.room
  show AtH G X 0 0 0 [(0, .ref (gB G + k)), (1, .ref (gB G + 0)), (2, .null)] [] (N) h
  have S0 := S
  obtain ⟨⟨s1, s2⟩, s3, s4, s5, s6, s7, s8⟩ := S
  refine r_aload_n C dJ0_init_db425_0 rfl ?_
  refine r_objInit C hR dJ0_init_db425_1 lJ0_1 (Nat.le_of_ble_eq_true rfl) (Nat.le_of_ble_eq_true rfl) (Nat.le_of_ble_eq_true rfl) ?_
  refine r_aload_n C dJ0_init_db425_4 rfl ?_
  refine r_callU (kk0 := 0) (As := []) C hR dJ0_init_db425_5 lJ0_552 uJ5_getValue_6d5f1 (sb_getValue C.lt hX S0) hX.ad (by omega) (oSB (s3)) rfl rfl rfl (Nat.le_of_ble_eq_true rfl) (Nat.le_of_ble_eq_true rfl) (Nat.le_of_ble_eq_true rfl) (Nat.le_of_ble_eq_true rfl) (Nat.le_of_ble_eq_true rfl) (fun v N9 h9 q => ?_)
  obtain ⟨rfl, rfl, rfl⟩ := q
  refine r_astore_n C dJ0_init_db425_8 (by rw [hx]; decide) ?_
  refine r_aload_n C dJ0_init_db425_9 rfl ?_
  refine r_callU (kk0 := 0) (As := []) C hR dJ0_init_db425_10 lJ0_549 uJ4_length_8abf5 (sb_len4 C.lt hX S0) hX.ad (by omega) (oSB (s3)) rfl rfl rfl (Nat.le_of_ble_eq_true rfl) (Nat.le_of_ble_eq_true rfl) (Nat.le_of_ble_eq_true rfl) (Nat.le_of_ble_eq_true rfl) (Nat.le_of_ble_eq_true rfl) (fun v N9 h9 q => ?_)
  obtain ⟨rfl, rfl, rfl⟩ := q
  refine r_istore C dJ0_init_db425_13 (by rw [hx]; decide) ?_
  refine r_aload_n C dJ0_init_db425_15 rfl ?_
  refine r_callU (kk0 := 0) (As := []) C hR dJ0_init_db425_16 lJ0_1047 uJ5_isLatin1_aae02 (sb_isLatin1 C.lt hX S0) hX.ad (by omega) (oSB (s3)) rfl rfl rfl (Nat.le_of_ble_eq_true rfl) (Nat.le_of_ble_eq_true rfl) (Nat.le_of_ble_eq_true rfl) (Nat.le_of_ble_eq_true rfl) (Nat.le_of_ble_eq_true rfl) (fun v N9 h9 q => ?_)
  obtain ⟨rfl, rfl, rfl⟩ := q
  refine r_ifeq (tgt := 41) C dJ0_init_db425_19 rfl ⟨by omega, by omega⟩ (fun c => False.elim (by omega)) (fun c => ?_)
  clear c
  refine r_aload_n C dJ0_init_db425_22 rfl ?_
  refine r_iconst C dJ0_init_db425_23 ?_
  refine r_pfF (k := k) (sl := 1) (fs := [.null, vI 0, vI 0, vI 0]) (ty := .byte) C hnm dJ0_init_db425_24 hX.ad (by omega) hkk oi8 (by omega) fJ0_15 rfl rfl td_B rfl rfl (Nat.le_of_ble_eq_true rfl) ?_
  refine r_aload_n C dJ0_init_db425_27 rfl ?_
  refine r_aload_n C dJ0_init_db425_28 rfl ?_
  refine r_iconst C dJ0_init_db425_29 ?_
  refine r_iload C dJ0_init_db425_30 rfl ?_
  refine r_callS C M dJ0_init_db425_32 lJ0_54 wJ7_copyOfRange_39247 (sb_range C.lt hX s2 ((upH_n (by omega)).trans s4) s7 (c := L.length) ⟨s5, s6⟩) rfl rfl (Nat.le_of_ble_eq_true rfl) (Nat.le_of_ble_eq_true rfl) (Nat.le_of_ble_eq_true rfl) (Nat.le_of_ble_eq_true rfl) (Nat.le_of_ble_eq_true rfl) (fun E N9 h9 q => q.elim) (fun v N9 h9 q => ?_)
  obtain ⟨rfl, rfl, g, hg, rfl⟩ := q
  refine r_pfF (k := k) (sl := 0) (fs := [.null, vI 0, vI 0, vI 0].set 1 (vI 0)) (ty := (.array .byte)) C hnm dJ0_init_db425_35 hX.ad (by omega) ((upH_n (by omega)).trans (upH_e rfl)) oi8 (by omega) fJ0_9 rfl rfl td_aB rfl rfl (Nat.le_of_ble_eq_true rfl) ?_
  refine r_goto (tgt := 97) C dJ0_init_db425_38 rfl ?_
  exact r_vret C M dJ0_init_db425_97 (Nat.le_of_ble_eq_true rfl) (Nat.le_of_ble_eq_true rfl) ⟨rfl, rfl, upH_e rfl, g, fun i hi => (hg i hi).trans (s8 i hi), (upH_n (by omega)).trans (upH_e rfl)⟩
theorem sb_strB {l : Launch} (hlt : l.stackTraces = false) {G : GT} {N : Nat} {h : HT} {L : List Int} {j m k : Nat} {f : Nat → Int} (hX : gZ G) (S : SbC G N h L j m f) (hk : 0 < k ∧ k < N ∧ k ≠ j) (hkk : h k = .inr (8, [.null, vI 0, vI 0, vI 0])) : EvC G l yJ0_init_81219 bJ0_init_81219 2 5 1 400 [.ref (gB G + k), .ref (gB G + 0)] (N) h (fun v N1 h1 => none = v ∧ N + 1 = N1 ∧ h1 k = .inr (8, [.ref (gB G + N), vI 0, vI 0, vI 0]) ∧ ∃ g : Nat → Int, (∀ i, i < L.length → g i = L.getD i 0) ∧ h1 N = arI (gA G 2) L.length g) noH := by
  refine evc_of hlt (by decide +kernel) rfl (Nat.le_of_ble_eq_true rfl) (av1 rfl) (fun X hl hx C M hnm => ?_)
  subst hl
  replace C : Cx G X "java/lang/String" bJ0_init_81219 := C
  have hR := M.room
  show AtH G X 0 0 0 [(0, .ref (gB G + k)), (1, .ref (gB G + 0))] [] (N) h
  refine r_aload_n C dJ0_init_81219_0 rfl ?_
  refine r_aload_n C dJ0_init_81219_1 rfl ?_
  refine r_null C dJ0_init_81219_2 ?_
  refine q_callI (As := [.ref (gB G + 0), .null]) C hR dJ0_init_81219_3 lJ0_489 wJ0_init_db425 (sb_strA C.lt hX S hk hkk) rfl rfl (Nat.le_of_ble_eq_true rfl) (Nat.le_of_ble_eq_true rfl) (Nat.le_of_ble_eq_true rfl) (Nat.le_of_ble_eq_true rfl) (Nat.le_of_ble_eq_true rfl) (fun E N9 h9 q => q.elim) (fun v N9 h9 q => ?_)
  obtain ⟨rfl, q2, q3⟩ := q
  exact r_vret C M dJ0_init_81219_6 (Nat.le_of_ble_eq_true rfl) (Nat.le_of_ble_eq_true rfl) ⟨rfl, q2, q3⟩
theorem sb_toString {l : Launch} (hlt : l.stackTraces = false) {G : GT} {N : Nat} {h : HT} {L : List Int} (hX : gZ G) (S : Sb G N h L) : EvH G l yJ4_toString_0e30d bJ4_toString_0e30d 1 (some (.object "java/lang/String")) 6 2 404 [.ref (gB G + 0)] (N) h (fun v N1 h1 => ∃ k : Nat, some (.ref (gB G + k)) = v ∧ k + 1 < N1 ∧ h1 k = .inr (8, [.ref (gB G + (k + 1)), vI 0, vI 0, vI 0]) ∧ ∃ g : Nat → Int, (∀ i, i < L.length → g i = L.getD i 0) ∧ h1 (k + 1) = arI (gA G 2) L.length g) noH := by
  refine ev_of hlt (by decide +kernel) (Nat.le_of_ble_eq_true rfl) (av1 rfl) (Or.inr trivial) (fun X hl hx C M => ?_)
  subst hl
  replace C : Cx G X "java/lang/StringBuilder" bJ4_toString_0e30d := C
  have hR := M.room
  show AtH G X 0 0 0 [(0, .ref (gB G + 0))] [] (N) h
  obtain ⟨j, m, f, ⟨s1, s2⟩, s3, s4, s5, s6, s7, s8⟩ := S
  refine r_new (ci := 8) hX C hR dJ4_toString_0e30d_0 oi8 wcJ4_18 wn8 wi_String df8 (Nat.le_of_ble_eq_true rfl) (Nat.le_of_ble_eq_true rfl) ?_
  refine r_dup C dJ4_toString_0e30d_3 rfl ?_
  refine r_aload_n C dJ4_toString_0e30d_4 rfl ?_
  have S1 : SbC G (N + 1) (upH h N (.inr (8, [.null, vI 0, vI 0, vI 0]))) L j m f := ⟨⟨s1, by omega⟩, (upH_n (by omega)).trans s3, (upH_n (by omega)).trans s4, s5, s6, s7, s8⟩
  refine q_callI (As := [.ref (gB G + 0)]) C hR dJ4_toString_0e30d_5 lJ4_137 wJ0_init_81219 (sb_strB C.lt hX S1 (k := N) ⟨by omega, by omega, by omega⟩ (upH_e rfl)) rfl rfl (Nat.le_of_ble_eq_true rfl) (Nat.le_of_ble_eq_true rfl) (Nat.le_of_ble_eq_true rfl) (Nat.le_of_ble_eq_true rfl) (Nat.le_of_ble_eq_true rfl) (fun E N9 h9 q => q.elim) (fun v N9 h9 q => ?_)
  obtain ⟨rfl, rfl, q3, q4⟩ := q
  exact r_aret C M dJ4_toString_0e30d_8 (Or.inl ⟨_, rfl⟩) (Nat.le_of_ble_eq_true rfl) (Nat.le_of_ble_eq_true rfl) ⟨N, rfl, Nat.lt_succ_self _, q3, q4⟩
