/-! the calls that ask for a number's row -/
theorem i10 : ((1 : Int) = 0) = False := eq_false (by decide)
theorem i00 : ((0 : Int) = 0) = True := eq_true rfl
theorem n10 : (nrm 1 = 0) = False := eq_false (by decide +kernel)
theorem n00 : (nrm 0 = 0) = True := eq_true (by decide +kernel)
theorem n11 : (nrm 1 = nrm 1) = True := eq_true rfl
theorem n01 : (nrm 0 = nrm 1) = False := eq_false (by decide +kernel)
theorem M_fails0 {V : VV} : f6_fails V 0 0 0 = some (0, up2 V 148 9 0) := M_fails (Or.inl rfl) (Or.inl rfl) (Or.inl rfl)
theorem M_fails1 {V : VV} {b c : Int} (hb : b = 0 ∨ b = 1) (hc : c = 0 ∨ c = 1) : f6_fails V 1 b c = some (1, up2 V 148 9 1) := M_fails (Or.inr rfl) hb hc
theorem M_fails2 {V : VV} {c : Int} (hc : c = 0 ∨ c = 1) : f6_fails V 0 1 c = some (1, up2 V 148 9 2) := M_fails (Or.inl rfl) (Or.inr rfl) hc
theorem M_fails3 {V : VV} : f6_fails V 0 0 1 = some (1, up2 V 148 9 3) := M_fails (Or.inl rfl) (Or.inl rfl) (Or.inr rfl)
theorem cod_1 {E : String} {l : List String} : cod (E :: l) (.error E) = 1 := by simp [cod]
theorem cod_2 {E1 E2 : String} {l : List String} (h : E1 ≠ E2) : cod (E1 :: E2 :: l) (.error E2) = 2 := by simp [cod, h]
theorem cod_3 {E1 E2 E3 : String} {l : List String} (h : E1 ≠ E3) (h2 : E2 ≠ E3) : cod (E1 :: E2 :: E3 :: l) (.error E3) = 3 := by simp [cod, h, h2]
theorem eIA : eI ≠ eA := by decide
theorem eIS : eI ≠ eS := by decide
theorem eAS : eA ≠ eS := by decide
theorem eIN : eI ≠ eN := by decide
theorem eAN : eA ≠ eN := by decide
theorem okr {a b r : Int} (h : (Except.ok a : Except String Int) = .ok r) (e : a = b) : r = b := by cases h; exact e
theorem ner {E : String} {b r : Int} (h : (Except.error E : Except String Int) = .ok r) : r = b := nomatch h
theorem th0 {V : VV} {r z : Int} {l : List String} : up2 V 148 9 0 148 9 = cod l (.ok r) := up2_s _ _ _ _
theorem up9 {V : VV} {z : Int} {t : Nat} : up2 V 148 9 z 149 t = V 149 t := up2_n (by omega)
theorem op_bookedShip {x : Int} (hx : rgI x) : Op1 [eI] (fun V => f5_bookedShip V x) (fun V => f6_bookedShip V x) := by
  intro V S P h
  have hr := h.ck.ok.rg
  have hp := h.ck.pl
  have hm := h.mk.pl
  by_cases c : 0 ≤ x ∧ x < (P.2.2.2.2.2.1.length : Int)
  · obtain ⟨i, rfl⟩ : ∃ i : Nat, x = (i : Int) := ⟨x.toNat, by omega⟩
    have hi : i < P.2.2.2.2.2.1.length := by omega
    obtain ⟨w0, w1, w2, w3⟩ := h.bb hi
    obtain ⟨-, -, b3⟩ := h.ck.b hi
    obtain ⟨u1, u2, u3, u4, u5, u6, u7⟩ := b3
    simp only at u1 u2 u3 u4 u5 u6 u7
    refine ⟨.ok (V 54 i), V, V 54 i, up2 V 148 9 0, ?_, ?_, th0 (z := 0), fun r hr => okr hr rfl, S, P, h.thr 0⟩
    · show f5_bookedShip V (i : Int) = _
      unfold f5_bookedShip
      rw [X_isBooking h.ck hx, if_pos c]
      simp (disch := omega) only [ck_t, nrm_of, bd_s, bd2_s, bd3_s, bd4_s, Int.toNat_natCast, aP0, Nat.reduceAdd, Nat.zero_add, i10, i00, n10, if_false]
    · show f6_bookedShip V (i : Int) = _
      unfold f6_bookedShip f6_bookingField
      rw [M_isBooking h.mk hx, if_pos c]
      simp only [bd_s, n10, if_false]
      rw [M_fails0]
      simp only [bd2_s, n00, if_true]
      rw [M_ofBooking (i := i) (y := 0) (j := 0) rfl rfl (by omega) (by omega)]
      simp only [bd_s, bd2_s, up9, Nat.add_zero, w0]
  · refine ⟨.error eI, V, 0, up2 V 148 9 1, ?_, ?_, (up2_s _ _ _ _).trans cod_1.symm, fun r hr => ner hr, S, P, h.thr 1⟩
    · show f5_bookedShip V x = _
      unfold f5_bookedShip
      rw [X_isBooking h.ck hx, if_neg c]
      simp only [bd_s, n00, if_true]
    · show f6_bookedShip V x = _
      unfold f6_bookedShip f6_bookingField
      rw [M_isBooking h.mk hx, if_neg c]
      simp only [bd_s, n00, if_true]
      rw [M_fails1 (Or.inl rfl) (Or.inl rfl)]
      simp only [bd2_s, n10, if_false]
theorem op_startMinute {x : Int} (hx : rgI x) : Op1 [eI] (fun V => f5_startMinute V x) (fun V => f6_startMinute V x) := by
  intro V S P h
  have hr := h.ck.ok.rg
  have hp := h.ck.pl
  have hm := h.mk.pl
  by_cases c : 0 ≤ x ∧ x < (P.2.2.2.2.2.1.length : Int)
  · obtain ⟨i, rfl⟩ : ∃ i : Nat, x = (i : Int) := ⟨x.toNat, by omega⟩
    have hi : i < P.2.2.2.2.2.1.length := by omega
    obtain ⟨w0, w1, w2, w3⟩ := h.bb hi
    obtain ⟨-, -, b3⟩ := h.ck.b hi
    obtain ⟨u1, u2, u3, u4, u5, u6, u7⟩ := b3
    simp only at u1 u2 u3 u4 u5 u6 u7
    refine ⟨.ok (V 56 i), V, V 56 i, up2 V 148 9 0, ?_, ?_, th0 (z := 0), fun r hr => okr hr rfl, S, P, h.thr 0⟩
    · show f5_startMinute V (i : Int) = _
      unfold f5_startMinute
      rw [X_isBooking h.ck hx, if_pos c]
      simp (disch := omega) only [ck_t, nrm_of, bd_s, bd2_s, bd3_s, bd4_s, Int.toNat_natCast, aP0, Nat.reduceAdd, Nat.zero_add, i10, i00, n10, if_false]
    · show f6_startMinute V (i : Int) = _
      unfold f6_startMinute f6_bookingField
      rw [M_isBooking h.mk hx, if_pos c]
      simp only [bd_s, n10, if_false]
      rw [M_fails0]
      simp only [bd2_s, n00, if_true]
      rw [M_ofBooking (i := i) (y := 2) (j := 2) rfl rfl (by omega) (by omega)]
      simp only [bd_s, bd2_s, up9, Nat.add_zero, w2]
  · refine ⟨.error eI, V, 0, up2 V 148 9 1, ?_, ?_, (up2_s _ _ _ _).trans cod_1.symm, fun r hr => ner hr, S, P, h.thr 1⟩
    · show f5_startMinute V x = _
      unfold f5_startMinute
      rw [X_isBooking h.ck hx, if_neg c]
      simp only [bd_s, n00, if_true]
    · show f6_startMinute V x = _
      unfold f6_startMinute f6_bookingField
      rw [M_isBooking h.mk hx, if_neg c]
      simp only [bd_s, n00, if_true]
      rw [M_fails1 (Or.inl rfl) (Or.inl rfl)]
      simp only [bd2_s, n10, if_false]
theorem op_endMinute {x : Int} (hx : rgI x) : Op1 [eI] (fun V => f5_endMinute V x) (fun V => f6_endMinute V x) := by
  intro V S P h
  have hr := h.ck.ok.rg
  have hp := h.ck.pl
  have hm := h.mk.pl
  by_cases c : 0 ≤ x ∧ x < (P.2.2.2.2.2.1.length : Int)
  · obtain ⟨i, rfl⟩ : ∃ i : Nat, x = (i : Int) := ⟨x.toNat, by omega⟩
    have hi : i < P.2.2.2.2.2.1.length := by omega
    obtain ⟨w0, w1, w2, w3⟩ := h.bb hi
    obtain ⟨-, -, b3⟩ := h.ck.b hi
    obtain ⟨u1, u2, u3, u4, u5, u6, u7⟩ := b3
    simp only at u1 u2 u3 u4 u5 u6 u7
    refine ⟨.ok (V 57 i), V, V 57 i, up2 V 148 9 0, ?_, ?_, th0 (z := 0), fun r hr => okr hr rfl, S, P, h.thr 0⟩
    · show f5_endMinute V (i : Int) = _
      unfold f5_endMinute
      rw [X_isBooking h.ck hx, if_pos c]
      simp (disch := omega) only [ck_t, nrm_of, bd_s, bd2_s, bd3_s, bd4_s, Int.toNat_natCast, aP0, Nat.reduceAdd, Nat.zero_add, i10, i00, n10, if_false]
    · show f6_endMinute V (i : Int) = _
      unfold f6_endMinute f6_bookingField
      rw [M_isBooking h.mk hx, if_pos c]
      simp only [bd_s, n10, if_false]
      rw [M_fails0]
      simp only [bd2_s, n00, if_true]
      rw [M_ofBooking (i := i) (y := 3) (j := 3) rfl rfl (by omega) (by omega)]
      simp only [bd_s, bd2_s, up9, Nat.add_zero, w3]
  · refine ⟨.error eI, V, 0, up2 V 148 9 1, ?_, ?_, (up2_s _ _ _ _).trans cod_1.symm, fun r hr => ner hr, S, P, h.thr 1⟩
    · show f5_endMinute V x = _
      unfold f5_endMinute
      rw [X_isBooking h.ck hx, if_neg c]
      simp only [bd_s, n00, if_true]
    · show f6_endMinute V x = _
      unfold f6_endMinute f6_bookingField
      rw [M_isBooking h.mk hx, if_neg c]
      simp only [bd_s, n00, if_true]
      rw [M_fails1 (Or.inl rfl) (Or.inl rfl)]
      simp only [bd2_s, n10, if_false]
theorem op_isInbound {x : Int} (hx : rgI x) : Op1 [eI] (fun V => f5_isInbound V x) (fun V => f6_isInbound V x) := by
  intro V S P h
  have hr := h.ck.ok.rg
  have hp := h.ck.pl
  have hm := h.mk.pl
  by_cases c : 0 ≤ x ∧ x < (P.2.2.2.2.2.1.length : Int)
  · obtain ⟨i, rfl⟩ : ∃ i : Nat, x = (i : Int) := ⟨x.toNat, by omega⟩
    have hi : i < P.2.2.2.2.2.1.length := by omega
    obtain ⟨w0, w1, w2, w3⟩ := h.bb hi
    obtain ⟨-, -, b3⟩ := h.ck.b hi
    obtain ⟨u1, u2, u3, u4, u5, u6, u7⟩ := b3
    simp only at u1 u2 u3 u4 u5 u6 u7
    refine ⟨.ok (V 55 i), V, V 55 i, up2 V 148 9 0, ?_, ?_, th0 (z := 0), fun r hr => okr hr rfl, S, P, h.thr 0⟩
    · show f5_isInbound V (i : Int) = _
      unfold f5_isInbound
      rw [X_isBooking h.ck hx, if_pos c]
      simp (disch := omega) only [ck_t, nrm_of, bd_s, bd2_s, bd3_s, bd4_s, Int.toNat_natCast, aP0, Nat.reduceAdd, Nat.zero_add, i10, i00, n10, if_false]
      exact ck_t u3
    · show f6_isInbound V (i : Int) = _
      unfold f6_isInbound f6_bookingField
      rw [M_isBooking h.mk hx, if_pos c]
      simp only [bd_s, n10, if_false]
      rw [M_fails0]
      simp only [bd2_s, n00, if_true]
      rw [M_ofBooking (i := i) (y := 1) (j := 1) rfl rfl (by omega) (by omega)]
      simp only [bd_s, bd2_s, up9, w1]
      rcases u3 with e | e <;> rw [e] <;> simp only [n11, n01, if_true, if_false]
  · refine ⟨.error eI, V, 0, up2 V 148 9 1, ?_, ?_, (up2_s _ _ _ _).trans cod_1.symm, fun r hr => ner hr, S, P, h.thr 1⟩
    · show f5_isInbound V x = _
      unfold f5_isInbound
      rw [X_isBooking h.ck hx, if_neg c]
      simp only [bd_s, n00, if_true]
    · show f6_isInbound V x = _
      unfold f6_isInbound f6_bookingField
      rw [M_isBooking h.mk hx, if_neg c]
      simp only [bd_s, n00, if_true]
      rw [M_fails1 (Or.inl rfl) (Or.inl rfl)]
      simp only [bd2_s, n10, if_false, n01]
theorem op_isFinished {x : Int} (hx : rgI x) : Op1 [eI] (fun V => f5_isFinished V x) (fun V => f6_isFinished V x) := by
  intro V S P h
  have hr := h.ck.ok.rg
  have hp := h.ck.pl
  have hm := h.mk.pl
  by_cases c : 0 ≤ x ∧ x < (P.2.2.2.2.2.1.length : Int)
  · obtain ⟨i, rfl⟩ : ∃ i : Nat, x = (i : Int) := ⟨x.toNat, by omega⟩
    have hi : i < P.2.2.2.2.2.1.length := by omega
    obtain ⟨w0, w1, w2, w3⟩ := h.bb hi
    obtain ⟨-, -, b3⟩ := h.ck.b hi
    obtain ⟨u1, u2, u3, u4, u5, u6, u7⟩ := b3
    simp only at u1 u2 u3 u4 u5 u6 u7
    refine ⟨.ok (if P.2.1 < V 57 i then 0 else 1), V, if P.2.1 < V 57 i then 0 else 1, up2 V 148 9 0, ?_, ?_, th0 (z := 0), fun r hr => okr hr rfl, S, P, h.thr 0⟩
    · show f5_isFinished V (i : Int) = _
      unfold f5_isFinished
      rw [X_isBooking h.ck hx, if_pos c]
      simp (disch := omega) only [ck_t, nrm_of, bd_s, bd2_s, bd3_s, bd4_s, Int.toNat_natCast, aP0, Nat.reduceAdd, Nat.zero_add, i10, i00, n10, if_false]
      rw [hp.2.1]
      try simp (disch := omega) only [nrm_of]
      split <;> rfl
    · show f6_isFinished V (i : Int) = _
      unfold f6_isFinished
      rw [M_isBooking h.mk hx, if_pos c]
      simp only [bd_s, n10, if_false]
      rw [M_fails0]
      simp only [bd2_s, n00, if_true]
      rw [M_ofBooking (i := i) (y := 3) (j := 3) rfl rfl (by omega) (by omega)]
      simp (disch := omega) only [bd_s, up9, w3, hm.2.1, nrm_of]
      split <;> rfl
  · refine ⟨.error eI, V, 0, up2 V 148 9 1, ?_, ?_, (up2_s _ _ _ _).trans cod_1.symm, fun r hr => ner hr, S, P, h.thr 1⟩
    · show f5_isFinished V x = _
      unfold f5_isFinished
      rw [X_isBooking h.ck hx, if_neg c]
      simp only [bd_s, n00, if_true]
    · show f6_isFinished V x = _
      unfold f6_isFinished
      rw [M_isBooking h.mk hx, if_neg c]
      simp only [bd_s, n00, if_true]
      rw [M_fails1 (Or.inl rfl) (Or.inl rfl)]
      simp only [bd2_s, n10, if_false]
theorem op_isUnderWay {x : Int} (hx : rgI x) : Op1 [eI] (fun V => f5_isUnderWay V x) (fun V => f6_isUnderWay V x) := by
  intro V S P h
  have hr := h.ck.ok.rg
  have hp := h.ck.pl
  have hm := h.mk.pl
  by_cases c : 0 ≤ x ∧ x < (P.2.2.2.2.2.1.length : Int)
  · obtain ⟨i, rfl⟩ : ∃ i : Nat, x = (i : Int) := ⟨x.toNat, by omega⟩
    have hi : i < P.2.2.2.2.2.1.length := by omega
    obtain ⟨w0, w1, w2, w3⟩ := h.bb hi
    obtain ⟨-, -, b3⟩ := h.ck.b hi
    obtain ⟨u1, u2, u3, u4, u5, u6, u7⟩ := b3
    simp only at u1 u2 u3 u4 u5 u6 u7
    refine ⟨.ok (if P.2.1 < V 56 i then 0 else if V 57 i ≤ P.2.1 then 0 else 1), V, if P.2.1 < V 56 i then 0 else if V 57 i ≤ P.2.1 then 0 else 1, up2 V 148 9 0, ?_, ?_, th0 (z := 0), fun r hr => okr hr rfl, S, P, h.thr 0⟩
    · show f5_isUnderWay V (i : Int) = _
      unfold f5_isUnderWay
      rw [X_isBooking h.ck hx, if_pos c]
      simp (disch := omega) only [ck_t, nrm_of, bd_s, bd2_s, bd3_s, bd4_s, Int.toNat_natCast, aP0, Nat.reduceAdd, Nat.zero_add, i10, i00, n10, if_false]
      rw [hp.2.1]
      try simp (disch := omega) only [nrm_of]
      split
      · rfl
      · split <;> rfl
    · show f6_isUnderWay V (i : Int) = _
      unfold f6_isUnderWay
      rw [M_isBooking h.mk hx, if_pos c]
      simp only [bd_s, n10, if_false]
      rw [M_fails0]
      simp only [bd2_s, n00, if_true]
      rw [M_ofBooking (i := i) (y := 3) (j := 3) rfl rfl (by omega) (by omega), M_ofBooking (i := i) (y := 2) (j := 2) rfl rfl (by omega) (by omega)]
      simp (disch := omega) only [bd_s, up9, w2, w3, hm.2.1, nrm_of]
      by_cases c1 : P.2.1 < V 56 i
      · rw [if_neg (show ¬ V 57 i ≤ P.2.1 by omega), if_pos c1, if_pos c1]
      · rw [if_neg c1]
        by_cases c2 : V 57 i ≤ P.2.1
        · rw [if_pos c2, if_pos c2]
          split <;> rfl
        · rw [if_neg c2, if_neg c2, if_neg c1]
  · refine ⟨.error eI, V, 0, up2 V 148 9 1, ?_, ?_, (up2_s _ _ _ _).trans cod_1.symm, fun r hr => ner hr, S, P, h.thr 1⟩
    · show f5_isUnderWay V x = _
      unfold f5_isUnderWay
      rw [X_isBooking h.ck hx, if_neg c]
      simp only [bd_s, n00, if_true]
    · show f6_isUnderWay V x = _
      unfold f6_isUnderWay
      rw [M_isBooking h.mk hx, if_neg c]
      simp only [bd_s, n00, if_true]
      rw [M_fails1 (Or.inl rfl) (Or.inl rfl)]
      simp only [bd2_s, n10, if_false]
theorem op_requestedShip {x : Int} (hx : rgI x) : Op1 [eI] (fun V => f5_requestedShip V x) (fun V => f6_requestedShip V x) := by
  intro V S P h
  have hr := h.ck.ok.rg
  have hp := h.ck.pl
  have hm := h.mk.pl
  by_cases c : 0 ≤ x ∧ x < (P.2.2.2.2.2.2.length : Int)
  · obtain ⟨i, rfl⟩ : ∃ i : Nat, x = (i : Int) := ⟨x.toNat, by omega⟩
    have hi : i < P.2.2.2.2.2.2.length := by omega
    obtain ⟨w0, w1, w2, w3⟩ := h.rr hi
    obtain ⟨-, -, b3⟩ := h.ck.r hi
    obtain ⟨u1, u2, u3, u4, u5, u6⟩ := b3
    simp only at u1 u2 u3 u4 u5 u6
    refine ⟨.ok (V 58 i), V, V 58 i, up2 V 148 9 0, ?_, ?_, th0 (z := 0), fun r hr => okr hr rfl, S, P, h.thr 0⟩
    · show f5_requestedShip V (i : Int) = _
      unfold f5_requestedShip
      rw [X_isRequest h.ck hx, if_pos c]
      simp (disch := omega) only [ck_t, nrm_of, bd_s, bd2_s, bd3_s, bd4_s, Int.toNat_natCast, aP0, Nat.reduceAdd, Nat.zero_add, i10, i00, n10, if_false]
    · show f6_requestedShip V (i : Int) = _
      unfold f6_requestedShip f6_requestField
      rw [M_isRequest h.mk hx, if_pos c]
      simp only [bd_s, n10, if_false]
      rw [M_fails0]
      simp only [bd2_s, n00, if_true]
      rw [M_ofRequest (i := i) (y := 0) (j := 0) rfl rfl (by omega) (by omega)]
      simp only [bd_s, bd2_s, up9, Nat.add_zero, w0]
  · refine ⟨.error eI, V, 0, up2 V 148 9 1, ?_, ?_, (up2_s _ _ _ _).trans cod_1.symm, fun r hr => ner hr, S, P, h.thr 1⟩
    · show f5_requestedShip V x = _
      unfold f5_requestedShip
      rw [X_isRequest h.ck hx, if_neg c]
      simp only [bd_s, n00, if_true]
    · show f6_requestedShip V x = _
      unfold f6_requestedShip f6_requestField
      rw [M_isRequest h.mk hx, if_neg c]
      simp only [bd_s, n00, if_true]
      rw [M_fails1 (Or.inl rfl) (Or.inl rfl)]
      simp only [bd2_s, n10, if_false]
theorem op_earliestRequested {x : Int} (hx : rgI x) : Op1 [eI] (fun V => f5_earliestRequested V x) (fun V => f6_earliestRequested V x) := by
  intro V S P h
  have hr := h.ck.ok.rg
  have hp := h.ck.pl
  have hm := h.mk.pl
  by_cases c : 0 ≤ x ∧ x < (P.2.2.2.2.2.2.length : Int)
  · obtain ⟨i, rfl⟩ : ∃ i : Nat, x = (i : Int) := ⟨x.toNat, by omega⟩
    have hi : i < P.2.2.2.2.2.2.length := by omega
    obtain ⟨w0, w1, w2, w3⟩ := h.rr hi
    obtain ⟨-, -, b3⟩ := h.ck.r hi
    obtain ⟨u1, u2, u3, u4, u5, u6⟩ := b3
    simp only at u1 u2 u3 u4 u5 u6
    refine ⟨.ok (V 60 i), V, V 60 i, up2 V 148 9 0, ?_, ?_, th0 (z := 0), fun r hr => okr hr rfl, S, P, h.thr 0⟩
    · show f5_earliestRequested V (i : Int) = _
      unfold f5_earliestRequested
      rw [X_isRequest h.ck hx, if_pos c]
      simp (disch := omega) only [ck_t, nrm_of, bd_s, bd2_s, bd3_s, bd4_s, Int.toNat_natCast, aP0, Nat.reduceAdd, Nat.zero_add, i10, i00, n10, if_false]
    · show f6_earliestRequested V (i : Int) = _
      unfold f6_earliestRequested f6_requestField
      rw [M_isRequest h.mk hx, if_pos c]
      simp only [bd_s, n10, if_false]
      rw [M_fails0]
      simp only [bd2_s, n00, if_true]
      rw [M_ofRequest (i := i) (y := 2) (j := 2) rfl rfl (by omega) (by omega)]
      simp only [bd_s, bd2_s, up9, Nat.add_zero, w2]
  · refine ⟨.error eI, V, 0, up2 V 148 9 1, ?_, ?_, (up2_s _ _ _ _).trans cod_1.symm, fun r hr => ner hr, S, P, h.thr 1⟩
    · show f5_earliestRequested V x = _
      unfold f5_earliestRequested
      rw [X_isRequest h.ck hx, if_neg c]
      simp only [bd_s, n00, if_true]
    · show f6_earliestRequested V x = _
      unfold f6_earliestRequested f6_requestField
      rw [M_isRequest h.mk hx, if_neg c]
      simp only [bd_s, n00, if_true]
      rw [M_fails1 (Or.inl rfl) (Or.inl rfl)]
      simp only [bd2_s, n10, if_false]
theorem op_latestRequested {x : Int} (hx : rgI x) : Op1 [eI] (fun V => f5_latestRequested V x) (fun V => f6_latestRequested V x) := by
  intro V S P h
  have hr := h.ck.ok.rg
  have hp := h.ck.pl
  have hm := h.mk.pl
  by_cases c : 0 ≤ x ∧ x < (P.2.2.2.2.2.2.length : Int)
  · obtain ⟨i, rfl⟩ : ∃ i : Nat, x = (i : Int) := ⟨x.toNat, by omega⟩
    have hi : i < P.2.2.2.2.2.2.length := by omega
    obtain ⟨w0, w1, w2, w3⟩ := h.rr hi
    obtain ⟨-, -, b3⟩ := h.ck.r hi
    obtain ⟨u1, u2, u3, u4, u5, u6⟩ := b3
    simp only at u1 u2 u3 u4 u5 u6
    refine ⟨.ok (V 61 i), V, V 61 i, up2 V 148 9 0, ?_, ?_, th0 (z := 0), fun r hr => okr hr rfl, S, P, h.thr 0⟩
    · show f5_latestRequested V (i : Int) = _
      unfold f5_latestRequested
      rw [X_isRequest h.ck hx, if_pos c]
      simp (disch := omega) only [ck_t, nrm_of, bd_s, bd2_s, bd3_s, bd4_s, Int.toNat_natCast, aP0, Nat.reduceAdd, Nat.zero_add, i10, i00, n10, if_false]
    · show f6_latestRequested V (i : Int) = _
      unfold f6_latestRequested f6_requestField
      rw [M_isRequest h.mk hx, if_pos c]
      simp only [bd_s, n10, if_false]
      rw [M_fails0]
      simp only [bd2_s, n00, if_true]
      rw [M_ofRequest (i := i) (y := 3) (j := 3) rfl rfl (by omega) (by omega)]
      simp only [bd_s, bd2_s, up9, Nat.add_zero, w3]
  · refine ⟨.error eI, V, 0, up2 V 148 9 1, ?_, ?_, (up2_s _ _ _ _).trans cod_1.symm, fun r hr => ner hr, S, P, h.thr 1⟩
    · show f5_latestRequested V x = _
      unfold f5_latestRequested
      rw [X_isRequest h.ck hx, if_neg c]
      simp only [bd_s, n00, if_true]
    · show f6_latestRequested V x = _
      unfold f6_latestRequested f6_requestField
      rw [M_isRequest h.mk hx, if_neg c]
      simp only [bd_s, n00, if_true]
      rw [M_fails1 (Or.inl rfl) (Or.inl rfl)]
      simp only [bd2_s, n10, if_false]
theorem op_isRequestInbound {x : Int} (hx : rgI x) : Op1 [eI] (fun V => f5_isRequestInbound V x) (fun V => f6_isRequestInbound V x) := by
  intro V S P h
  have hr := h.ck.ok.rg
  have hp := h.ck.pl
  have hm := h.mk.pl
  by_cases c : 0 ≤ x ∧ x < (P.2.2.2.2.2.2.length : Int)
  · obtain ⟨i, rfl⟩ : ∃ i : Nat, x = (i : Int) := ⟨x.toNat, by omega⟩
    have hi : i < P.2.2.2.2.2.2.length := by omega
    obtain ⟨w0, w1, w2, w3⟩ := h.rr hi
    obtain ⟨-, -, b3⟩ := h.ck.r hi
    obtain ⟨u1, u2, u3, u4, u5, u6⟩ := b3
    simp only at u1 u2 u3 u4 u5 u6
    refine ⟨.ok (V 59 i), V, V 59 i, up2 V 148 9 0, ?_, ?_, th0 (z := 0), fun r hr => okr hr rfl, S, P, h.thr 0⟩
    · show f5_isRequestInbound V (i : Int) = _
      unfold f5_isRequestInbound
      rw [X_isRequest h.ck hx, if_pos c]
      simp (disch := omega) only [ck_t, nrm_of, bd_s, bd2_s, bd3_s, bd4_s, Int.toNat_natCast, aP0, Nat.reduceAdd, Nat.zero_add, i10, i00, n10, if_false]
      exact ck_t u3
    · show f6_isRequestInbound V (i : Int) = _
      unfold f6_isRequestInbound f6_requestField
      rw [M_isRequest h.mk hx, if_pos c]
      simp only [bd_s, n10, if_false]
      rw [M_fails0]
      simp only [bd2_s, n00, if_true]
      rw [M_ofRequest (i := i) (y := 1) (j := 1) rfl rfl (by omega) (by omega)]
      simp only [bd_s, bd2_s, up9, w1]
      rcases u3 with e | e <;> rw [e] <;> simp only [n11, n01, if_true, if_false]
  · refine ⟨.error eI, V, 0, up2 V 148 9 1, ?_, ?_, (up2_s _ _ _ _).trans cod_1.symm, fun r hr => ner hr, S, P, h.thr 1⟩
    · show f5_isRequestInbound V x = _
      unfold f5_isRequestInbound
      rw [X_isRequest h.ck hx, if_neg c]
      simp only [bd_s, n00, if_true]
    · show f6_isRequestInbound V x = _
      unfold f6_isRequestInbound f6_requestField
      rw [M_isRequest h.mk hx, if_neg c]
      simp only [bd_s, n00, if_true]
      rw [M_fails1 (Or.inl rfl) (Or.inl rfl)]
      simp only [bd2_s, n10, if_false, n01]
theorem X_servingStart {V : VV} {S : Su} {P : Pl} (h : CK V S P) {i : Nat} (hi : i < P.2.2.2.2.2.2.length) : f5_servingStart V (i : Int) = some (sts S P (V 58 i) (V 59 i) (V 60 i) (V 61 i)) := by
  have hr := h.ok.rg
  obtain ⟨-, -, b3⟩ := h.r hi
  obtain ⟨u1, u2, u3, u4, u5, u6⟩ := b3
  simp only at u1 u2 u3 u4 u5 u6
  unfold f5_servingStart
  simp (disch := omega) only [ck_t, nrm_of, bd_s, bd2_s, bd3_s, bd4_s, Int.toNat_natCast, aP0, Nat.reduceAdd, Nat.zero_add, i10, i00]
  rw [X_startToServe h ⟨u1, u2⟩ u3 (by omega) (by omega)]
  rfl
theorem M_startFor {V : VV} {S : Su} {P : Pl} (h : MK V S P) {i : Nat} (hi : i < P.2.2.2.2.2.2.length) : f6_startFor V (i : Int) = some (sts S P (V 149 (194 + 4 * i)) (V 149 (194 + 4 * i + 1)) (V 149 (194 + 4 * i + 2)) (V 149 (194 + 4 * i + 3))) := by
  have hr := h.ok.rg
  obtain ⟨-, -, b3⟩ := h.r hi
  obtain ⟨u1, u2, u3, u4, u5, u6⟩ := b3
  simp only at u1 u2 u3 u4 u5 u6
  unfold f6_startFor
  rw [M_ofRequest (i := i) (y := 0) (j := 0) rfl rfl (by omega) (by omega), M_ofRequest (i := i) (y := 1) (j := 1) rfl rfl (by omega) (by omega), M_ofRequest (i := i) (y := 2) (j := 2) rfl rfl (by omega) (by omega), M_ofRequest (i := i) (y := 3) (j := 3) rfl rfl (by omega) (by omega)]
  simp only [bd_s, Nat.add_zero]
  rw [M_servingMinute h ⟨u1, u2⟩ u3 (by omega) (by omega)]
  rfl
theorem op_feasibleStart {x : Int} (hx : rgI x) : Op1 [eI] (fun V => f5_feasibleStart V x) (fun V => f6_feasibleStart V x) := by
  intro V S P h
  have hr := h.ck.ok.rg
  have hp := h.ck.pl
  have hm := h.mk.pl
  by_cases c : 0 ≤ x ∧ x < (P.2.2.2.2.2.2.length : Int)
  · obtain ⟨i, rfl⟩ : ∃ i : Nat, x = (i : Int) := ⟨x.toNat, by omega⟩
    have hi : i < P.2.2.2.2.2.2.length := by omega
    obtain ⟨w0, w1, w2, w3⟩ := h.rr hi
    obtain ⟨-, -, b3⟩ := h.ck.r hi
    obtain ⟨u1, u2, u3, u4, u5, u6⟩ := b3
    simp only at u1 u2 u3 u4 u5 u6
    refine ⟨.ok (sts S P (V 58 i) (V 59 i) (V 60 i) (V 61 i)), V, sts S P (V 58 i) (V 59 i) (V 60 i) (V 61 i), up2 V 148 9 0, ?_, ?_, th0 (z := 0), fun r hr => okr hr rfl, S, P, h.thr 0⟩
    · show f5_feasibleStart V (i : Int) = _
      unfold f5_feasibleStart
      rw [X_isRequest h.ck hx, if_pos c]
      simp (disch := omega) only [ck_t, nrm_of, bd_s, bd2_s, bd3_s, bd4_s, Int.toNat_natCast, aP0, Nat.reduceAdd, Nat.zero_add, i10, i00, n10, if_false]
      rw [X_servingStart h.ck hi]
      rfl
    · show f6_feasibleStart V (i : Int) = _
      unfold f6_feasibleStart
      rw [M_isRequest h.mk hx, if_pos c]
      simp only [bd_s, n10, if_false]
      rw [M_fails0]
      simp only [bd2_s, n00, if_true]
      rw [M_startFor (h.mk.thr 0) hi]
      simp only [up9, bd_s, w0, w1, w2, w3]
  · refine ⟨.error eI, V, 0, up2 V 148 9 1, ?_, ?_, (up2_s _ _ _ _).trans cod_1.symm, fun r hr => ner hr, S, P, h.thr 1⟩
    · show f5_feasibleStart V x = _
      unfold f5_feasibleStart
      rw [X_isRequest h.ck hx, if_neg c]
      simp only [bd_s, n00, if_true]
    · show f6_feasibleStart V x = _
      unfold f6_feasibleStart
      rw [M_isRequest h.mk hx, if_neg c]
      simp only [bd_s, n00, if_true]
      rw [M_fails1 (Or.inl rfl) (Or.inl rfl)]
      simp only [bd2_s, n10, if_false]
theorem op_whyNotFeasible {x : Int} (hx : rgI x) : Op1 [eI] (fun V => f5_whyNotFeasible V x) (fun V => f6_whyNotFeasible V x) := by
  intro V S P h
  have hr := h.ck.ok.rg
  have hp := h.ck.pl
  have hm := h.mk.pl
  by_cases c : 0 ≤ x ∧ x < (P.2.2.2.2.2.2.length : Int)
  · obtain ⟨i, rfl⟩ : ∃ i : Nat, x = (i : Int) := ⟨x.toNat, by omega⟩
    have hi : i < P.2.2.2.2.2.2.length := by omega
    obtain ⟨w0, w1, w2, w3⟩ := h.rr hi
    obtain ⟨-, -, b3⟩ := h.ck.r hi
    obtain ⟨u1, u2, u3, u4, u5, u6⟩ := b3
    simp only at u1 u2 u3 u4 u5 u6
    refine ⟨.ok (if V 61 i < P.2.1 then 1 else if (P.2.2.2.2.2.1).length = 20 then 2 else if sts S P (V 58 i) (V 59 i) (V 60 i) (V 61 i) = -1 then 3 else 0), V, if V 61 i < P.2.1 then 1 else if (P.2.2.2.2.2.1).length = 20 then 2 else if sts S P (V 58 i) (V 59 i) (V 60 i) (V 61 i) = -1 then 3 else 0, up2 V 148 9 0, ?_, ?_, th0 (z := 0), fun r hr => okr hr rfl, S, P, h.thr 0⟩
    · show f5_whyNotFeasible V (i : Int) = _
      unfold f5_whyNotFeasible
      rw [X_isRequest h.ck hx, if_pos c]
      simp (disch := omega) only [ck_t, nrm_of, bd_s, bd2_s, bd3_s, bd4_s, Int.toNat_natCast, aP0, Nat.reduceAdd, Nat.zero_add, i10, i00, n10, if_false]
      have hsr := sts_rg (x := V 58 i) (y := V 59 i) h.ck.ok (show 0 ≤ V 60 i ∧ V 60 i ≤ 999 by omega) u6
      rw [X_servingStart h.ck hi]
      simp (disch := omega) only [ck_t, nrm_of, bd_s, bd2_s, bd3_s, bd4_s, Int.toNat_natCast, aP0, Nat.reduceAdd, Nat.zero_add, i10, i00, hp.2.1, hp.2.2.2.2.2.1]
      generalize sts S P (V 58 i) (V 59 i) (V 60 i) (V 61 i) = z at *
      by_cases c1 : V 61 i < P.2.1
      · rw [if_neg (show ¬ P.2.1 ≤ V 61 i by omega), if_pos c1]
      · rw [if_pos (show P.2.1 ≤ V 61 i by omega), if_neg c1]
        by_cases c2 : (P.2.2.2.2.2.1).length = 20
        · rw [if_pos (by omega), if_pos c2]
        · rw [if_neg (by omega), if_neg c2]
          split <;> rfl
    · show f6_whyNotFeasible V (i : Int) = _
      unfold f6_whyNotFeasible
      rw [M_isRequest h.mk hx, if_pos c]
      simp only [bd_s, n10, if_false]
      rw [M_fails0]
      simp only [bd2_s, n00, if_true]
      have hsr := sts_rg (x := V 58 i) (y := V 59 i) h.ck.ok (show 0 ≤ V 60 i ∧ V 60 i ≤ 999 by omega) u6
      rw [M_ofRequest (i := i) (y := 3) (j := 3) rfl rfl (by omega) (by omega), M_startFor (h.mk.thr 0) hi]
      simp (disch := omega) only [bd_s, up9, w0, w1, w2, w3, hm.2.1, hm.2.2.2.2.2.1, nrm_of]
      generalize sts S P (V 58 i) (V 59 i) (V 60 i) (V 61 i) = z at *
      by_cases c1 : V 61 i < P.2.1
      · rw [if_neg (show ¬ P.2.1 ≤ V 61 i by omega), if_pos c1]
      · rw [if_pos (show P.2.1 ≤ V 61 i by omega), if_neg c1]
        by_cases c2 : (P.2.2.2.2.2.1).length = 20
        · rw [if_pos (by omega), if_pos c2]
        · rw [if_neg (by omega), if_neg c2]
          split <;> rfl
  · refine ⟨.error eI, V, 0, up2 V 148 9 1, ?_, ?_, (up2_s _ _ _ _).trans cod_1.symm, fun r hr => ner hr, S, P, h.thr 1⟩
    · show f5_whyNotFeasible V x = _
      unfold f5_whyNotFeasible
      rw [X_isRequest h.ck hx, if_neg c]
      simp only [bd_s, n00, if_true]
    · show f6_whyNotFeasible V x = _
      unfold f6_whyNotFeasible
      rw [M_isRequest h.mk hx, if_neg c]
      simp only [bd_s, n00, if_true]
      rw [M_fails1 (Or.inl rfl) (Or.inl rfl)]
      simp only [bd2_s, n10, if_false]
theorem op_iceClass {x : Int} (hx : rgI x) : Op1 [eI] (fun V => f5_iceClass V x) (fun V => f6_iceClass V x) := by
  intro V S P h
  have hs := h.ck.su
  have hq := h.ck.2.2.1
  by_cases c : 0 ≤ x ∧ x < (S.2.2.length : Int)
  · obtain ⟨i, rfl⟩ : ∃ i : Nat, x = (i : Int) := ⟨x.toNat, by omega⟩
    obtain ⟨t, e1, e2, k1, k2, k3, k4, k5⟩ := h.ck.s (i := i) (by omega)
    obtain ⟨t', e1', e2', m1, m2, m3, m4, m5⟩ := h.mk.s (i := i) (by omega)
    have et := Option.some.inj (e1.symm.trans e1')
    subst et
    refine ⟨.ok (t.2.2.1), V, t.2.2.1, up2 V 148 9 0, ?_, ?_, th0 (z := 0), fun r hr => okr hr rfl, S, P, h.thr 0⟩
    · show f5_iceClass V (i : Int) = _
      unfold f5_iceClass
      rw [X_isShip h.ck hx, if_pos c]
      simp (disch := omega) only [ck_t, nrm_of, bd_s, bd2_s, bd3_s, bd4_s, Int.toNat_natCast, aP0, Nat.reduceAdd, Nat.zero_add, i10, i00, n10, if_false, k3, k4]
    · show f6_iceClass V (i : Int) = _
      unfold f6_iceClass
      rw [M_isShip h.mk hx, if_pos c]
      simp only [bd_s, n10, if_false]
      rw [M_fails0]
      simp only [bd2_s, n00, if_true]
      rw [M_ofShip (i := i) (y := 8) (j := 8) rfl rfl (by omega) (by omega)]
      simp only [bd_s, up9, m3, m4]
  · refine ⟨.error eI, V, 0, up2 V 148 9 1, ?_, ?_, (up2_s _ _ _ _).trans cod_1.symm, fun r hr => ner hr, S, P, h.thr 1⟩
    · show f5_iceClass V x = _
      unfold f5_iceClass
      rw [X_isShip h.ck hx, if_neg c]
      simp only [bd_s, n00, if_true]
    · show f6_iceClass V x = _
      unfold f6_iceClass
      rw [M_isShip h.mk hx, if_neg c]
      simp only [bd_s, n00, if_true]
      rw [M_fails1 (Or.inl rfl) (Or.inl rfl)]
      simp only [bd2_s, n10, if_false]
theorem op_weight {x : Int} (hx : rgI x) : Op1 [eI] (fun V => f5_weight V x) (fun V => f6_weight V x) := by
  intro V S P h
  have hs := h.ck.su
  have hq := h.ck.2.2.1
  by_cases c : 0 ≤ x ∧ x < (S.2.2.length : Int)
  · obtain ⟨i, rfl⟩ : ∃ i : Nat, x = (i : Int) := ⟨x.toNat, by omega⟩
    obtain ⟨t, e1, e2, k1, k2, k3, k4, k5⟩ := h.ck.s (i := i) (by omega)
    obtain ⟨t', e1', e2', m1, m2, m3, m4, m5⟩ := h.mk.s (i := i) (by omega)
    have et := Option.some.inj (e1.symm.trans e1')
    subst et
    refine ⟨.ok (t.2.2.2), V, t.2.2.2, up2 V 148 9 0, ?_, ?_, th0 (z := 0), fun r hr => okr hr rfl, S, P, h.thr 0⟩
    · show f5_weight V (i : Int) = _
      unfold f5_weight
      rw [X_isShip h.ck hx, if_pos c]
      simp (disch := omega) only [ck_t, nrm_of, bd_s, bd2_s, bd3_s, bd4_s, Int.toNat_natCast, aP0, Nat.reduceAdd, Nat.zero_add, i10, i00, n10, if_false, k3, k4]
    · show f6_weight V (i : Int) = _
      unfold f6_weight
      rw [M_isShip h.mk hx, if_pos c]
      simp only [bd_s, n10, if_false]
      rw [M_fails0]
      simp only [bd2_s, n00, if_true]
      rw [M_ofShip (i := i) (y := 9) (j := 9) rfl rfl (by omega) (by omega)]
      simp only [bd_s, up9, m3, m4]
  · refine ⟨.error eI, V, 0, up2 V 148 9 1, ?_, ?_, (up2_s _ _ _ _).trans cod_1.symm, fun r hr => ner hr, S, P, h.thr 1⟩
    · show f5_weight V x = _
      unfold f5_weight
      rw [X_isShip h.ck hx, if_neg c]
      simp only [bd_s, n00, if_true]
    · show f6_weight V x = _
      unfold f6_weight
      rw [M_isShip h.mk hx, if_neg c]
      simp only [bd_s, n00, if_true]
      rw [M_fails1 (Or.inl rfl) (Or.inl rfl)]
      simp only [bd2_s, n10, if_false]
theorem op_transitTime {x : Int} (hx : rgI x) : Op1 [eI] (fun V => f5_transitTime V x) (fun V => f6_transitTime V x) := by
  intro V S P h
  by_cases c : 0 ≤ x ∧ x < (S.2.2.length : Int)
  · refine ⟨.ok (tr S P.1 x), V, tr S P.1 x, up2 V 148 9 0, ?_, ?_, th0 (z := 0), fun r hr => okr hr rfl, S, P, h.thr 0⟩
    · show f5_transitTime V x = _
      unfold f5_transitTime
      rw [X_isShip h.ck hx, if_pos c, (X_transitOf h.ck c).1]
      simp only [bd_s, n10, if_false]
    · show f6_transitTime V x = _
      unfold f6_transitTime
      rw [M_isShip h.mk hx, if_pos c]
      simp only [bd_s, n10, if_false]
      rw [M_fails0]
      simp only [bd2_s, n00, if_true]
      rw [(M_transit (h.mk.thr 0) c).1]
      rfl
  · refine ⟨.error eI, V, 0, up2 V 148 9 1, ?_, ?_, (up2_s _ _ _ _).trans cod_1.symm, fun r hr => ner hr, S, P, h.thr 1⟩
    · show f5_transitTime V x = _
      unfold f5_transitTime
      rw [X_isShip h.ck hx, if_neg c]
      simp only [bd_s, n00, if_true]
    · show f6_transitTime V x = _
      unfold f6_transitTime
      rw [M_isShip h.mk hx, if_neg c]
      simp only [bd_s, n00, if_true]
      rw [M_fails1 (Or.inl rfl) (Or.inl rfl)]
      simp only [bd2_s, n10, if_false]
theorem op_shipNameByte {x y : Int} (hx : rgI x) (hy : rgI y) : Op1 [eI] (fun V => f5_shipNameByte V x y) (fun V => f6_shipNameByte V x y) := by
  intro V S P h
  have hs := h.ck.su
  have hq := h.ck.2.2.1
  by_cases c : 0 ≤ x ∧ x < (S.2.2.length : Int)
  · obtain ⟨i, rfl⟩ : ∃ i : Nat, x = (i : Int) := ⟨x.toNat, by omega⟩
    obtain ⟨t, e1, e2, k1, k2, k3, k4, k5⟩ := h.ck.s (i := i) (by omega)
    obtain ⟨t', e1', e2', m1, m2, m3, m4, m5⟩ := h.mk.s (i := i) (by omega)
    have et := Option.some.inj (e1.symm.trans e1')
    subst et
    have hl := e2.1
    have hM : ∀ z : Int, f6_shipNameByte V (i : Int) y = bd2 (f6_fails V (if 0 ≤ y ∧ y < (t.1.length : Int) then 0 else 1) 0 0) (fun r19 W20 => (if nrm r19 = 0 then bd (f6_ofShip W20 (i : Int) (1 + y)) (fun r23 => some (r23, W20)) else some (0, W20))) := by
      intro z
      unfold f6_shipNameByte
      rw [M_isShip h.mk hx, if_pos c]
      simp only [bd_s, n10, if_false]
      rw [M_ofShip (i := i) (y := 0) (j := 0) rfl rfl (by omega) (by omega)]
      simp only [bd_s, Nat.add_zero, m1]
      rw [M_in hy (by constructor <;> omega) (by constructor <;> omega), M_lt]
      simp only [bd_s]
      rw [n_not]
      rfl
    by_cases c2 : 0 ≤ y ∧ y < (t.1.length : Int)
    · obtain ⟨j, rfl⟩ : ∃ j : Nat, y = (j : Int) := ⟨y.toNat, by omega⟩
      have hj : j < t.1.length := by omega
      have hg := List.getElem?_eq_getElem hj
      refine ⟨.ok (t.1[j]), V, t.1[j], up2 V 148 9 0, ?_, ?_, th0 (z := 0), fun r hr => okr hr rfl, S, P, h.thr 0⟩
      · show f5_shipNameByte V (i : Int) (j : Int) = _
        unfold f5_shipNameByte
        rw [X_isShip h.ck hx, if_pos c]
        simp (disch := omega) only [ck_t, nrm_of, bd_s, bd2_s, bd3_s, bd4_s, Int.toNat_natCast, aP0, Nat.reduceAdd, Nat.zero_add, i10, i00, n10, if_false, k1]
        rw [X_isNumberBelow hy (by constructor <;> omega), if_pos c2]
        simp (disch := omega) only [ck_t, nrm_of, bd_s, bd2_s, bd3_s, bd4_s, Int.toNat_natCast, aP0, Nat.reduceAdd, Nat.zero_add, i10, i00, n10, if_false]
        rw [k5 j _ hg]
      · show f6_shipNameByte V (i : Int) (j : Int) = _
        rw [hM 0, if_pos c2, M_fails0]
        simp only [bd2_s, n00, if_true]
        rw [M_ofShip (i := i) (y := 1 + (j : Int)) (j := 1 + j) rfl (by omega) (by omega) (by omega)]
        simp only [bd_s, up9]
        rw [← Nat.add_assoc, m5 j _ hg]
    · refine ⟨.error eI, V, 0, up2 V 148 9 1, ?_, ?_, (up2_s _ _ _ _).trans cod_1.symm, fun r hr => ner hr, S, P, h.thr 1⟩
      · show f5_shipNameByte V (i : Int) y = _
        unfold f5_shipNameByte
        rw [X_isShip h.ck hx, if_pos c]
        simp (disch := omega) only [ck_t, nrm_of, bd_s, bd2_s, bd3_s, bd4_s, Int.toNat_natCast, aP0, Nat.reduceAdd, Nat.zero_add, i10, i00, n10, if_false, k1]
        rw [X_isNumberBelow hy (by constructor <;> omega), if_neg c2]
        simp only [bd_s, n00, if_true]
      · show f6_shipNameByte V (i : Int) y = _
        rw [hM 0, if_neg c2, M_fails1 (Or.inl rfl) (Or.inl rfl)]
        simp only [bd2_s, n10, if_false]
  · refine ⟨.error eI, V, 0, up2 V 148 9 1, ?_, ?_, (up2_s _ _ _ _).trans cod_1.symm, fun r hr => ner hr, S, P, h.thr 1⟩
    · show f5_shipNameByte V x y = _
      unfold f5_shipNameByte
      rw [X_isShip h.ck hx, if_neg c]
      simp only [bd_s, n00, if_true]
    · show f6_shipNameByte V x y = _
      unfold f6_shipNameByte
      rw [M_isShip h.mk hx, if_neg c]
      simp only [bd_s, n00, if_true]
      rw [M_fails1 (Or.inl rfl) (Or.inl rfl)]
      simp only [bd2_s, n10, if_false]
theorem op_errorCode : Op0 (fun V => f5_errorCode V) (fun V => f6_errorCode V) := by
  intro V S P h
  have hp := h.ck.pl
  have hm := h.mk.pl
  have hs := h.ck.su
  have hn := h.mk.su
  have hq := h.ck.2.2.1
  have hi := h.2.2.2.2.2.1
  refine ⟨V 1 2, up2 V 148 9 0, ?_, ?_, S, P, h.thr 0⟩
  · show f5_errorCode V = _
    unfold f5_errorCode
    rfl
  · show f6_errorCode V = _
    unfold f6_errorCode
    simp only [up2_n (show 148 ≠ 148 ∨ 5 ≠ 9 by omega), hi.2.2.2.1]
theorem op_errorPosition : Op0 (fun V => f5_errorPosition V) (fun V => f6_errorPosition V) := by
  intro V S P h
  have hp := h.ck.pl
  have hm := h.mk.pl
  have hs := h.ck.su
  have hn := h.mk.su
  have hq := h.ck.2.2.1
  have hi := h.2.2.2.2.2.1
  refine ⟨V 1 3, up2 V 148 9 0, ?_, ?_, S, P, h.thr 0⟩
  · show f5_errorPosition V = _
    unfold f5_errorPosition
    rfl
  · show f6_errorPosition V = _
    unfold f6_errorPosition
    simp only [up2_n (show 148 ≠ 148 ∨ 6 ≠ 9 by omega), hi.2.2.2.2]
theorem op_shipCount : Op0 (fun V => f5_shipCount V) (fun V => f6_shipCount V) := by
  intro V S P h
  have hp := h.ck.pl
  have hm := h.mk.pl
  have hs := h.ck.su
  have hn := h.mk.su
  have hq := h.ck.2.2.1
  have hi := h.2.2.2.2.2.1
  refine ⟨(S.2.2.length : Int), up2 V 148 9 0, ?_, ?_, S, P, h.thr 0⟩
  · show f5_shipCount V = _
    unfold f5_shipCount
    simp only [ck_t hq, aP0, hs.2.2.1]
  · show f6_shipCount V = _
    unfold f6_shipCount
    simp only [f6_plain, bd2_s, hn.2.2.1]
theorem op_headway : Op0 (fun V => f5_headway V) (fun V => f6_headway V) := by
  intro V S P h
  have hp := h.ck.pl
  have hm := h.mk.pl
  have hs := h.ck.su
  have hn := h.mk.su
  have hq := h.ck.2.2.1
  have hi := h.2.2.2.2.2.1
  refine ⟨S.1, up2 V 148 9 0, ?_, ?_, S, P, h.thr 0⟩
  · show f5_headway V = _
    unfold f5_headway
    simp only [ck_t hq, aP0, hs.1]
  · show f6_headway V = _
    unfold f6_headway
    simp only [f6_plain, bd2_s, hn.1]
theorem op_clearance : Op0 (fun V => f5_clearance V) (fun V => f6_clearance V) := by
  intro V S P h
  have hp := h.ck.pl
  have hm := h.mk.pl
  have hs := h.ck.su
  have hn := h.mk.su
  have hq := h.ck.2.2.1
  have hi := h.2.2.2.2.2.1
  refine ⟨S.2.1, up2 V 148 9 0, ?_, ?_, S, P, h.thr 0⟩
  · show f5_clearance V = _
    unfold f5_clearance
    simp only [ck_t hq, aP0, hs.2.1]
  · show f6_clearance V = _
    unfold f6_clearance
    simp only [f6_plain, bd2_s, hn.2.1]
theorem op_thickness : Op0 (fun V => f5_thickness V) (fun V => f6_thickness V) := by
  intro V S P h
  have hp := h.ck.pl
  have hm := h.mk.pl
  have hs := h.ck.su
  have hn := h.mk.su
  have hq := h.ck.2.2.1
  have hi := h.2.2.2.2.2.1
  refine ⟨P.1, up2 V 148 9 0, ?_, ?_, S, P, h.thr 0⟩
  · show f5_thickness V = _
    unfold f5_thickness
    simp only [ck_t hq, aP0, hp.1]
  · show f6_thickness V = _
    unfold f6_thickness
    simp only [f6_plain, bd2_s, hm.1]
theorem op_minute : Op0 (fun V => f5_minute V) (fun V => f6_minute V) := by
  intro V S P h
  have hp := h.ck.pl
  have hm := h.mk.pl
  have hs := h.ck.su
  have hn := h.mk.su
  have hq := h.ck.2.2.1
  have hi := h.2.2.2.2.2.1
  refine ⟨P.2.1, up2 V 148 9 0, ?_, ?_, S, P, h.thr 0⟩
  · show f5_minute V = _
    unfold f5_minute
    simp only [ck_t hq, aP0, hp.2.1]
  · show f6_minute V = _
    unfold f6_minute
    simp only [f6_plain, bd2_s, hm.2.1]
theorem op_bookingCount : Op0 (fun V => f5_bookingCount V) (fun V => f6_bookingCount V) := by
  intro V S P h
  have hp := h.ck.pl
  have hm := h.mk.pl
  have hs := h.ck.su
  have hn := h.mk.su
  have hq := h.ck.2.2.1
  have hi := h.2.2.2.2.2.1
  refine ⟨(P.2.2.2.2.2.1.length : Int), up2 V 148 9 0, ?_, ?_, S, P, h.thr 0⟩
  · show f5_bookingCount V = _
    unfold f5_bookingCount
    simp only [ck_t hq, aP0, hp.2.2.2.2.2.1]
  · show f6_bookingCount V = _
    unfold f6_bookingCount
    simp only [f6_plain, bd2_s, hm.2.2.2.2.2.1]
theorem op_requestCount : Op0 (fun V => f5_requestCount V) (fun V => f6_requestCount V) := by
  intro V S P h
  have hp := h.ck.pl
  have hm := h.mk.pl
  have hs := h.ck.su
  have hn := h.mk.su
  have hq := h.ck.2.2.1
  have hi := h.2.2.2.2.2.1
  refine ⟨(P.2.2.2.2.2.2.length : Int), up2 V 148 9 0, ?_, ?_, S, P, h.thr 0⟩
  · show f5_requestCount V = _
    unfold f5_requestCount
    simp only [ck_t hq, aP0, hp.2.2.2.2.2.2]
  · show f6_requestCount V = _
    unfold f6_requestCount
    simp only [f6_plain, bd2_s, hm.2.2.2.2.2.2]
theorem op_bookingsMade : Op0 (fun V => f5_bookingsMade V) (fun V => f6_bookingsMade V) := by
  intro V S P h
  have hp := h.ck.pl
  have hm := h.mk.pl
  have hs := h.ck.su
  have hn := h.mk.su
  have hq := h.ck.2.2.1
  have hi := h.2.2.2.2.2.1
  refine ⟨P.2.2.1, up2 V 148 9 0, ?_, ?_, S, P, h.thr 0⟩
  · show f5_bookingsMade V = _
    unfold f5_bookingsMade
    simp only [ck_t hq, aP0, hp.2.2.1]
  · show f6_bookingsMade V = _
    unfold f6_bookingsMade
    simp only [f6_plain, bd2_s, hm.2.2.1]
theorem op_bookingsCancelled : Op0 (fun V => f5_bookingsCancelled V) (fun V => f6_bookingsCancelled V) := by
  intro V S P h
  have hp := h.ck.pl
  have hm := h.mk.pl
  have hs := h.ck.su
  have hn := h.mk.su
  have hq := h.ck.2.2.1
  have hi := h.2.2.2.2.2.1
  refine ⟨P.2.2.2.1, up2 V 148 9 0, ?_, ?_, S, P, h.thr 0⟩
  · show f5_bookingsCancelled V = _
    unfold f5_bookingsCancelled
    simp only [ck_t hq, aP0, hp.2.2.2.1]
  · show f6_bookingsCancelled V = _
    unfold f6_bookingsCancelled
    simp only [f6_plain, bd2_s, hm.2.2.2.1]
theorem op_requestsServed : Op0 (fun V => f5_requestsServed V) (fun V => f6_requestsServed V) := by
  intro V S P h
  have hp := h.ck.pl
  have hm := h.mk.pl
  have hs := h.ck.su
  have hn := h.mk.su
  have hq := h.ck.2.2.1
  have hi := h.2.2.2.2.2.1
  refine ⟨P.2.2.2.2.1, up2 V 148 9 0, ?_, ?_, S, P, h.thr 0⟩
  · show f5_requestsServed V = _
    unfold f5_requestsServed
    simp only [ck_t hq, aP0, hp.2.2.2.2.1]
  · show f6_requestsServed V = _
    unfold f6_requestsServed
    simp only [f6_plain, bd2_s, hm.2.2.2.2.1]
