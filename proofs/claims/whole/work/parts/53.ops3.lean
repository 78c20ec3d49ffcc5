/-! more calls that go through the bookings -/
theorem mk_b {V : VV} {S : Su} {P : Pl} (h : RV V S P) : ∀ i, i < P.2.2.2.2.2.1.length → okB S.2.2.length (V 54 i, V 55 i, V 56 i, V 57 i) := fun i hi => (h.ck.b hi).2.2
theorem swL {V : VV} {S : Su} {P : Pl} (h : RV V S P) : ∀ (k n n' i : Nat) (a : Int), k + 1 ≤ n → k + 1 ≤ n' → 1 ≤ i → k = P.2.2.2.2.2.1.length - i → i ≤ 21 → ∃ r, f5_directionSwitches_L4 V n a (i : Int) = some r ∧ f6_directionSwitches_L9 (up2 V 148 9 0) n' a (i : Int) = some r := by
  have hr := h.ck.ok.rg
  have hp := h.ck.pl
  have hm := (h.mk.thr 0).pl
  intro k
  induction k with
  | zero =>
    intro n n' i a hn hn' h1 hl h2
    obtain ⟨n, rfl⟩ : ∃ m, n = m + 1 := ⟨n - 1, by omega⟩
    obtain ⟨n', rfl⟩ : ∃ m, n' = m + 1 := ⟨n' - 1, by omega⟩
    refine ⟨a, ?_, ?_⟩
    · rw [f5_directionSwitches_L4]
      simp (disch := omega) only [ck_t, nrm_of, bd_s, bd2_s, bd3_s, bd4_s, Int.toNat_natCast, aP0, Nat.reduceAdd, Nat.zero_add, i10, i00, hp.2.2.2.2.2.1]
      rw [if_pos (by omega)]
    · rw [f6_directionSwitches_L9]
      simp (disch := omega) only [ck_t, nrm_of, bd_s, bd2_s, bd3_s, bd4_s, Int.toNat_natCast, aP0, Nat.reduceAdd, Nat.zero_add, i10, i00, hm.2.2.2.2.2.1]
      rw [if_pos (by omega)]
  | succ k ih =>
    intro n n' i a hn hn' h1 hl h2
    obtain ⟨n, rfl⟩ : ∃ m, n = m + 1 := ⟨n - 1, by omega⟩
    obtain ⟨n', rfl⟩ : ∃ m, n' = m + 1 := ⟨n' - 1, by omega⟩
    have hi : i < P.2.2.2.2.2.1.length := by omega
    have hI := fun a => ih n n' (i + 1) a (by omega) (by omega) (by omega) (by omega) (by omega)
    simp only [Int.natCast_add, Int.natCast_one] at hI
    have e1 : Int.toNat ((i : Int) - 1) = i - 1 := by omega
    have b1 := (mk_b h i hi).2.2.1
    have b2 := (mk_b h (i - 1) (by omega)).2.2.1
    simp only at b1 b2
    rw [f5_directionSwitches_L4, f6_directionSwitches_L9, M_ofB (i := i) (y := 1) (j := 1) rfl rfl (by omega) (by omega), M_ofB (i := i - 1) (y := 1) (j := 1) (by omega) rfl (by omega) (by omega), (h.bb hi).2.1, (h.bb (show i - 1 < _ by omega)).2.1]
    simp (disch := omega) only [ck_t, nrm_of, bd_s, bd2_s, bd3_s, bd4_s, Int.toNat_natCast, aP0, Nat.reduceAdd, Nat.zero_add, i10, i00, hp.2.2.2.2.2.1, hm.2.2.2.2.2.1, e1, Int.add_zero]
    have hc : ¬ (P.2.2.2.2.2.1.length : Int) ≤ (i : Int) := by omega
    rw [if_neg hc, if_neg hc]
    by_cases c : V 55 i = V 55 (i - 1)
    · rw [if_pos c, if_pos c]; exact hI a
    · rw [if_neg c, if_neg c]; exact hI (a + 1)
theorem op_directionSwitches : Op0 (fun V => f5_directionSwitches V) (fun V => f6_directionSwitches V) := by
  intro V S P h
  obtain ⟨r, g1, g2⟩ := swL h (P.2.2.2.2.2.1.length - 1) FU FU 1 0 (by have := FU_ge; have := h.ck.ok.rg; omega) (by have := FU_ge; have := h.ck.ok.rg; omega) (Nat.le_refl _) rfl (by omega)
  refine ⟨r, up2 V 148 9 0, ?_, ?_, S, P, h.thr 0⟩
  · show f5_directionSwitches V = _
    unfold f5_directionSwitches
    rw [show (1 : Int) = ((1 : Nat) : Int) from rfl, g1]
    rfl
  · show f6_directionSwitches V = _
    unfold f6_directionSwitches
    rw [show (1 : Int) = ((1 : Nat) : Int) from rfl, g2]
    rfl
theorem coL {V : VV} {S : Su} {P : Pl} (h : RV V S P) : ∀ (k n n' i : Nat) (a b : Int), k + 1 ≤ n → k + 1 ≤ n' → P.2.2.2.2.2.1.length = i + k → 0 ≤ a → a ≤ 20 → 0 ≤ b → b ≤ i → ∃ r, f5_longestConvoy_L6 V n a b (i : Int) = some r ∧ f6_longestConvoy_L11 (up2 V 148 9 0) n' a b (i : Int) = some r := by
  have hr := h.ck.ok.rg
  have hp := h.ck.pl
  have hm := (h.mk.thr 0).pl
  intro k
  induction k with
  | zero =>
    intro n n' i a b hn hn' hl a1 a2 b1 b2
    obtain ⟨n, rfl⟩ : ∃ m, n = m + 1 := ⟨n - 1, by omega⟩
    obtain ⟨n', rfl⟩ : ∃ m, n' = m + 1 := ⟨n' - 1, by omega⟩
    refine ⟨a, ?_, ?_⟩
    · rw [f5_longestConvoy_L6]
      simp (disch := omega) only [ck_t, nrm_of, bd_s, bd2_s, bd3_s, bd4_s, Int.toNat_natCast, aP0, Nat.reduceAdd, Nat.zero_add, i10, i00, hp.2.2.2.2.2.1]
      rw [if_pos (by omega)]
    · rw [f6_longestConvoy_L11]
      simp (disch := omega) only [ck_t, nrm_of, bd_s, bd2_s, bd3_s, bd4_s, Int.toNat_natCast, aP0, Nat.reduceAdd, Nat.zero_add, i10, i00, hm.2.2.2.2.2.1]
      rw [if_pos (by omega)]
  | succ k ih =>
    intro n n' i a b hn hn' hl a1 a2 b1 b2
    obtain ⟨n, rfl⟩ : ∃ m, n = m + 1 := ⟨n - 1, by omega⟩
    obtain ⟨n', rfl⟩ : ∃ m, n' = m + 1 := ⟨n' - 1, by omega⟩
    have hi : i < P.2.2.2.2.2.1.length := by omega
    have hI := fun a b => ih n n' (i + 1) a b (by omega) (by omega) (by omega)
    simp only [Int.natCast_add, Int.natCast_one] at hI
    have fin : ∀ z : Int, 0 < z → z ≤ i + 1 → ∃ r, f5_longestConvoy_L6 V n (mxI a z) z ((i : Int) + 1) = some r ∧ (if nrm z ≤ nrm a then f6_longestConvoy_L11 (up2 V 148 9 0) n' a z ((i : Int) + 1) else f6_longestConvoy_L11 (up2 V 148 9 0) n' z z ((i : Int) + 1)) = some r := by
      intro z z1 z2
      unfold mxI
      simp (disch := omega) only [nrm_of]
      by_cases c : z ≤ a
      · rw [if_pos c, if_neg (by omega)]
        exact hI a z a1 a2 (by omega) z2
      · rw [if_neg c, if_pos (by omega)]
        exact hI z z (by omega) (by omega) (by omega) z2
    by_cases i0 : i = 0
    · subst i0
      rw [f5_longestConvoy_L6, f6_longestConvoy_L11]
      simp (disch := omega) only [ck_t, nrm_of, bd_s, bd2_s, bd3_s, bd4_s, Int.toNat_natCast, aP0, Nat.reduceAdd, Nat.zero_add, i10, i00, hp.2.2.2.2.2.1, hm.2.2.2.2.2.1, nc0]
      have hc : ¬ (P.2.2.2.2.2.1.length : Int) ≤ 0 := by omega
      rw [if_neg hc, if_neg hc]
      simp (disch := omega) only [ck_t, nrm_of, bd_s, bd2_s, bd3_s, bd4_s, Int.toNat_natCast, aP0, Nat.reduceAdd, Nat.zero_add, i10, i00, if_true, Int.le_refl]
      have := fin 1 (by omega) (by omega)
      simp (disch := omega) only [nrm_of, nc0] at this
      exact this
    · have e1 : Int.toNat ((i : Int) - 1) = i - 1 := by omega
      have b1 := (mk_b h i hi).2.2.1
      have b2 := (mk_b h (i - 1) (by omega)).2.2.1
      simp only at b1 b2
      rw [f5_longestConvoy_L6, f6_longestConvoy_L11, M_ofB (i := i) (y := 1) (j := 1) rfl rfl (by omega) (by omega), M_ofB (i := i - 1) (y := 1) (j := 1) (by omega) rfl (by omega) (by omega), (h.bb hi).2.1, (h.bb (show i - 1 < _ by omega)).2.1]
      simp (disch := omega) only [ck_t, nrm_of, bd_s, bd2_s, bd3_s, bd4_s, Int.toNat_natCast, aP0, Nat.reduceAdd, Nat.zero_add, i10, i00, hp.2.2.2.2.2.1, hm.2.2.2.2.2.1, e1]
      have hc : ¬ (P.2.2.2.2.2.1.length : Int) ≤ (i : Int) := by omega
      have hc2 : ¬ (i : Int) ≤ 0 := by omega
      rw [if_neg hc, if_neg hc, if_neg hc2, if_neg hc2]
      by_cases c : V 55 i = V 55 (i - 1)
      · simp (disch := omega) only [c, if_true, bd_s, nrm_of, i10, if_false]
        have := fin (b + 1) (by omega) (by omega)
        simp (disch := omega) only [nrm_of] at this
        exact this
      · simp (disch := omega) only [c, if_true, bd_s, nrm_of, i00, if_false]
        have := fin 1 (by omega) (by omega)
        simp (disch := omega) only [nrm_of] at this
        exact this
theorem op_longestConvoy : Op0 (fun V => f5_longestConvoy V) (fun V => f6_longestConvoy V) := by
  intro V S P h
  obtain ⟨r, g1, g2⟩ := coL h P.2.2.2.2.2.1.length FU FU 0 0 0 (by have := FU_ge; have := h.ck.ok.rg; omega) (by have := FU_ge; have := h.ck.ok.rg; omega) (by omega) (by omega) (by omega) (by omega) (by omega)
  rw [nc0] at g1 g2
  refine ⟨r, up2 V 148 9 0, ?_, ?_, S, P, h.thr 0⟩
  · show f5_longestConvoy V = _
    unfold f5_longestConvoy
    rw [g1]
    rfl
  · show f6_longestConvoy V = _
    unfold f6_longestConvoy
    rw [g2]
    rfl
theorem op_whyNotMovable {x s : Int} (hx : rgI x) (hs : rgI s) : Op1 [eI, eA] (fun V => f5_whyNotMovable V x s) (fun V => f6_whyNotMovable V x s) := by
  intro V S P h
  have hr := h.ck.ok.rg
  by_cases c : 0 ≤ x ∧ x < (P.2.2.2.2.2.1.length : Int)
  · obtain ⟨i, rfl⟩ : ∃ i : Nat, x = (i : Int) := ⟨x.toNat, by omega⟩
    have hi : i < P.2.2.2.2.2.1.length := by omega
    obtain ⟨w0, w1, w2, w3⟩ := h.bb hi
    by_cases c2 : 0 ≤ s ∧ s ≤ 999
    · refine ⟨.ok (hnd S P i (V 54 i, V 55 i, V 56 i, V 57 i) s), V, _, up2 V 148 9 0, ?_, ?_, th0 (z := 0), fun r hr => okr hr rfl, S, P, h.thr 0⟩
      · show f5_whyNotMovable V (i : Int) s = _
        unfold f5_whyNotMovable
        rw [X_isBooking h.ck hx, if_pos c, X_isWithin hs (by constructor <;> omega) (by constructor <;> omega), if_pos c2, X_hindranceToMove h.ck hi c2]
        simp only [bd_s, n10, if_false]
      · show f6_whyNotMovable V (i : Int) s = _
        unfold f6_whyNotMovable
        rw [M_isBooking h.mk hx, if_pos c, M_in hs (by constructor <;> omega) (by constructor <;> omega), if_pos c2]
        simp only [bd_s, n10, if_false]
        rw [M_fails0]
        simp only [bd2_s, n00, if_true]
        rw [M_movingReason (h.mk.thr 0) hi c2]
        simp only [up9, bd_s, w0, w1, w2, w3]
    · refine ⟨.error eA, V, 0, up2 V 148 9 2, ?_, ?_, (up2_s _ _ _ _).trans (cod_2 eIA).symm, fun r hr => ner hr, S, P, h.thr 2⟩
      · show f5_whyNotMovable V (i : Int) s = _
        unfold f5_whyNotMovable
        rw [X_isBooking h.ck hx, if_pos c, X_isWithin hs (by constructor <;> omega) (by constructor <;> omega), if_neg c2]
        simp only [bd_s, n10, n00, if_false, if_true]
      · show f6_whyNotMovable V (i : Int) s = _
        unfold f6_whyNotMovable
        rw [M_isBooking h.mk hx, if_pos c, M_in hs (by constructor <;> omega) (by constructor <;> omega), if_neg c2]
        simp only [bd_s, n10, n00, if_false, if_true]
        rw [M_fails2 (Or.inl rfl)]
        simp only [bd2_s, n10, if_false]
  · refine ⟨.error eI, V, 0, up2 V 148 9 1, ?_, ?_, (up2_s _ _ _ _).trans cod_1.symm, fun r hr => ner hr, S, P, h.thr 1⟩
    · show f5_whyNotMovable V x s = _
      unfold f5_whyNotMovable
      rw [X_isBooking h.ck hx, if_neg c]
      simp only [bd_s, n00, if_true]
    · show f6_whyNotMovable V x s = _
      unfold f6_whyNotMovable
      rw [M_isBooking h.mk hx, if_neg c, M_in hs (by constructor <;> omega) (by constructor <;> omega)]
      simp only [bd_s, n00, if_true]
      rw [n_not]
      simp only [bd_s]
      rw [M_fails1 p01 (Or.inl rfl)]
      simp only [bd2_s, n10, if_false]
theorem wwL {V : VV} {S : Su} {P : Pl} (h : RV V S P) : ∀ (k n n' i : Nat) (a : Int), k + 1 ≤ n → k + 1 ≤ n' → P.2.2.2.2.2.2.length = i + k → ∃ r, f5_waitingWeight_L4 V n a (i : Int) = some r ∧ f6_waitingWeight_L9 (up2 V 148 9 0) n' a (i : Int) = some r := by
  have hr := h.ck.ok.rg
  have hp := h.ck.pl
  have hm := (h.mk.thr 0).pl
  have hs := h.ck.su
  have hq := h.ck.2.2.1
  intro k
  induction k with
  | zero =>
    intro n n' i a hn hn' hl
    obtain ⟨n, rfl⟩ : ∃ m, n = m + 1 := ⟨n - 1, by omega⟩
    obtain ⟨n', rfl⟩ : ∃ m, n' = m + 1 := ⟨n' - 1, by omega⟩
    refine ⟨a, ?_, ?_⟩
    · rw [f5_waitingWeight_L4]
      simp (disch := omega) only [ck_t, nrm_of, bd_s, bd2_s, bd3_s, bd4_s, Int.toNat_natCast, aP0, Nat.reduceAdd, Nat.zero_add, i10, i00, hp.2.2.2.2.2.2]
      rw [if_pos (by omega)]
    · rw [f6_waitingWeight_L9]
      simp (disch := omega) only [ck_t, nrm_of, bd_s, bd2_s, bd3_s, bd4_s, Int.toNat_natCast, aP0, Nat.reduceAdd, Nat.zero_add, i10, i00, hm.2.2.2.2.2.2]
      rw [if_pos (by omega)]
  | succ k ih =>
    intro n n' i a hn hn' hl
    obtain ⟨n, rfl⟩ : ∃ m, n = m + 1 := ⟨n - 1, by omega⟩
    obtain ⟨n', rfl⟩ : ∃ m, n' = m + 1 := ⟨n' - 1, by omega⟩
    have hi : i < P.2.2.2.2.2.2.length := by omega
    have hI := fun a => ih n n' (i + 1) a (by omega) (by omega) (by omega)
    simp only [Int.natCast_add, Int.natCast_one] at hI
    obtain ⟨-, -, b3⟩ := h.ck.r hi
    obtain ⟨u1, u2, u3, u4, u5, u6⟩ := b3
    simp only at u1 u2 u3 u4 u5 u6
    obtain ⟨j, hj⟩ : ∃ j : Nat, V 58 i = (j : Int) := ⟨(V 58 i).toNat, by omega⟩
    obtain ⟨t, e1, e2, k1, k2, k3, k4, k5⟩ := h.ck.s (i := j) (by omega)
    obtain ⟨t', e1', e2', m1, m2, m3, m4, m5⟩ := h.mk.s (i := j) (by omega)
    have et := Option.some.inj (e1.symm.trans e1')
    subst et
    rw [f5_waitingWeight_L4, f6_waitingWeight_L9, M_ofRequest (i := i) (y := 0) (j := 0) rfl rfl (by omega) (by omega)]
    simp only [bd_s, up9, Nat.add_zero]
    rw [(h.rr hi).1, hj, M_ofShip (i := j) (y := 9) (j := 9) rfl rfl (by omega) (by omega)]
    simp (disch := omega) only [ck_t, nrm_of, bd_s, bd2_s, bd3_s, bd4_s, Int.toNat_natCast, aP0, Nat.reduceAdd, Nat.zero_add, i10, i00, hp.2.2.2.2.2.2, hm.2.2.2.2.2.2, h.mk.pl.2.2.2.2.2.2, up9, m4, hj, k4]
    have hc : ¬ (P.2.2.2.2.2.2.length : Int) ≤ (i : Int) := by omega
    rw [if_neg hc, if_neg hc]
    exact hI _
theorem op_waitingWeight : Op0 (fun V => f5_waitingWeight V) (fun V => f6_waitingWeight V) := by
  intro V S P h
  obtain ⟨r, g1, g2⟩ := wwL h P.2.2.2.2.2.2.length FU FU 0 0 (by have := FU_ge; have := h.ck.ok.rg; omega) (by have := FU_ge; have := h.ck.ok.rg; omega) (by omega)
  rw [nc0] at g1 g2
  refine ⟨r, up2 V 148 9 0, ?_, ?_, S, P, h.thr 0⟩
  · show f5_waitingWeight V = _
    unfold f5_waitingWeight
    rw [g1]
    rfl
  · show f6_waitingWeight V = _
    unfold f6_waitingWeight
    rw [g2]
    rfl
theorem okP.pw {S : Su} {P : Pl} (h : okP S P) {i j : Nat} {a b : Bk} (hij : i < j) (ha : P.2.2.2.2.2.1[i]? = some a) (hb : P.2.2.2.2.2.1[j]? = some b) : okO S.1 S.2.1 a b := by
  obtain ⟨hi, ei⟩ := List.getElem?_eq_some_iff.mp ha
  obtain ⟨hj, ej⟩ := List.getElem?_eq_some_iff.mp hb
  have := List.pairwise_iff_getElem.mp h.2.2.2.2.2 i j hi hj hij
  rwa [ei, ej] at this
theorem okP.cf {S : Su} {P : Pl} (h : okP S P) {i j : Nat} {a b : Bk} (hij : i < j) (ha : P.2.2.2.2.2.1[i]? = some a) (hb : P.2.2.2.2.2.1[j]? = some b) : cf S a b.2.1 b.2.2.1 b.2.2.2 = false := decide_eq_false (h.pw hij ha hb).2
theorem op_inconsistencies : Op0 (fun V => f5_inconsistencies V) (fun V => f6_inconsistencies V) := by
  intro V S P h
  have hr := h.ck.ok.rg
  have hp := h.ck.pl
  have hm := (h.mk.thr 0).pl
  have x60 : ∀ (i : Nat), i < P.2.2.2.2.2.1.length → ∀ (k n j : Nat) (a : Int), k + 1 ≤ n → i = j + k → f5_inconsistencies_L60 V (i : Int) (V 57 i - V 56 i) n a (j : Int) = some a := by
    intro i hi k
    induction k with
    | zero =>
      intro n j a hn hl
      obtain ⟨n, rfl⟩ : ∃ m, n = m + 1 := ⟨n - 1, by omega⟩
      rw [f5_inconsistencies_L60]
      simp (disch := omega) only [ck_t, nrm_of, bd_s, bd2_s, bd3_s, bd4_s, Int.toNat_natCast, aP0, Nat.reduceAdd, Nat.zero_add, i10, i00]
      rw [if_pos (by omega)]
    | succ k ih =>
      intro n j a hn hl
      obtain ⟨n, rfl⟩ : ∃ m, n = m + 1 := ⟨n - 1, by omega⟩
      have hI := ih n (j + 1) a (by omega) (by omega)
      rw [Int.natCast_add, Int.natCast_one] at hI
      obtain ⟨-, c2, b3⟩ := h.ck.b hi
      obtain ⟨u1, u2, u3, u4, u5, u6, u7⟩ := b3
      simp only at u1 u2 u3 u4 u5 u6 u7
      have hcf := h.ck.ok.cf (show j < i by omega) (h.ck.b (show j < _ by omega)).2.1 c2
      simp only at hcf
      have e : V 56 i + (V 57 i - V 56 i) = V 57 i := by omega
      rw [f5_inconsistencies_L60]
      simp (disch := omega) only [ck_t, nrm_of, bd_s, bd2_s, bd3_s, bd4_s, Int.toNat_natCast, aP0, Nat.reduceAdd, Nat.zero_add, i10, i00]
      rw [if_neg (by omega), X_clashes h.ck (show j < _ by omega) u3 (by omega) (by omega), e, hcf]
      simp only [bd_s, Bool.false_eq_true, if_false, n00, i00, if_true]
      exact hI
  have x26 : ∀ (k n i : Nat) (a : Int), k + 1 ≤ n → P.2.2.2.2.2.1.length = i + k → f5_inconsistencies_L26 V n a (i : Int) = some a := by
    intro k
    induction k with
    | zero =>
      intro n i a hn hl
      obtain ⟨n, rfl⟩ : ∃ m, n = m + 1 := ⟨n - 1, by omega⟩
      rw [f5_inconsistencies_L26]
      simp (disch := omega) only [ck_t, nrm_of, bd_s, bd2_s, bd3_s, bd4_s, Int.toNat_natCast, aP0, Nat.reduceAdd, Nat.zero_add, i10, i00, hp.2.2.2.2.2.1]
      rw [if_pos (by omega)]
    | succ k ih =>
      intro n i a hn hl
      obtain ⟨n, rfl⟩ : ∃ m, n = m + 1 := ⟨n - 1, by omega⟩
      have hI := ih n (i + 1) a (by omega) (by omega)
      rw [Int.natCast_add, Int.natCast_one] at hI
      have h60 := x60 i (by omega) i FU 0 a (by have := FU_ge; omega) (by omega)
      rw [nc0] at h60
      rw [f5_inconsistencies_L26]
      simp (disch := omega) only [ck_t, nrm_of, bd_s, bd2_s, bd3_s, bd4_s, Int.toNat_natCast, aP0, Nat.reduceAdd, Nat.zero_add, i10, i00, hp.2.2.2.2.2.1]
      rw [if_neg (by omega), h60]
      exact hI
  have m44 : ∀ (i : Nat), i < P.2.2.2.2.2.1.length → ∀ (k n j : Nat) (a : Int), k + 1 ≤ n → i < j → P.2.2.2.2.2.1.length = j + k → f6_inconsistencies_L44 (up2 V 148 9 0) (i : Int) n a (j : Int) = some a := by
    intro i hi k
    induction k with
    | zero =>
      intro n j a hn hij hl
      obtain ⟨n, rfl⟩ : ∃ m, n = m + 1 := ⟨n - 1, by omega⟩
      rw [f6_inconsistencies_L44]
      simp (disch := omega) only [ck_t, nrm_of, bd_s, bd2_s, bd3_s, bd4_s, Int.toNat_natCast, aP0, Nat.reduceAdd, Nat.zero_add, i10, i00, hm.2.2.2.2.2.1]
      rw [if_pos (by omega)]
    | succ k ih =>
      intro n j a hn hij hl
      obtain ⟨n, rfl⟩ : ∃ m, n = m + 1 := ⟨n - 1, by omega⟩
      have hI := ih n (j + 1) a (by omega) (by omega) (by omega)
      rw [Int.natCast_add, Int.natCast_one] at hI
      obtain ⟨-, c2, b3⟩ := (h.mk.thr 0).b (show j < _ by omega)
      obtain ⟨u1, u2, u3, u4, u5, u6, u7⟩ := b3
      simp only [up9] at u1 u2 u3 u4 u5 u6 u7
      have hcf := h.mk.ok.cf hij ((h.mk.thr 0).b hi).2.1 c2
      simp only [up9] at hcf
      rw [f6_inconsistencies_L44, M_ofB (i := j) (y := 1) (j := 1) rfl rfl (by omega) (by omega), M_ofB (i := j) (y := 2) (j := 2) rfl rfl (by omega) (by omega), M_ofB (i := j) (y := 3) (j := 3) rfl rfl (by omega) (by omega)]
      simp only [bd_s]
      rw [M_conflictsWith (h.mk.thr 0) hi u3 (by omega) (by omega)]
      simp (disch := omega) only [ck_t, nrm_of, bd_s, bd2_s, bd3_s, bd4_s, Int.toNat_natCast, aP0, Nat.reduceAdd, Nat.zero_add, i10, i00, hm.2.2.2.2.2.1, up9, hcf, Bool.false_eq_true, if_false, if_true, Int.add_zero]
      rw [if_neg (by omega)]
      exact hI
  have m30 : ∀ (k n i : Nat) (a : Int), k + 1 ≤ n → P.2.2.2.2.2.1.length = i + k → f6_inconsistencies_L30 (up2 V 148 9 0) n a (i : Int) = some a := by
    intro k
    induction k with
    | zero =>
      intro n i a hn hl
      obtain ⟨n, rfl⟩ : ∃ m, n = m + 1 := ⟨n - 1, by omega⟩
      rw [f6_inconsistencies_L30]
      simp (disch := omega) only [ck_t, nrm_of, bd_s, bd2_s, bd3_s, bd4_s, Int.toNat_natCast, aP0, Nat.reduceAdd, Nat.zero_add, i10, i00, hm.2.2.2.2.2.1]
      rw [if_pos (by omega)]
    | succ k ih =>
      intro n i a hn hl
      obtain ⟨n, rfl⟩ : ∃ m, n = m + 1 := ⟨n - 1, by omega⟩
      have hI := ih n (i + 1) a (by omega) (by omega)
      rw [Int.natCast_add, Int.natCast_one] at hI
      have h44 := m44 i (by omega) k FU (i + 1) a (by have := FU_ge; omega) (by omega) (by omega)
      rw [Int.natCast_add, Int.natCast_one] at h44
      rw [f6_inconsistencies_L30]
      simp (disch := omega) only [ck_t, nrm_of, bd_s, bd2_s, bd3_s, bd4_s, Int.toNat_natCast, aP0, Nat.reduceAdd, Nat.zero_add, i10, i00, hm.2.2.2.2.2.1]
      rw [if_neg (by omega), h44]
      exact hI
  refine ⟨P.2.2.1 - P.2.2.2.1 - (P.2.2.2.2.2.1.length : Int), up2 V 148 9 0, ?_, ?_, S, P, h.thr 0⟩
  · show f5_inconsistencies V = _
    have hk := x26 P.2.2.2.2.2.1.length FU 0 (P.2.2.1 - P.2.2.2.1 - (P.2.2.2.2.2.1.length : Int)) (by have := FU_ge; omega) (by omega)
    rw [nc0] at hk
    unfold f5_inconsistencies
    simp only [aP0, hp.2.2.1, hp.2.2.2.1, hp.2.2.2.2.2.1]
    rw [hk]
    rfl
  · show f6_inconsistencies V = _
    have hk := m30 P.2.2.2.2.2.1.length FU 0 (P.2.2.1 - P.2.2.2.1 - (P.2.2.2.2.2.1.length : Int)) (by have := FU_ge; omega) (by omega)
    rw [nc0] at hk
    unfold f6_inconsistencies
    simp only [hm.2.2.1, hm.2.2.2.1, hm.2.2.2.2.2.1]
    rw [hk]
    rfl
/-- the slack -/
def slk (fit : Int → Bool) : Nat → Int → Int
  | 0, k => k
  | m + 1, k => if fit k = true then slk fit m (k + 1) else k
theorem slk_eq {fit : Int → Bool} {L : Int} : ∀ (m : Nat) (k : Int), k ≤ L → L ≤ k + m → (∀ j, k ≤ j → j < L → fit j = true) → (L < k + m → fit L = false) → slk fit m k = L := by
  intro m
  induction m with
  | zero => intro k h1 h2 _ _; rw [slk]; omega
  | succ m ih =>
    intro k h1 h2 h3 h4
    rw [slk]
    by_cases c : k = L
    · rw [if_neg (by rw [c, h4 (by omega)]; decide), c]
    · rw [if_pos (h3 k (by omega) (by omega))]
      exact ih (k + 1) (by omega) (by omega) (fun j a b => h3 j (by omega) b) (fun q => h4 (by omega))
def mfb (S : Su) (y d : Int) : List Bk → Int → Int
  | [], a => a
  | b :: l, a => mfb S y d l (if FBb S y d b < a then FBb S y d b else a)
theorem mfb_le {S : Su} {y d : Int} {l : List Bk} : ∀ {a : Int}, mfb S y d l a ≤ a ∧ ∀ b ∈ l, mfb S y d l a ≤ FBb S y d b := by
  induction l with
  | nil => intro a; exact ⟨Int.le_refl _, fun b hb => absurd hb List.not_mem_nil⟩
  | cons c l ih =>
    intro a
    rw [mfb]
    obtain ⟨h1, h2⟩ := ih (a := if FBb S y d c < a then FBb S y d c else a)
    have h3 : (if FBb S y d c < a then FBb S y d c else a) ≤ a ∧ (if FBb S y d c < a then FBb S y d c else a) ≤ FBb S y d c := by split <;> omega
    refine ⟨by omega, fun b hb => ?_⟩
    rcases List.mem_cons.mp hb with e | e
    · rw [e]; omega
    · exact h2 b e
theorem mfb_at {S : Su} {y d : Int} {l : List Bk} : ∀ {a : Int}, mfb S y d l a = a ∨ ∃ b ∈ l, mfb S y d l a = FBb S y d b := by
  induction l with
  | nil => intro a; exact Or.inl rfl
  | cons c l ih =>
    intro a
    rw [mfb]
    rcases ih (a := if FBb S y d c < a then FBb S y d c else a) with q | ⟨b, hb, q⟩
    · rw [q]
      split
      · exact Or.inr ⟨c, List.mem_cons_self, rfl⟩
      · exact Or.inl rfl
    · exact Or.inr ⟨b, List.mem_cons_of_mem _ hb, q⟩
theorem X_slkL {V : VV} {S : Su} {P : Pl} (h : CK V S P) {i : Nat} {z : Int} (hi : i < P.2.2.2.2.2.1.length) {d : Int} (hd : 1 ≤ d ∧ d ≤ 78) : ∀ (k n j : Nat) (a : Int), k + 1 ≤ n → k = P.2.2.2.2.2.1.length - j → j ≤ 21 → -5000 ≤ a → a ≤ 5000 → f5_slack_L40 V (i : Int) z d n a (j : Int) = some (mfb S (V 55 i) d (P.2.2.2.2.2.1.drop j) a) := by
  have hr := h.ok.rg
  have hp := h.pl
  intro k
  induction k with
  | zero =>
    intro n j a hn hl hj a1 a2
    obtain ⟨n, rfl⟩ : ∃ m, n = m + 1 := ⟨n - 1, by omega⟩
    rw [f5_slack_L40, List.drop_eq_nil_of_le (by omega)]
    simp (disch := omega) only [ck_t, nrm_of, bd_s, bd2_s, bd3_s, bd4_s, Int.toNat_natCast, aP0, Nat.reduceAdd, Nat.zero_add, i10, i00, hp.2.2.2.2.2.1]
    rw [if_pos (by omega)]
    rfl
  | succ k ih =>
    intro n j a hn hl hj a1 a2
    obtain ⟨n, rfl⟩ : ∃ m, n = m + 1 := ⟨n - 1, by omega⟩
    have hjl : j < P.2.2.2.2.2.1.length := by omega
    have hI := fun a => ih n (j + 1) a (by omega) (by omega) (by omega)
    simp only [Int.natCast_add, Int.natCast_one] at hI
    obtain ⟨b1, -, b3⟩ := h.b hjl
    have hfr := FB_rg (y := V 55 i) h.2.2.2.1 b3 hd
    have e1 : (if V 55 j = V 55 i then some (1 : Int) else some 0) = some (if V 55 j = V 55 i then 1 else 0) := by split <;> rfl
    have hy2 : (if V 55 j = V 55 i then (1 : Int) else 0) = 0 ∨ (if V 55 j = V 55 i then (1 : Int) else 0) = 1 := by split <;> simp
    have c3 := (h.b hi).2.2.2.2.1
    simp only at c3
    obtain ⟨g1, g2, g3, g4, g5, g6, g7⟩ := b3
    simp only at g1 g2 g3 g4 g5 g6 g7 hfr
    have k1 := X_freeBefore h (s := V 56 j) (e := V 57 j) (y := if V 55 j = V 55 i then 1 else 0) (d := d) (by omega) (by omega) hy2 (by omega)
    have q1 : FBb S (V 55 i) d (V 54 j, V 55 j, V 56 j, V 57 j) = fbI S.1 S.2.1 (V 56 j) (V 57 j) (if V 55 j = V 55 i then 1 else 0) d := rfl
    rw [← q1] at k1
    rw [b1, mfb]
    generalize FBb S (V 55 i) d (V 54 j, V 55 j, V 56 j, V 57 j) = fb at *
    rw [f5_slack_L40]
    simp (disch := omega) only [ck_t, nrm_of, bd_s, bd2_s, bd3_s, bd4_s, Int.toNat_natCast, aP0, Nat.reduceAdd, Nat.zero_add, i10, i00, hp.2.2.2.2.2.1, e1, k1]
    rw [if_neg (by omega)]
    have em : mnI a fb = if fb < a then fb else a := by
      unfold mnI
      simp (disch := omega) only [nrm_of]
    rw [em, hI _ (by split <;> omega) (by split <;> omega)]
theorem M_slkL {V : VV} {S : Su} {P : Pl} (h : MK V S P) {i : Nat} (hi : i < P.2.2.2.2.2.1.length) : ∀ (m n : Nat) (k : Int), m + 1 ≤ n → (999 - V 149 (110 + 4 * i + 2) - k).toNat = m → 0 ≤ k → k ≤ 1000 → f6_slack_L26 V (i : Int) n k = some (slk (fun k => frB S P.2.2.2.2.2.1 (V 149 (110 + 4 * i + 1)) (V 149 (110 + 4 * i + 3) - V 149 (110 + 4 * i + 2)) (i : Int) (V 149 (110 + 4 * i + 2) + k + 1)) m k) := by
  have hr := h.ok.rg
  obtain ⟨-, -, b3⟩ := h.b hi
  obtain ⟨u1, u2, u3, u4, u5, u6, u7⟩ := b3
  simp only at u1 u2 u3 u4 u5 u6 u7
  intro m
  induction m with
  | zero =>
    intro n k hn hm h1 h2
    obtain ⟨n, rfl⟩ : ∃ m, n = m + 1 := ⟨n - 1, by omega⟩
    rw [f6_slack_L26, M_ofBooking (i := i) (y := 2) (j := 2) rfl rfl (by omega) (by omega)]
    simp (disch := omega) only [ck_t, nrm_of, bd_s, bd2_s, bd3_s, bd4_s, Int.toNat_natCast, aP0, Nat.reduceAdd, Nat.zero_add, i10, i00]
    rw [if_pos (by omega)]
    rfl
  | succ m ih =>
    intro n k hn hm h1 h2
    obtain ⟨n, rfl⟩ : ∃ m, n = m + 1 := ⟨n - 1, by omega⟩
    rw [f6_slack_L26, M_ofBooking (i := i) (y := 2) (j := 2) rfl rfl (by omega) (by omega)]
    simp (disch := omega) only [ck_t, nrm_of, bd_s, bd2_s, bd3_s, bd4_s, Int.toNat_natCast, aP0, Nat.reduceAdd, Nat.zero_add, i10, i00]
    rw [if_neg (by omega), M_fitsAt h hi (by omega), slk]
    by_cases c : frB S P.2.2.2.2.2.1 (V 149 (110 + 4 * i + 1)) (V 149 (110 + 4 * i + 3) - V 149 (110 + 4 * i + 2)) (i : Int) (V 149 (110 + 4 * i + 2) + k + 1) = true
    · rw [if_pos c, if_pos c]
      simp only [bd_s, n10, if_false]
      exact ih n (k + 1) (by omega) (by omega) (by omega) (by omega)
    · rw [if_neg c, if_neg c]
      simp only [bd_s, n00, if_true]
theorem slack_eq {S : Su} {P : Pl} (hS : okS S) (h : okP S P) {i : Nat} {b : Bk} (hb : P.2.2.2.2.2.1[i]? = some b) : slk (fun k => frB S P.2.2.2.2.2.1 b.2.1 (b.2.2.2 - b.2.2.1) (i : Int) (b.2.2.1 + k + 1)) (999 - b.2.2.1).toNat 0 = mfb S b.2.1 (b.2.2.2 - b.2.2.1) (P.2.2.2.2.2.1.drop (i + 1)) 999 - b.2.2.1 := by
  have ob := h.2.2.2.1 b (List.mem_of_getElem? hb)
  obtain ⟨u1, u2, u3, u4, u5, u6, u7⟩ := ob
  have hd : 1 ≤ b.2.2.2 - b.2.2.1 ∧ b.2.2.2 - b.2.2.1 ≤ 78 := by omega
  have hse : b.2.2.1 + (b.2.2.2 - b.2.2.1) = b.2.2.2 := by omega
  have early : ∀ (j : Nat) (c : Bk), j < i → P.2.2.2.2.2.1[j]? = some c → FAb S b.2.1 (b.2.2.2 - b.2.2.1) c ≤ b.2.2.1 := by
    intro j c hj hc
    have oc := h.2.2.2.1 c (List.mem_of_getElem? hc)
    have hpw := h.pw hj hc hb
    have hcf := h.cf hj hc hb
    have hr := FB_rg (y := b.2.1) hS oc hd
    by_cases q : FAb S b.2.1 (b.2.2.2 - b.2.2.1) c ≤ b.2.2.1
    · exact q
    · have := (cf_iff (y := b.2.1) (s := b.2.2.1) hS oc hd.1).mpr ⟨by have := hpw.1; omega, by omega⟩
      rw [hse, hcf] at this
      exact absurd this (by decide)
  have late : ∀ (j : Nat) (c : Bk), i < j → P.2.2.2.2.2.1[j]? = some c → b.2.2.1 ≤ FBb S b.2.1 (b.2.2.2 - b.2.2.1) c ∧ FBb S b.2.1 (b.2.2.2 - b.2.2.1) c + 2 ≤ FAb S b.2.1 (b.2.2.2 - b.2.2.1) c := by
    intro j c hj hc
    have oc := h.2.2.2.1 c (List.mem_of_getElem? hc)
    have hpw := h.pw hj hb hc
    have hr := FB_rg (y := b.2.1) hS oc hd
    refine ⟨?_, by omega⟩
    by_cases q : b.2.2.1 ≤ FBb S b.2.1 (b.2.2.2 - b.2.2.1) c
    · exact q
    · have := (cf_iff (y := b.2.1) (s := b.2.2.1) hS oc hd.1).mpr ⟨by omega, by have := hpw.1; omega⟩
      rw [hse] at this
      unfold cf at this
      exact absurd (conf_sym.mp (of_decide_eq_true this)) hpw.2
  obtain ⟨l1, l2⟩ := mfb_le (S := S) (y := b.2.1) (d := b.2.2.2 - b.2.2.1) (l := P.2.2.2.2.2.1.drop (i + 1)) (a := 999)
  have l3 := mfb_at (S := S) (y := b.2.1) (d := b.2.2.2 - b.2.2.1) (l := P.2.2.2.2.2.1.drop (i + 1)) (a := 999)
  have dropAt : ∀ c, c ∈ P.2.2.2.2.2.1.drop (i + 1) → ∃ j, i < j ∧ P.2.2.2.2.2.1[j]? = some c := by
    intro c hc
    obtain ⟨m, hm, hmc⟩ := List.getElem_of_mem hc
    rw [List.length_drop] at hm
    rw [List.getElem_drop] at hmc
    exact ⟨i + 1 + m, by omega, by rw [← hmc]; exact List.getElem?_eq_getElem (by omega)⟩
  have lo : b.2.2.1 ≤ mfb S b.2.1 (b.2.2.2 - b.2.2.1) (P.2.2.2.2.2.1.drop (i + 1)) 999 := by
    rcases l3 with q | ⟨c, hc, q⟩
    · omega
    · obtain ⟨j, j1, j2⟩ := dropAt c hc
      rw [q]
      exact (late j c j1 j2).1
  generalize hL : mfb S b.2.1 (b.2.2.2 - b.2.2.1) (P.2.2.2.2.2.1.drop (i + 1)) 999 = L at *
  refine slk_eq _ 0 (by omega) (by omega) (fun k k1 k2 => ?_) (fun q => ?_)
  · refine frB_iff.mpr (fun j c hc hne => ?_)
    have oc := h.2.2.2.1 c (List.mem_of_getElem? hc)
    cases hcf : cf S c b.2.1 (b.2.2.1 + k + 1) (b.2.2.1 + k + 1 + (b.2.2.2 - b.2.2.1)) with
    | false => rfl
    | true =>
      have hz := (cf_iff hS oc hd.1).mp hcf
      rcases Nat.lt_trichotomy j i with q | q | q
      · have := early j c q hc
        omega
      · exact absurd (by rw [q]) hne
      · have hjm : c ∈ P.2.2.2.2.2.1.drop (i + 1) := by
          have hjl := (List.getElem?_eq_some_iff.mp hc)
          obtain ⟨hjl, hjc⟩ := hjl
          refine List.mem_iff_getElem.mpr ⟨j - (i + 1), by rw [List.length_drop]; omega, ?_⟩
          rw [List.getElem_drop]
          have e : i + 1 + (j - (i + 1)) = j := by omega
          simp only [e]
          exact hjc
        have := l2 c hjm
        omega
  · rcases l3 with z | ⟨c, hc, z⟩
    · omega
    · obtain ⟨j, j1, j2⟩ := dropAt c hc
      have oc := h.2.2.2.1 c (List.mem_of_getElem? j2)
      have hl := late j c j1 j2
      cases hf : frB S P.2.2.2.2.2.1 b.2.1 (b.2.2.2 - b.2.2.1) (i : Int) (b.2.2.1 + (L - b.2.2.1) + 1) with
      | false => rfl
      | true =>
        have := frB_iff.mp hf j c j2 (by omega)
        rw [(cf_iff hS oc hd.1).mpr ⟨by omega, by omega⟩] at this
        exact absurd this (by decide)
theorem op_slack {x : Int} (hx : rgI x) : Op1 [eI] (fun V => f5_slack V x) (fun V => f6_slack V x) := by
  intro V S P h
  have hr := h.ck.ok.rg
  by_cases c : 0 ≤ x ∧ x < (P.2.2.2.2.2.1.length : Int)
  · obtain ⟨i, rfl⟩ : ∃ i : Nat, x = (i : Int) := ⟨x.toNat, by omega⟩
    have hi : i < P.2.2.2.2.2.1.length := by omega
    obtain ⟨w0, w1, w2, w3⟩ := h.bb hi
    obtain ⟨-, c2, b3⟩ := h.ck.b hi
    obtain ⟨u1, u2, u3, u4, u5, u6, u7⟩ := b3
    simp only at u1 u2 u3 u4 u5 u6 u7
    have hse := slack_eq h.ck.2.2.2.1 h.ck.ok c2
    simp only at hse
    refine ⟨.ok (mfb S (V 55 i) (V 57 i - V 56 i) (P.2.2.2.2.2.1.drop (i + 1)) 999 - V 56 i), V, _, up2 V 148 9 0, ?_, ?_, th0 (z := 0), fun r hr => okr hr rfl, S, P, h.thr 0⟩
    · show f5_slack V (i : Int) = _
      have hk := X_slkL h.ck (i := i) (z := V 56 i) hi (d := V 57 i - V 56 i) (by omega) (P.2.2.2.2.2.1.length - (i + 1)) FU (i + 1) 999 (by have := FU_ge; omega) rfl (by omega) (by omega) (by omega)
      rw [Int.natCast_add, Int.natCast_one] at hk
      unfold f5_slack
      rw [X_isBooking h.ck hx, if_pos c]
      simp (disch := omega) only [ck_t, nrm_of, bd_s, bd2_s, bd3_s, bd4_s, Int.toNat_natCast, aP0, Nat.reduceAdd, Nat.zero_add, i10, i00, n10, if_false]
      rw [hk]
      rfl
    · show f6_slack V (i : Int) = _
      have hk := M_slkL (h.mk.thr 0) hi (999 - V 56 i).toNat FU 0 (by have := FU_ge; omega) (by rw [up9, w2]; omega) (by omega) (by omega)
      simp only [up9, w1, w2, w3] at hk
      rw [hse] at hk
      unfold f6_slack
      rw [M_isBooking h.mk hx, if_pos c]
      simp only [bd_s, n10, if_false]
      rw [M_fails0]
      simp only [bd2_s, n00, if_true]
      rw [hk]
      rfl
  · refine ⟨.error eI, V, 0, up2 V 148 9 1, ?_, ?_, (up2_s _ _ _ _).trans cod_1.symm, fun r hr => ner hr, S, P, h.thr 1⟩
    · show f5_slack V x = _
      unfold f5_slack
      rw [X_isBooking h.ck hx, if_neg c]
      simp only [bd_s, n00, if_true]
    · show f6_slack V x = _
      unfold f6_slack
      rw [M_isBooking h.mk hx, if_neg c]
      simp only [bd_s, n00, if_true]
      rw [M_fails1 (Or.inl rfl) (Or.inl rfl)]
      simp only [bd2_s, n10, if_false]
