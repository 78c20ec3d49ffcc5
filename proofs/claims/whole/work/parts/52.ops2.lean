/-! the calls that go through the bookings -/
theorem M_ofB {V : VV} {x y : Int} {i j : Nat} (hx : x = (i : Int)) (hy : y = (j : Int)) (hi : i < 20) (hj : j < 4) {z : Int} : f6_ofBooking (up2 V 148 9 z) x y = some (V 149 (110 + 4 * i + j)) := by
  rw [M_ofBooking hx hy hi hj, up9]
/-- how many bookings are in the channel at a minute -/
def inc (t : Int) : List Bk → Int
  | [] => 0
  | b :: l => (if b.2.2.1 ≤ t ∧ t < b.2.2.2 then 1 else 0) + inc t l
theorem X_occL {V : VV} {S : Su} {P : Pl} (h : CK V S P) {t : Int} (ht : rgI t) : ∀ (k n i : Nat) (a : Int), k + 1 ≤ n → P.2.2.2.2.2.1.length = i + k → f5_occupancy_L15 V t n a (i : Int) = some (a + inc t (P.2.2.2.2.2.1.drop i)) := by
  have hr := h.ok.rg
  have hp := h.pl
  intro k
  induction k with
  | zero =>
    intro n i a hn hl
    obtain ⟨n, rfl⟩ : ∃ m, n = m + 1 := ⟨n - 1, by omega⟩
    rw [f5_occupancy_L15, List.drop_eq_nil_of_le (by omega)]
    simp (disch := omega) only [ck_t, nrm_of, bd_s, bd2_s, bd3_s, bd4_s, Int.toNat_natCast, aP0, Nat.reduceAdd, Nat.zero_add, i10, i00, hp.2.2.2.2.2.1]
    rw [if_pos (by omega)]
    simp [inc]
  | succ k ih =>
    intro n i a hn hl
    obtain ⟨n, rfl⟩ : ∃ m, n = m + 1 := ⟨n - 1, by omega⟩
    have hi : i < P.2.2.2.2.2.1.length := by omega
    have hI := fun a => ih n (i + 1) a (by omega) (by omega)
    simp only [Int.natCast_add, Int.natCast_one] at hI
    obtain ⟨b1, -, b3⟩ := h.b hi
    obtain ⟨u1, u2, u3, u4, u5, u6, u7⟩ := b3
    simp only at u1 u2 u3 u4 u5 u6 u7
    rw [f5_occupancy_L15, b1, inc]
    simp (disch := omega) only [ck_t, nrm_of, bd_s, bd2_s, bd3_s, bd4_s, Int.toNat_natCast, aP0, Nat.reduceAdd, Nat.zero_add, i10, i00, hp.2.2.2.2.2.1]
    rw [if_neg (by omega)]
    by_cases c : t < V 56 i
    · rw [if_pos c, hI, if_neg (by omega)]
      congr 1; omega
    · rw [if_neg c]
      by_cases c2 : V 57 i ≤ t
      · rw [if_pos c2, hI, if_neg (by omega)]
        congr 1; omega
      · rw [if_neg c2, hI, if_pos (by omega)]
        congr 1; omega
theorem M_shipsIn {V : VV} {S : Su} {P : Pl} (h : MK V S P) {t : Int} (ht : rgI t) : f6_shipsIn V t = some (inc t P.2.2.2.2.2.1) := by
  have hr := h.ok.rg
  have hp := h.pl
  have key : ∀ (k n i : Nat) (a : Int), k + 1 ≤ n → P.2.2.2.2.2.1.length = i + k → f6_shipsIn_L4 V t n a (i : Int) = some (a + inc t (P.2.2.2.2.2.1.drop i)) := by
    intro k
    induction k with
    | zero =>
      intro n i a hn hl
      obtain ⟨n, rfl⟩ : ∃ m, n = m + 1 := ⟨n - 1, by omega⟩
      rw [f6_shipsIn_L4, List.drop_eq_nil_of_le (by omega)]
      simp (disch := omega) only [ck_t, nrm_of, bd_s, bd2_s, bd3_s, bd4_s, Int.toNat_natCast, aP0, Nat.reduceAdd, Nat.zero_add, i10, i00, hp.2.2.2.2.2.1]
      rw [if_pos (by omega)]
      simp [inc]
    | succ k ih =>
      intro n i a hn hl
      obtain ⟨n, rfl⟩ : ∃ m, n = m + 1 := ⟨n - 1, by omega⟩
      have hi : i < P.2.2.2.2.2.1.length := by omega
      have hI := fun a => ih n (i + 1) a (by omega) (by omega)
      simp only [Int.natCast_add, Int.natCast_one] at hI
      obtain ⟨b1, -, b3⟩ := h.b hi
      obtain ⟨u1, u2, u3, u4, u5, u6, u7⟩ := b3
      simp only at u1 u2 u3 u4 u5 u6 u7
      rw [f6_shipsIn_L4, b1, inc, M_ofBooking (i := i) (y := 2) (j := 2) rfl rfl (by omega) (by omega), M_ofBooking (i := i) (y := 3) (j := 3) rfl rfl (by omega) (by omega)]
      simp (disch := omega) only [ck_t, nrm_of, bd_s, bd2_s, bd3_s, bd4_s, Int.toNat_natCast, aP0, Nat.reduceAdd, Nat.zero_add, i10, i00, hp.2.2.2.2.2.1, Int.add_zero]
      rw [if_neg (by omega)]
      by_cases c : t < V 149 (110 + 4 * i + 2)
      · rw [if_pos c, hI, if_neg (by omega)]
        congr 1; omega
      · rw [if_neg c]
        by_cases c2 : V 149 (110 + 4 * i + 3) ≤ t
        · rw [if_pos c2, hI, if_neg (by omega)]
          congr 1; omega
        · rw [if_neg c2, hI, if_pos (by omega)]
          congr 1; omega
  have hk := key P.2.2.2.2.2.1.length FU 0 0 (by have := FU_ge; omega) (by omega)
  rw [List.drop_zero, nc0, Int.zero_add] at hk
  unfold f6_shipsIn
  rw [hk]
  rfl
theorem op_occupancy {x : Int} (hx : rgI x) : Op1 [eA] (fun V => f5_occupancy V x) (fun V => f6_occupancy V x) := by
  intro V S P h
  have hr := h.ck.ok.rg
  by_cases c : 0 ≤ x ∧ x ≤ 1200
  · refine ⟨.ok (inc x P.2.2.2.2.2.1), V, inc x P.2.2.2.2.2.1, up2 V 148 9 0, ?_, ?_, th0 (z := 0), fun r hr => okr hr rfl, S, P, h.thr 0⟩
    · show f5_occupancy V x = _
      have hk := X_occL h.ck hx P.2.2.2.2.2.1.length FU 0 0 (by have := FU_ge; omega) (by omega)
      rw [List.drop_zero, nc0, Int.zero_add] at hk
      unfold f5_occupancy
      rw [X_isWithin hx (by constructor <;> omega) (by constructor <;> omega), if_pos c, hk]
      simp only [bd_s, n10, if_false]
    · show f6_occupancy V x = _
      unfold f6_occupancy
      rw [M_in hx (by constructor <;> omega) (by constructor <;> omega), if_pos c]
      simp only [bd_s, n10, if_false]
      rw [M_fails0]
      simp only [bd2_s, n00, if_true]
      rw [M_shipsIn (h.mk.thr 0) hx]
      rfl
  · refine ⟨.error eA, V, 0, up2 V 148 9 1, ?_, ?_, (up2_s _ _ _ _).trans cod_1.symm, fun r hr => ner hr, S, P, h.thr 1⟩
    · show f5_occupancy V x = _
      unfold f5_occupancy
      rw [X_isWithin hx (by constructor <;> omega) (by constructor <;> omega), if_neg c]
      simp only [bd_s, n00, if_true]
    · show f6_occupancy V x = _
      unfold f6_occupancy
      rw [M_in hx (by constructor <;> omega) (by constructor <;> omega), if_neg c]
      simp only [bd_s, n00, if_true]
      rw [M_fails1 (Or.inl rfl) (Or.inl rfl)]
      simp only [bd2_s, n10, if_false]
theorem y01 {y : Int} (hy : y = 0 ∨ y = 1) : (if nrm y = 0 then some (0 : Int) else some 1) = some y := by rcases hy with e | e <;> subst e <;> decide +kernel
theorem op_firstConflict {x y s : Int} (hx : rgI x) (hy : y = 0 ∨ y = 1) (hs : rgI s) : Op1 [eI, eA] (fun V => f5_firstConflict V x y s) (fun V => f6_firstConflict V x y s) := by
  intro V S P h
  have hr := h.ck.ok.rg
  have hM : ∀ (k : Option (Int × VV)), True := fun _ => trivial
  by_cases c : 0 ≤ x ∧ x < (S.2.2.length : Int)
  · obtain ⟨t1, t2, t3⟩ := X_transitOf h.ck c
    obtain ⟨m1, m2, m3⟩ := M_transit (h.mk.thr 0) c
    by_cases c2 : 0 ≤ s ∧ s ≤ 999
    · refine ⟨.ok (fcl S P.2.2.2.2.2.1 y s (s + tr S P.1 x) (-1)), V, fcl S P.2.2.2.2.2.1 y s (s + tr S P.1 x) (-1), up2 V 148 9 0, ?_, ?_, th0 (z := 0), fun r hr => okr hr rfl, S, P, h.thr 0⟩
      · show f5_firstConflict V x y s = _
        unfold f5_firstConflict
        rw [X_isShip h.ck hx, if_pos c, X_isWithin hs (by constructor <;> omega) (by constructor <;> omega), if_pos c2, t1]
        simp only [bd_s, n10, if_false]
        rw [X_firstClash h.ck hy (by omega) ⟨t2, t3⟩ (by omega)]
        rfl
      · show f6_firstConflict V x y s = _
        unfold f6_firstConflict
        rw [M_isShip h.mk hx, if_pos c, M_in hs (by constructor <;> omega) (by constructor <;> omega), if_pos c2]
        simp only [bd_s, n10, if_false]
        rw [M_fails0]
        simp only [bd2_s, n00, if_true]
        rw [y01 hy]
        simp only [bd_s]
        rw [M_conflicting (h.mk.thr 0) c hy (by omega) (by omega)]
        rfl
    · refine ⟨.error eA, V, 0, up2 V 148 9 2, ?_, ?_, (up2_s _ _ _ _).trans (cod_2 eIA).symm, fun r hr => ner hr, S, P, h.thr 2⟩
      · show f5_firstConflict V x y s = _
        unfold f5_firstConflict
        rw [X_isShip h.ck hx, if_pos c, X_isWithin hs (by constructor <;> omega) (by constructor <;> omega), if_neg c2]
        simp only [bd_s, n10, n00, if_false, if_true]
      · show f6_firstConflict V x y s = _
        unfold f6_firstConflict
        rw [M_isShip h.mk hx, if_pos c, M_in hs (by constructor <;> omega) (by constructor <;> omega), if_neg c2]
        simp only [bd_s, n10, n00, if_false, if_true]
        rw [M_fails2 (Or.inl rfl)]
        simp only [bd2_s, n10, if_false]
  · refine ⟨.error eI, V, 0, up2 V 148 9 1, ?_, ?_, (up2_s _ _ _ _).trans cod_1.symm, fun r hr => ner hr, S, P, h.thr 1⟩
    · show f5_firstConflict V x y s = _
      unfold f5_firstConflict
      rw [X_isShip h.ck hx, if_neg c]
      simp only [bd_s, n00, if_true]
    · show f6_firstConflict V x y s = _
      unfold f6_firstConflict
      rw [M_isShip h.mk hx, if_neg c, M_in hs (by constructor <;> omega) (by constructor <;> omega)]
      simp only [bd_s, n00, if_true]
      rw [n_not]
      simp only [bd_s]
      rw [M_fails1 p01 (Or.inl rfl)]
      simp only [bd2_s, n10, if_false]
theorem op_earliestStart {x y s : Int} (hx : rgI x) (hy : y = 0 ∨ y = 1) (hs : rgI s) : Op1 [eI, eA] (fun V => f5_earliestStart V x y s) (fun V => f6_earliestStart V x y s) := by
  intro V S P h
  have hr := h.ck.ok.rg
  have hM : ∀ (k : Option (Int × VV)), True := fun _ => trivial
  by_cases c : 0 ≤ x ∧ x < (S.2.2.length : Int)
  · obtain ⟨t1, t2, t3⟩ := X_transitOf h.ck c
    obtain ⟨m1, m2, m3⟩ := M_transit (h.mk.thr 0) c
    by_cases c2 : 0 ≤ s ∧ s ≤ 999
    · refine ⟨.ok (lfs (frB S P.2.2.2.2.2.1 y (tr S P.1 x) (-1)) (999 - s + 1).toNat s), V, lfs (frB S P.2.2.2.2.2.1 y (tr S P.1 x) (-1)) (999 - s + 1).toNat s, up2 V 148 9 0, ?_, ?_, th0 (z := 0), fun r hr => okr hr rfl, S, P, h.thr 0⟩
      · show f5_earliestStart V x y s = _
        unfold f5_earliestStart
        rw [X_isShip h.ck hx, if_pos c, X_isWithin hs (by constructor <;> omega) (by constructor <;> omega), if_pos c2, t1]
        simp only [bd_s, n10, if_false]
        rw [X_leastFreeStart h.ck hy (by omega) (by omega) ⟨t2, t3⟩ (by omega)]
        rfl
      · show f6_earliestStart V x y s = _
        unfold f6_earliestStart
        rw [M_isShip h.mk hx, if_pos c, M_in hs (by constructor <;> omega) (by constructor <;> omega), if_pos c2]
        simp only [bd_s, n10, if_false]
        rw [M_fails0]
        simp only [bd2_s, n00, if_true]
        rw [y01 hy]
        simp only [bd_s]
        rw [M_earliest (h.mk.thr 0) c hy (by omega) (by omega) (by omega)]
        rfl
    · refine ⟨.error eA, V, 0, up2 V 148 9 2, ?_, ?_, (up2_s _ _ _ _).trans (cod_2 eIA).symm, fun r hr => ner hr, S, P, h.thr 2⟩
      · show f5_earliestStart V x y s = _
        unfold f5_earliestStart
        rw [X_isShip h.ck hx, if_pos c, X_isWithin hs (by constructor <;> omega) (by constructor <;> omega), if_neg c2]
        simp only [bd_s, n10, n00, if_false, if_true]
      · show f6_earliestStart V x y s = _
        unfold f6_earliestStart
        rw [M_isShip h.mk hx, if_pos c, M_in hs (by constructor <;> omega) (by constructor <;> omega), if_neg c2]
        simp only [bd_s, n10, n00, if_false, if_true]
        rw [M_fails2 (Or.inl rfl)]
        simp only [bd2_s, n10, if_false]
  · refine ⟨.error eI, V, 0, up2 V 148 9 1, ?_, ?_, (up2_s _ _ _ _).trans cod_1.symm, fun r hr => ner hr, S, P, h.thr 1⟩
    · show f5_earliestStart V x y s = _
      unfold f5_earliestStart
      rw [X_isShip h.ck hx, if_neg c]
      simp only [bd_s, n00, if_true]
    · show f6_earliestStart V x y s = _
      unfold f6_earliestStart
      rw [M_isShip h.mk hx, if_neg c, M_in hs (by constructor <;> omega) (by constructor <;> omega)]
      simp only [bd_s, n00, if_true]
      rw [n_not]
      simp only [bd_s]
      rw [M_fails1 p01 (Or.inl rfl)]
      simp only [bd2_s, n10, if_false]
theorem op_latestStart {x y s : Int} (hx : rgI x) (hy : y = 0 ∨ y = 1) (hs : rgI s) : Op1 [eI, eA] (fun V => f5_latestStart V x y s) (fun V => f6_latestStart V x y s) := by
  intro V S P h
  have hr := h.ck.ok.rg
  have hM : ∀ (k : Option (Int × VV)), True := fun _ => trivial
  by_cases c : 0 ≤ x ∧ x < (S.2.2.length : Int)
  · obtain ⟨t1, t2, t3⟩ := X_transitOf h.ck c
    obtain ⟨m1, m2, m3⟩ := M_transit (h.mk.thr 0) c
    by_cases c2 : 0 ≤ s ∧ s ≤ 1200
    · refine ⟨.ok (gfs (frB S P.2.2.2.2.2.1 y (tr S P.1 x) (-1)) ((if s - tr S P.1 x < 999 then s - tr S P.1 x else 999) + 1).toNat (if s - tr S P.1 x < 999 then s - tr S P.1 x else 999)), V, gfs (frB S P.2.2.2.2.2.1 y (tr S P.1 x) (-1)) ((if s - tr S P.1 x < 999 then s - tr S P.1 x else 999) + 1).toNat (if s - tr S P.1 x < 999 then s - tr S P.1 x else 999), up2 V 148 9 0, ?_, ?_, th0 (z := 0), fun r hr => okr hr rfl, S, P, h.thr 0⟩
      · show f5_latestStart V x y s = _
        unfold f5_latestStart
        rw [X_isShip h.ck hx, if_pos c, X_isWithin hs (by constructor <;> omega) (by constructor <;> omega), if_pos c2, t1]
        simp only [bd_s, n10, if_false]
        have e : mnI 999 (s - tr S P.1 x) = if s - tr S P.1 x < 999 then s - tr S P.1 x else 999 := by
          unfold mnI
          simp (disch := omega) only [nrm_of]
        rw [e, X_greatestFreeStart h.ck hy (by split <;> omega) ⟨t2, t3⟩]
        rfl
      · show f6_latestStart V x y s = _
        unfold f6_latestStart
        rw [M_isShip h.mk hx, if_pos c, M_in hs (by constructor <;> omega) (by constructor <;> omega), if_pos c2]
        simp only [bd_s, n10, if_false]
        rw [M_fails0]
        simp only [bd2_s, n00, if_true]
        rw [m1]
        simp only [bd_s]
        have e : (if nrm 999 ≤ nrm (s - tr S P.1 x) then some (999 : Int) else some (s - tr S P.1 x)) = some (if s - tr S P.1 x < 999 then s - tr S P.1 x else 999) := by
          simp (disch := omega) only [nrm_of]
          by_cases q : s - tr S P.1 x < 999
          · rw [if_neg (by omega), if_pos q]
          · rw [if_pos (by omega), if_neg q]
        rw [e]
        simp only [bd_s]
        exact M_latest (h.mk.thr 0) c hy _ FU _ (by have := FU_ge; split <;> omega) (by split <;> omega) (by split <;> omega) rfl
    · refine ⟨.error eA, V, 0, up2 V 148 9 2, ?_, ?_, (up2_s _ _ _ _).trans (cod_2 eIA).symm, fun r hr => ner hr, S, P, h.thr 2⟩
      · show f5_latestStart V x y s = _
        unfold f5_latestStart
        rw [X_isShip h.ck hx, if_pos c, X_isWithin hs (by constructor <;> omega) (by constructor <;> omega), if_neg c2]
        simp only [bd_s, n10, n00, if_false, if_true]
      · show f6_latestStart V x y s = _
        unfold f6_latestStart
        rw [M_isShip h.mk hx, if_pos c, M_in hs (by constructor <;> omega) (by constructor <;> omega), if_neg c2]
        simp only [bd_s, n10, n00, if_false, if_true]
        rw [M_fails2 (Or.inl rfl)]
        simp only [bd2_s, n10, if_false]
  · refine ⟨.error eI, V, 0, up2 V 148 9 1, ?_, ?_, (up2_s _ _ _ _).trans cod_1.symm, fun r hr => ner hr, S, P, h.thr 1⟩
    · show f5_latestStart V x y s = _
      unfold f5_latestStart
      rw [X_isShip h.ck hx, if_neg c]
      simp only [bd_s, n00, if_true]
    · show f6_latestStart V x y s = _
      unfold f6_latestStart
      rw [M_isShip h.mk hx, if_neg c, M_in hs (by constructor <;> omega) (by constructor <;> omega)]
      simp only [bd_s, n00, if_true]
      rw [n_not]
      simp only [bd_s]
      rw [M_fails1 p01 (Or.inl rfl)]
      simp only [bd2_s, n10, if_false]
def cnf (S : Su) (y s e : Int) : List Bk → Int
  | [] => 0
  | b :: l => (if cf S b y s e = true then 1 else 0) + cnf S y s e l
theorem X_cntL {V : VV} {S : Su} {P : Pl} (h : CK V S P) {y s d : Int} (hy : y = 0 ∨ y = 1) (hs : -5000 ≤ s ∧ s ≤ 5000) (hd : 1 ≤ d ∧ d ≤ 78) : ∀ (k n i : Nat) (a : Int), k + 1 ≤ n → P.2.2.2.2.2.1.length = i + k → f5_conflictCount_L32 V y s d n a (i : Int) = some (a + cnf S y s (s + d) (P.2.2.2.2.2.1.drop i)) := by
  have hr := h.ok.rg
  have hp := h.pl
  intro k
  induction k with
  | zero =>
    intro n i a hn hl
    obtain ⟨n, rfl⟩ : ∃ m, n = m + 1 := ⟨n - 1, by omega⟩
    rw [f5_conflictCount_L32, List.drop_eq_nil_of_le (by omega)]
    simp (disch := omega) only [ck_t, nrm_of, bd_s, bd2_s, bd3_s, bd4_s, Int.toNat_natCast, aP0, Nat.reduceAdd, Nat.zero_add, i10, i00, hp.2.2.2.2.2.1]
    rw [if_pos (by omega)]
    simp [cnf]
  | succ k ih =>
    intro n i a hn hl
    obtain ⟨n, rfl⟩ : ∃ m, n = m + 1 := ⟨n - 1, by omega⟩
    have hi : i < P.2.2.2.2.2.1.length := by omega
    have hI := fun a => ih n (i + 1) a (by omega) (by omega)
    simp only [Int.natCast_add, Int.natCast_one] at hI
    rw [f5_conflictCount_L32, (h.b hi).1, cnf, X_clashes h hi hy hs hd]
    simp (disch := omega) only [ck_t, nrm_of, bd_s, bd2_s, bd3_s, bd4_s, Int.toNat_natCast, aP0, Nat.reduceAdd, Nat.zero_add, i10, i00, hp.2.2.2.2.2.1]
    rw [if_neg (by omega)]
    by_cases c : cf S (V 54 i, V 55 i, V 56 i, V 57 i) y s (s + d) = true
    · simp only [c, if_true, n10, i10, if_false]
      rw [hI]
      congr 1; omega
    · simp only [c, Bool.false_eq_true, if_true, n00, i00, if_false]
      rw [hI]
      congr 1; omega
theorem M_cntL {V : VV} {S : Su} {P : Pl} (h : MK V S P) {y s e : Int} (hy : y = 0 ∨ y = 1) (hs : -5000 ≤ s ∧ s ≤ 5000) (he : -5000 ≤ e ∧ e ≤ 6000) : ∀ (k n i : Nat) (a : Int), k + 1 ≤ n → P.2.2.2.2.2.1.length = i + k → f6_conflictCount_L54 V y s e n a (i : Int) = some (a + cnf S y s e (P.2.2.2.2.2.1.drop i)) := by
  have hr := h.ok.rg
  have hp := h.pl
  intro k
  induction k with
  | zero =>
    intro n i a hn hl
    obtain ⟨n, rfl⟩ : ∃ m, n = m + 1 := ⟨n - 1, by omega⟩
    rw [f6_conflictCount_L54, List.drop_eq_nil_of_le (by omega)]
    simp (disch := omega) only [ck_t, nrm_of, bd_s, bd2_s, bd3_s, bd4_s, Int.toNat_natCast, aP0, Nat.reduceAdd, Nat.zero_add, i10, i00, hp.2.2.2.2.2.1]
    rw [if_pos (by omega)]
    simp [cnf]
  | succ k ih =>
    intro n i a hn hl
    obtain ⟨n, rfl⟩ : ∃ m, n = m + 1 := ⟨n - 1, by omega⟩
    have hi : i < P.2.2.2.2.2.1.length := by omega
    have hI := fun a => ih n (i + 1) a (by omega) (by omega)
    simp only [Int.natCast_add, Int.natCast_one] at hI
    rw [f6_conflictCount_L54, (h.b hi).1, cnf, y01 hy]
    simp only [bd_s]
    rw [M_conflictsWith h hi hy hs he]
    simp (disch := omega) only [ck_t, nrm_of, bd_s, bd2_s, bd3_s, bd4_s, Int.toNat_natCast, aP0, Nat.reduceAdd, Nat.zero_add, i10, i00, hp.2.2.2.2.2.1, Int.add_zero]
    rw [if_neg (by omega)]
    by_cases c : cf S (V 149 (110 + 4 * i), V 149 (110 + 4 * i + 1), V 149 (110 + 4 * i + 2), V 149 (110 + 4 * i + 3)) y s e = true
    · simp only [c, if_true, n10, i10, if_false]
      rw [hI]
      congr 1; omega
    · simp only [c, Bool.false_eq_true, if_true, n00, i00, if_false]
      rw [hI]
      congr 1; omega
theorem op_conflictCount {x y s : Int} (hx : rgI x) (hy : y = 0 ∨ y = 1) (hs : rgI s) : Op1 [eI, eA] (fun V => f5_conflictCount V x y s) (fun V => f6_conflictCount V x y s) := by
  intro V S P h
  have hr := h.ck.ok.rg
  have hM : ∀ (k : Option (Int × VV)), True := fun _ => trivial
  by_cases c : 0 ≤ x ∧ x < (S.2.2.length : Int)
  · obtain ⟨t1, t2, t3⟩ := X_transitOf h.ck c
    obtain ⟨m1, m2, m3⟩ := M_transit (h.mk.thr 0) c
    by_cases c2 : 0 ≤ s ∧ s ≤ 999
    · refine ⟨.ok (cnf S y s (s + tr S P.1 x) P.2.2.2.2.2.1), V, cnf S y s (s + tr S P.1 x) P.2.2.2.2.2.1, up2 V 148 9 0, ?_, ?_, th0 (z := 0), fun r hr => okr hr rfl, S, P, h.thr 0⟩
      · show f5_conflictCount V x y s = _
        unfold f5_conflictCount
        rw [X_isShip h.ck hx, if_pos c, X_isWithin hs (by constructor <;> omega) (by constructor <;> omega), if_pos c2, t1]
        simp only [bd_s, n10, if_false]
        have hk := X_cntL h.ck hy (s := s) (d := tr S P.1 x) (by omega) ⟨t2, t3⟩ P.2.2.2.2.2.1.length FU 0 0 (by have := FU_ge; omega) (by omega)
        rw [List.drop_zero, nc0, Int.zero_add] at hk
        rw [hk]
        rfl
      · show f6_conflictCount V x y s = _
        unfold f6_conflictCount
        rw [M_isShip h.mk hx, if_pos c, M_in hs (by constructor <;> omega) (by constructor <;> omega), if_pos c2]
        simp only [bd_s, n10, if_false]
        rw [M_fails0]
        simp only [bd2_s, n00, if_true]
        rw [m1]
        simp only [bd_s]
        have hk := M_cntL (h.mk.thr 0) hy (s := s) (e := s + tr S P.1 x) (by omega) (by omega) P.2.2.2.2.2.1.length FU 0 0 (by have := FU_ge; omega) (by omega)
        rw [List.drop_zero, nc0, Int.zero_add] at hk
        rw [hk]
        rfl
    · refine ⟨.error eA, V, 0, up2 V 148 9 2, ?_, ?_, (up2_s _ _ _ _).trans (cod_2 eIA).symm, fun r hr => ner hr, S, P, h.thr 2⟩
      · show f5_conflictCount V x y s = _
        unfold f5_conflictCount
        rw [X_isShip h.ck hx, if_pos c, X_isWithin hs (by constructor <;> omega) (by constructor <;> omega), if_neg c2]
        simp only [bd_s, n10, n00, if_false, if_true]
      · show f6_conflictCount V x y s = _
        unfold f6_conflictCount
        rw [M_isShip h.mk hx, if_pos c, M_in hs (by constructor <;> omega) (by constructor <;> omega), if_neg c2]
        simp only [bd_s, n10, n00, if_false, if_true]
        rw [M_fails2 (Or.inl rfl)]
        simp only [bd2_s, n10, if_false]
  · refine ⟨.error eI, V, 0, up2 V 148 9 1, ?_, ?_, (up2_s _ _ _ _).trans cod_1.symm, fun r hr => ner hr, S, P, h.thr 1⟩
    · show f5_conflictCount V x y s = _
      unfold f5_conflictCount
      rw [X_isShip h.ck hx, if_neg c]
      simp only [bd_s, n00, if_true]
    · show f6_conflictCount V x y s = _
      unfold f6_conflictCount
      rw [M_isShip h.mk hx, if_neg c, M_in hs (by constructor <;> omega) (by constructor <;> omega)]
      simp only [bd_s, n00, if_true]
      rw [n_not]
      simp only [bd_s]
      rw [M_fails1 p01 (Or.inl rfl)]
      simp only [bd2_s, n10, if_false]
/-- which cancellation helps most -/
def bcn (S : Su) (bs : List Bk) (y fr d : Int) : Nat → Nat → Int → Int → Int
  | 0, _, best, _ => best
  | k + 1, i, best, bst => if best = -1 ∨ (if lfs (frB S bs y d i) (999 - fr + 1).toNat fr = -1 then 1000 else lfs (frB S bs y d i) (999 - fr + 1).toNat fr) < bst then bcn S bs y fr d k (i + 1) i (if lfs (frB S bs y d i) (999 - fr + 1).toNat fr = -1 then 1000 else lfs (frB S bs y d i) (999 - fr + 1).toNat fr) else bcn S bs y fr d k (i + 1) best bst
theorem X_bcL {V : VV} {S : Su} {P : Pl} (h : CK V S P) {y fr d : Int} (hy : y = 0 ∨ y = 1) (hf : 0 ≤ fr ∧ fr ≤ 999) (hd : 1 ≤ d ∧ d ≤ 78) : ∀ (k n i : Nat) (a b : Int), k + 1 ≤ n → P.2.2.2.2.2.1.length = i + k → -1 ≤ a → a ≤ 20 → 0 ≤ b → b ≤ 1000 → f5_bestCancellation_L53 V y fr d n a b (i : Int) = some (bcn S P.2.2.2.2.2.1 y fr d k i a b) := by
  have hr := h.ok.rg
  have hp := h.pl
  intro k
  induction k with
  | zero =>
    intro n i a b hn hl h1 h2 h3 h4
    obtain ⟨n, rfl⟩ : ∃ m, n = m + 1 := ⟨n - 1, by omega⟩
    rw [f5_bestCancellation_L53]
    simp (disch := omega) only [ck_t, nrm_of, bd_s, bd2_s, bd3_s, bd4_s, Int.toNat_natCast, aP0, Nat.reduceAdd, Nat.zero_add, i10, i00, hp.2.2.2.2.2.1]
    rw [if_pos (by omega)]
    rfl
  | succ k ih =>
    intro n i a b hn hl h1 h2 h3 h4
    obtain ⟨n, rfl⟩ : ∃ m, n = m + 1 := ⟨n - 1, by omega⟩
    have hi : i < P.2.2.2.2.2.1.length := by omega
    have hI := fun a b => ih n (i + 1) a b (by omega) (by omega)
    simp only [Int.natCast_add, Int.natCast_one] at hI
    rw [f5_bestCancellation_L53, X_leastFreeStart h hy (by omega) (by omega) hd (by omega), bcn]
    have hlr := lfs_rg (fr := frB S P.2.2.2.2.2.1 y d i) (k := (999 - fr + 1).toNat) (s := fr)
    generalize lfs (frB S P.2.2.2.2.2.1 y d i) (999 - fr + 1).toNat fr = z at *
    have hz : -1 ≤ z ∧ z ≤ 999 := by omega
    have e1 : (if nrm z = nrm (-1) then some (1000 : Int) else some z) = some (if z = -1 then 1000 else z) := by
      simp (disch := omega) only [nrm_of]
      split <;> rfl
    have hw : 0 ≤ (if z = -1 then 1000 else z) ∧ (if z = -1 then 1000 else z) ≤ 1000 := by split <;> omega
    simp only [bd_s]
    rw [e1]
    generalize (if z = -1 then 1000 else z) = w at *
    simp (disch := omega) only [ck_t, nrm_of, bd_s, bd2_s, bd3_s, bd4_s, Int.toNat_natCast, aP0, Nat.reduceAdd, Nat.zero_add, i10, i00, hp.2.2.2.2.2.1]
    rw [if_neg (by omega)]
    by_cases c : a = -1
    · rw [if_pos c, if_pos (Or.inl c), hI _ _ (by omega) (by omega) hw.1 hw.2]
    · rw [if_neg c]
      by_cases c2 : b ≤ w
      · rw [if_pos c2, if_neg (by omega), hI _ _ h1 h2 h3 h4]
      · rw [if_neg c2, if_pos (by omega), hI _ _ (by omega) (by omega) hw.1 hw.2]
theorem M_bcL {V : VV} {S : Su} {P : Pl} (h : MK V S P) {x y fr : Int} (hx : 0 ≤ x ∧ x < (S.2.2.length : Int)) (hy : y = 0 ∨ y = 1) (hf : 0 ≤ fr ∧ fr ≤ 999) : ∀ (k n i : Nat) (a b : Int), k + 1 ≤ n → P.2.2.2.2.2.1.length = i + k → -1 ≤ a → a ≤ 20 → 0 ≤ b → b ≤ 1000 → f6_bestCancellation_L92 V x y fr n a b (i : Int) = some (bcn S P.2.2.2.2.2.1 y fr (tr S P.1 x) k i a b) := by
  have hr := h.ok.rg
  have hp := h.pl
  intro k
  induction k with
  | zero =>
    intro n i a b hn hl h1 h2 h3 h4
    obtain ⟨n, rfl⟩ : ∃ m, n = m + 1 := ⟨n - 1, by omega⟩
    rw [f6_bestCancellation_L92]
    simp (disch := omega) only [ck_t, nrm_of, bd_s, bd2_s, bd3_s, bd4_s, Int.toNat_natCast, aP0, Nat.reduceAdd, Nat.zero_add, i10, i00, hp.2.2.2.2.2.1]
    rw [if_pos (by omega)]
    rfl
  | succ k ih =>
    intro n i a b hn hl h1 h2 h3 h4
    obtain ⟨n, rfl⟩ : ∃ m, n = m + 1 := ⟨n - 1, by omega⟩
    have hi : i < P.2.2.2.2.2.1.length := by omega
    have hI := fun a b => ih n (i + 1) a b (by omega) (by omega)
    simp only [Int.natCast_add, Int.natCast_one] at hI
    rw [f6_bestCancellation_L92, y01 hy]
    simp only [bd_s]
    rw [M_earliest h hx hy (by omega) (by omega) (by omega), bcn]
    have hlr := lfs_rg (fr := frB S P.2.2.2.2.2.1 y (tr S P.1 x) i) (k := (999 - fr + 1).toNat) (s := fr)
    generalize lfs (frB S P.2.2.2.2.2.1 y (tr S P.1 x) i) (999 - fr + 1).toNat fr = z at *
    have hz : -1 ≤ z ∧ z ≤ 999 := by omega
    have e1 : (if nrm z = nrm (-1) then some (1000 : Int) else some z) = some (if z = -1 then 1000 else z) := by
      simp (disch := omega) only [nrm_of]
      split <;> rfl
    have hw : 0 ≤ (if z = -1 then 1000 else z) ∧ (if z = -1 then 1000 else z) ≤ 1000 := by split <;> omega
    simp only [bd_s]
    rw [e1]
    generalize (if z = -1 then 1000 else z) = w at *
    simp (disch := omega) only [ck_t, nrm_of, bd_s, bd2_s, bd3_s, bd4_s, Int.toNat_natCast, aP0, Nat.reduceAdd, Nat.zero_add, i10, i00, hp.2.2.2.2.2.1]
    rw [if_neg (by omega)]
    by_cases c : a = -1
    · rw [if_pos c, if_pos (Or.inl c), hI _ _ (by omega) (by omega) hw.1 hw.2]
    · rw [if_neg c]
      by_cases c2 : w < b
      · rw [if_pos c2, if_pos (by omega), hI _ _ (by omega) (by omega) hw.1 hw.2]
      · rw [if_neg c2, if_neg (by omega), hI _ _ h1 h2 h3 h4]
theorem op_bestCancellation {x y s : Int} (hx : rgI x) (hy : y = 0 ∨ y = 1) (hs : rgI s) : Op1 [eI, eA, eN] (fun V => f5_bestCancellation V x y s) (fun V => f6_bestCancellation V x y s) := by
  intro V S P h
  have hr := h.ck.ok.rg
  have hp := h.ck.pl
  have hm := h.mk.pl
  by_cases c : 0 ≤ x ∧ x < (S.2.2.length : Int)
  · obtain ⟨t1, t2, t3⟩ := X_transitOf h.ck c
    by_cases c2 : 0 ≤ s ∧ s ≤ 999
    · by_cases c3 : P.2.2.2.2.2.1.length = 0
      · refine ⟨.error eN, V, 0, up2 V 148 9 3, ?_, ?_, (up2_s _ _ _ _).trans (cod_3 eIN eAN).symm, fun r hr => ner hr, S, P, h.thr 3⟩
        · show f5_bestCancellation V x y s = _
          unfold f5_bestCancellation
          rw [X_isShip h.ck hx, if_pos c, X_isWithin hs (by constructor <;> omega) (by constructor <;> omega), if_pos c2, aP0, hp.2.2.2.2.2.1, c3]
          rfl
        · show f6_bestCancellation V x y s = _
          unfold f6_bestCancellation
          rw [M_isShip h.mk hx, if_pos c, M_in hs (by constructor <;> omega) (by constructor <;> omega), if_pos c2, hm.2.2.2.2.2.1, c3]
          simp only [bd_s, n10, if_false, nc0, n00, if_true]
          rw [M_fails3]
          simp only [bd2_s, n10, if_false]
      · refine ⟨.ok (bcn S P.2.2.2.2.2.1 y s (tr S P.1 x) P.2.2.2.2.2.1.length 0 (-1) 0), V, _, up2 V 148 9 0, ?_, ?_, th0 (z := 0), fun r hr => okr hr rfl, S, P, h.thr 0⟩
        · show f5_bestCancellation V x y s = _
          have hk := X_bcL h.ck hy (fr := s) (d := tr S P.1 x) c2 ⟨t2, t3⟩ P.2.2.2.2.2.1.length FU 0 (-1) 0 (by have := FU_ge; omega) (by omega) (by omega) (by omega) (by omega) (by omega)
          rw [nc0] at hk
          unfold f5_bestCancellation
          rw [X_isShip h.ck hx, if_pos c, X_isWithin hs (by constructor <;> omega) (by constructor <;> omega), if_pos c2, t1, aP0, hp.2.2.2.2.2.1]
          simp only [bd_s, n10, if_false]
          rw [hk, if_neg (by rw [nrm_of (by omega) (by omega)]; omega)]
          simp only [bd_s, n10, if_false]
        · show f6_bestCancellation V x y s = _
          have hk := M_bcL (h.mk.thr 0) c hy (fr := s) c2 P.2.2.2.2.2.1.length FU 0 (-1) 0 (by have := FU_ge; omega) (by omega) (by omega) (by omega) (by omega) (by omega)
          rw [nc0] at hk
          unfold f6_bestCancellation
          rw [M_isShip h.mk hx, if_pos c, M_in hs (by constructor <;> omega) (by constructor <;> omega), if_pos c2, hm.2.2.2.2.2.1]
          have e5 : (if nrm (P.2.2.2.2.2.1.length : Int) = 0 then some (1 : Int) else some 0) = some 0 := by
            simp (disch := omega) only [nrm_of]
            rw [if_neg (by omega)]
          simp only [bd_s, n10, if_false]
          rw [e5]
          simp only [bd_s]
          rw [M_fails0]
          simp only [bd2_s, n00, if_true]
          rw [hk]
          rfl
    · refine ⟨.error eA, V, 0, up2 V 148 9 2, ?_, ?_, (up2_s _ _ _ _).trans (cod_2 eIA).symm, fun r hr => ner hr, S, P, h.thr 2⟩
      · show f5_bestCancellation V x y s = _
        unfold f5_bestCancellation
        rw [X_isShip h.ck hx, if_pos c, X_isWithin hs (by constructor <;> omega) (by constructor <;> omega), if_neg c2]
        simp only [bd_s, n10, n00, if_false, if_true]
      · show f6_bestCancellation V x y s = _
        unfold f6_bestCancellation
        rw [M_isShip h.mk hx, if_pos c, M_in hs (by constructor <;> omega) (by constructor <;> omega), if_neg c2]
        simp only [bd_s, n10, n00, if_false, if_true]
        rw [M_fails2 (Or.inl rfl)]
        simp only [bd2_s, n10, if_false]
  · refine ⟨.error eI, V, 0, up2 V 148 9 1, ?_, ?_, (up2_s _ _ _ _).trans cod_1.symm, fun r hr => ner hr, S, P, h.thr 1⟩
    · show f5_bestCancellation V x y s = _
      unfold f5_bestCancellation
      rw [X_isShip h.ck hx, if_neg c]
      simp only [bd_s, n00, if_true]
    · show f6_bestCancellation V x y s = _
      unfold f6_bestCancellation
      rw [M_isShip h.mk hx, if_neg c, M_in hs (by constructor <;> omega) (by constructor <;> omega)]
      simp only [bd_s, n00, if_true]
      rw [n_not]
      simp only [bd_s]
      rw [M_fails1 p01 (Or.inl rfl)]
      simp only [bd2_s, n10, if_false]
