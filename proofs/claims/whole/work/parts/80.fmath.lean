/-! the two calls that answer floats -/
def OpF (fx fm : VV → Option (Int × Int × VV)) : Prop := ∀ (V : VV) (S : Su) (P : Pl), RV V S P → ∃ (a b : Int) (V2 : VV), fx V = some (a, b, V) ∧ fm V = some (a, b, V2) ∧ ∃ S' P', RV V2 S' P'
theorem utL {V : VV} {S : Su} {P : Pl} (h : RV V S P) : ∀ (k n n' i : Nat) (a : Int), k + 1 ≤ n → k + 1 ≤ n' → P.2.2.2.2.2.1.length = i + k → 0 ≤ a → a ≤ 1077 → ∃ r, f5_utilization_L4 V n a (i : Int) = some r ∧ f6_utilization_L9 (up2 V 148 9 0) n' a (i : Int) = some r ∧ a ≤ r ∧ r ≤ 1077 ∧ (k = 0 → r = a) ∧ (k ≠ 0 → 0 < r) := by
  have hr := h.ck.ok.rg
  have hp := h.ck.pl
  have hm := (h.mk.thr 0).pl
  intro k
  induction k with
  | zero =>
    intro n n' i a hn hn' hl h0 h1
    obtain ⟨n, rfl⟩ : ∃ m, n = m + 1 := ⟨n - 1, by omega⟩
    obtain ⟨n', rfl⟩ : ∃ m, n' = m + 1 := ⟨n' - 1, by omega⟩
    refine ⟨a, ?_, ?_, Int.le_refl _, h1, fun _ => rfl, fun c => absurd rfl c⟩
    · rw [f5_utilization_L4]
      simp (disch := omega) only [ck_t, nrm_of, aP0, Nat.reduceAdd, hp.2.2.2.2.2.1]
      rw [if_pos (by omega)]
    · rw [f6_utilization_L9]
      simp (disch := omega) only [ck_t, nrm_of, hm.2.2.2.2.2.1]
      rw [if_pos (by omega)]
  | succ k ih =>
    intro n n' i a hn hn' hl h0 h1
    obtain ⟨n, rfl⟩ : ∃ m, n = m + 1 := ⟨n - 1, by omega⟩
    obtain ⟨n', rfl⟩ : ∃ m, n' = m + 1 := ⟨n' - 1, by omega⟩
    have hi : i < P.2.2.2.2.2.1.length := by omega
    have hI := fun a => ih n n' (i + 1) a (by omega) (by omega) (by omega)
    simp only [Int.natCast_add, Int.natCast_one] at hI
    obtain ⟨-, -, b3⟩ := h.ck.b hi
    obtain ⟨u1, u2, u3, u4, u5, u6, u7⟩ := b3
    simp only at u1 u2 u3 u4 u5 u6 u7
    have hx : mxI a (V 57 i) = if a < V 57 i then V 57 i else a := by
      unfold mxI
      rw [nrm_of (by omega) (by omega), nrm_of (by omega) (by omega)]
    have hc : ¬ (P.2.2.2.2.2.1.length : Int) ≤ (i : Int) := by omega
    rw [f5_utilization_L4, f6_utilization_L9, M_ofBooking (i := i) (y := 3) (j := 3) rfl rfl (by omega) (by omega)]
    simp only [bd_s, up9]
    rw [(h.bb hi).2.2.2]
    simp (disch := omega) only [ck_t, nrm_of, bd_s, Int.toNat_natCast, aP0, Nat.reduceAdd, hp.2.2.2.2.2.1, h.mk.pl.2.2.2.2.2.1, up9]
    rw [if_neg hc, if_neg hc, hx]
    by_cases c : a < V 57 i
    · rw [if_pos c, if_neg (by omega)]
      obtain ⟨r, g1, g2, g3, g4, -, -⟩ := hI (V 57 i) (by omega) (by omega)
      exact ⟨r, g1, g2, by omega, g4, fun q => absurd q (by omega), fun _ => by omega⟩
    · rw [if_neg c, if_pos (by omega)]
      obtain ⟨r, g1, g2, g3, g4, -, -⟩ := hI a (by omega) (by omega)
      exact ⟨r, g1, g2, by omega, g4, fun q => absurd q (by omega), fun _ => by omega⟩
theorem ocL {V : VV} {S : Su} {P : Pl} (h : MK V S P) {e : Int} (he : 0 ≤ e ∧ e ≤ 1200) : ∀ (k n : Nat) (a t : Int), k + 1 ≤ n → 0 ≤ t → t ≤ 1201 → (e - t).toNat = k → f6_utilization_L50 V e n a t = some (a + ((k : Int) - cntE (eM P.2.2.2.2.2.1) k t)) := by
  intro k
  induction k with
  | zero =>
    intro n a t hn t0 t1 hk
    obtain ⟨n, rfl⟩ : ∃ m, n = m + 1 := ⟨n - 1, by omega⟩
    rw [f6_utilization_L50]
    simp (disch := omega) only [nrm_of]
    rw [if_pos (by omega)]
    simp [cntE]
  | succ k ih =>
    intro n a t hn t0 t1 hk
    obtain ⟨n, rfl⟩ : ∃ m, n = m + 1 := ⟨n - 1, by omega⟩
    have hi := inc_ge (m := t) (l := P.2.2.2.2.2.1)
    have hr := h.ok.rg
    rw [f6_utilization_L50, M_shipsIn h (by constructor <;> omega), cntE]
    simp (disch := omega) only [nrm_of, bd_s]
    rw [if_neg (by omega)]
    by_cases c : inc t P.2.2.2.2.2.1 = 0
    · have e1 : eM P.2.2.2.2.2.1 t = true := by unfold eM; exact decide_eq_true c
      rw [if_pos (by omega), if_pos e1, ih n _ (t + 1) (by omega) (by omega) (by omega) (by omega)]
      congr 1
      omega
    · have e1 : ¬ eM P.2.2.2.2.2.1 t = true := by unfold eM; rw [decide_eq_true_eq]; exact c
      rw [if_neg (by omega), if_neg e1, ih n _ (t + 1) (by omega) (by omega) (by omega) (by omega)]
      congr 1
      omega
theorem op_utilization : OpF (fun V => f5_utilization V) (fun V => f6_utilization V) := by
  intro V S P h
  have hr := h.ck.ok.rg
  have hm := (h.mk.thr 0).pl
  have hF := FU_ge
  obtain ⟨r, g1, g2, g3, g4, g5, g6⟩ := utL h P.2.2.2.2.2.1.length FU FU 0 0 (by omega) (by omega) (by omega) (by omega) (by omega)
  rw [nc0] at g1 g2
  have k0 : nrm r = r := nrm_of (by omega) (by omega)
  have kl : nrm (P.2.2.2.2.2.1.length : Int) = (P.2.2.2.2.2.1.length : Int) := nrm_of (by omega) (by omega)
  have g7 := ocL (h.mk.thr 0) (e := r) (by omega) r.toNat FU 0 0 (by omega) (by omega) (by omega) (by omega)
  by_cases c : P.2.2.2.2.2.1.length = 0
  · have hr0 := g5 c
    refine ⟨0, 0, up2 V 148 9 0, ?_, ?_, S, P, h.thr 0⟩
    · show f5_utilization V = _
      unfold f5_utilization
      rw [g1, bd_s, k0, if_pos hr0]
    · show f6_utilization V = _
      unfold f6_utilization
      rw [g2, bd_s, g7, bd_s, hm.2.2.2.2.2.1, kl, if_pos (by omega)]
  · have hr0 := g6 c
    have g8 := X_countEmpty h.ck (f := 0) (to := r - 1) (by omega) (by omega)
    have g9 := cnt_eq h.ck.ok (f := 0) (to := r - 1) (by omega)
    rw [show r - 1 + 1 - 0 = r by omega] at g9
    refine ⟨r - gaps (r - 1) P.2.2.2.2.2.1 0, r, up2 V 148 9 0, ?_, ?_, S, P, h.thr 0⟩
    · show f5_utilization V = _
      unfold f5_utilization
      rw [g1, bd_s, k0, if_neg (by omega), g8, bd_s, ck_t (by omega)]
    · show f6_utilization V = _
      unfold f6_utilization
      rw [g2, bd_s, g7, bd_s, hm.2.2.2.2.2.1, kl, if_neg (by omega), k0, ck_t (by omega), g9, show 0 + ((r.toNat : Int) - gaps (r - 1) P.2.2.2.2.2.1 0) = r - gaps (r - 1) P.2.2.2.2.2.1 0 by omega]
theorem mtL {V : VV} {S : Su} {P : Pl} (h : RV V S P) : ∀ (k n n' i : Nat) (a : Int), k + 1 ≤ n → k + 1 ≤ n' → P.2.2.2.2.2.1.length = i + k → ∃ r, f5_meanTransit_L16 V n a (i : Int) = some r ∧ f6_meanTransit_L9 (up2 V 148 9 0) n' a (i : Int) = some r := by
  have hr := h.ck.ok.rg
  have hp := h.ck.pl
  have hm := (h.mk.thr 0).pl
  intro k
  induction k with
  | zero =>
    intro n n' i a hn hn' hl
    obtain ⟨n, rfl⟩ : ∃ m, n = m + 1 := ⟨n - 1, by omega⟩
    obtain ⟨n', rfl⟩ : ∃ m, n' = m + 1 := ⟨n' - 1, by omega⟩
    refine ⟨a, ?_, ?_⟩
    · rw [f5_meanTransit_L16]
      simp (disch := omega) only [ck_t, nrm_of, aP0, Nat.reduceAdd, hp.2.2.2.2.2.1]
      rw [if_pos (by omega)]
    · rw [f6_meanTransit_L9]
      simp (disch := omega) only [ck_t, nrm_of, hm.2.2.2.2.2.1]
      rw [if_pos (by omega)]
  | succ k ih =>
    intro n n' i a hn hn' hl
    obtain ⟨n, rfl⟩ : ∃ m, n = m + 1 := ⟨n - 1, by omega⟩
    obtain ⟨n', rfl⟩ : ∃ m, n' = m + 1 := ⟨n' - 1, by omega⟩
    have hi : i < P.2.2.2.2.2.1.length := by omega
    have hI := fun a => ih n n' (i + 1) a (by omega) (by omega) (by omega)
    simp only [Int.natCast_add, Int.natCast_one] at hI
    have hc : ¬ (P.2.2.2.2.2.1.length : Int) ≤ (i : Int) := by omega
    rw [f5_meanTransit_L16, f6_meanTransit_L9, M_ofBooking (i := i) (y := 3) (j := 3) rfl rfl (by omega) (by omega), M_ofBooking (i := i) (y := 2) (j := 2) rfl rfl (by omega) (by omega)]
    simp only [bd_s, up9]
    rw [(h.bb hi).2.2.2, (h.bb hi).2.2.1]
    simp (disch := omega) only [ck_t, nrm_of, bd_s, Int.toNat_natCast, aP0, Nat.reduceAdd, hp.2.2.2.2.2.1, h.mk.pl.2.2.2.2.2.1, up9]
    rw [if_neg hc, if_neg hc]
    exact hI _
theorem op_meanTransit : OpF (fun V => f5_meanTransit V) (fun V => f6_meanTransit V) := by
  intro V S P h
  have hr := h.ck.ok.rg
  have hp := h.ck.pl
  have hm := (h.mk.thr 0).pl
  have hF := FU_ge
  obtain ⟨r, g1, g2⟩ := mtL h P.2.2.2.2.2.1.length FU FU 0 0 (by omega) (by omega) (by omega)
  rw [nc0] at g1 g2
  have kl : nrm (P.2.2.2.2.2.1.length : Int) = (P.2.2.2.2.2.1.length : Int) := nrm_of (by omega) (by omega)
  by_cases c : P.2.2.2.2.2.1.length = 0
  · refine ⟨0, 0, up2 V 148 9 0, ?_, ?_, S, P, h.thr 0⟩
    · show f5_meanTransit V = _
      unfold f5_meanTransit
      rw [aP0, hp.2.2.2.2.2.1, kl, if_pos (by omega)]
    · show f6_meanTransit V = _
      unfold f6_meanTransit
      rw [g2, bd_s, hm.2.2.2.2.2.1, kl, if_pos (by omega)]
  · refine ⟨r, (P.2.2.2.2.2.1.length : Int), up2 V 148 9 0, ?_, ?_, S, P, h.thr 0⟩
    · show f5_meanTransit V = _
      unfold f5_meanTransit
      rw [aP0, hp.2.2.2.2.2.1, kl, if_neg (by omega), g1, bd_s, ck_t (by omega)]
    · show f6_meanTransit V = _
      unfold f6_meanTransit
      rw [g2, bd_s, hm.2.2.2.2.2.1, kl, if_neg (by omega), ck_t (by omega)]
