/-! the schedule of the law: reading, taking out, serving the waiting list, agreement -/
theorem frk {k k' : Nat} (h : k' ≠ k) (W : VV) (i : Nat) (z : Int) : up2 W k i z k' = W k' := up2_r h
theorem O_readB {S : Su} {P : Pl} : ∀ (k n i : Nat) (V : VV), k + 1 ≤ n → P.2.2.2.2.2.1.length = i + k → CK V S P → V 148 5 = (P.2.2.2.2.2.1.length : Int) → ∃ V' : VV, f6_read_L24 n (i : Int) V = some V' ∧ (∀ q, ¬ (149 ≤ q ∧ q < 153) → V' q = V q) ∧ (∀ t, t < i → V' 149 t = V 149 t ∧ V' 150 t = V 150 t ∧ V' 151 t = V 151 t ∧ V' 152 t = V 152 t) ∧ (∀ t, i ≤ t → t < P.2.2.2.2.2.1.length → V' 149 t = V 54 t ∧ V' 150 t = V 55 t ∧ V' 151 t = V 56 t ∧ V' 152 t = V 57 t) := by
  intro k
  induction k with
  | zero =>
    intro n i V hn hl h hw
    obtain ⟨n, rfl⟩ : ∃ m, n = m + 1 := ⟨n - 1, by omega⟩
    have hr := h.ok.rg
    exact ⟨V, by rw [f6_read_L24, hw, nrm_of (by omega) (by omega), nrm_of (by omega) (by omega), if_pos (by omega)], fun _ _ => rfl, fun _ _ => ⟨rfl, rfl, rfl, rfl⟩, fun t t1 t2 => by omega⟩
  | succ k ih =>
    intro n i V hn hl h hw
    obtain ⟨n, rfl⟩ : ∃ m, n = m + 1 := ⟨n - 1, by omega⟩
    have hr := h.ok.rg
    have hi : i < P.2.2.2.2.2.1.length := by omega
    obtain ⟨-, -, ob⟩ := h.b hi
    obtain ⟨q1, q2, q3, q4⟩ := Q_bk h hi
    have c1 : CK (up2 V 149 i (V 54 i)) S P := h.up (fun k hk => up2_r (by omega))
    have c2 : CK (up2 (up2 V 149 i (V 54 i)) 150 i (V 55 i)) S P := c1.up (fun k hk => up2_r (by omega))
    have c3 : CK (up2 (up2 (up2 V 149 i (V 54 i)) 150 i (V 55 i)) 151 i (V 56 i)) S P := c2.up (fun k hk => up2_r (by omega))
    have p2 := (Q_bk c1 hi).2.1
    have p3 := (Q_bk c2 hi).2.2.1
    have p4 := (Q_bk c3 hi).2.2.2
    simp only [frk (show (55 : Nat) ≠ 149 by decide), frk (show (56 : Nat) ≠ 150 by decide), frk (show (56 : Nat) ≠ 149 by decide), frk (show (57 : Nat) ≠ 151 by decide), frk (show (57 : Nat) ≠ 150 by decide), frk (show (57 : Nat) ≠ 149 by decide)] at p2 p3 p4
    obtain ⟨V1, eV1⟩ : ∃ V1 : VV, V1 = pB V 149 i (V 54 i) (V 55 i) (V 56 i) (V 57 i) := ⟨_, rfl⟩
    have k1 : ∀ q, ¬ (149 ≤ q ∧ q < 153) → V1 q = V q := fun q hq => by rw [eV1]; exact pB_k (by omega)
    obtain ⟨V', g1, g2, g3, g4⟩ := ih n (i + 1) V1 (by omega) (by omega) (h.up (fun k hk => k1 k (by omega))) (by rw [k1 148 (by omega)]; exact hw)
    refine ⟨V', ?_, fun q hq => by rw [g2 q hq, k1 q hq], fun t ht => ?_, fun t t1 t2 => ?_⟩
    · rw [f6_read_L24, hw, nrm_of (by omega) (by omega), nrm_of (by omega) (by omega), if_neg (by omega), q1, bd_q, ck_t (by omega), Int.toNat_natCast, p2, bd_q, ck_t ob.2.2.1, p3, bd_q, p4, bd_q, show (i : Int) + 1 = ((i + 1 : Nat) : Int) by omega]
      rw [eV1] at g1
      exact g1
    · obtain ⟨a, b, c, d⟩ := g3 t (by omega)
      rw [a, b, c, d, eV1]
      exact ⟨pB_n (by omega), pB_n (by omega), pB_n (by omega), pB_n (by omega)⟩
    · by_cases e : t = i
      · subst e
        obtain ⟨a, b, c, d⟩ := g3 t (by omega)
        rw [a, b, c, d, eV1]
        exact ⟨pB_0, pB_1, pB_2, pB_3⟩
      · obtain ⟨a, b, c, d⟩ := g4 t (by omega) t2
        rw [a, b, c, d, k1 54 (by omega), k1 55 (by omega), k1 56 (by omega), k1 57 (by omega)]
        exact ⟨rfl, rfl, rfl, rfl⟩
theorem O_readR {S : Su} {P : Pl} : ∀ (k n i : Nat) (V : VV), k + 1 ≤ n → P.2.2.2.2.2.2.length = i + k → CK V S P → V 148 10 = (P.2.2.2.2.2.2.length : Int) → ∃ V' : VV, f6_read_L107 n (i : Int) V = some V' ∧ (∀ q, ¬ (153 ≤ q ∧ q < 157) → V' q = V q) ∧ (∀ t, t < i → V' 153 t = V 153 t ∧ V' 154 t = V 154 t ∧ V' 155 t = V 155 t ∧ V' 156 t = V 156 t) ∧ (∀ t, i ≤ t → t < P.2.2.2.2.2.2.length → V' 153 t = V 58 t ∧ V' 154 t = V 59 t ∧ V' 155 t = V 60 t ∧ V' 156 t = V 61 t) := by
  intro k
  induction k with
  | zero =>
    intro n i V hn hl h hw
    obtain ⟨n, rfl⟩ : ∃ m, n = m + 1 := ⟨n - 1, by omega⟩
    have hr := h.ok.rg
    exact ⟨V, by rw [f6_read_L107, hw, nrm_of (by omega) (by omega), nrm_of (by omega) (by omega), if_pos (by omega)], fun _ _ => rfl, fun _ _ => ⟨rfl, rfl, rfl, rfl⟩, fun t t1 t2 => by omega⟩
  | succ k ih =>
    intro n i V hn hl h hw
    obtain ⟨n, rfl⟩ : ∃ m, n = m + 1 := ⟨n - 1, by omega⟩
    have hr := h.ok.rg
    have hi : i < P.2.2.2.2.2.2.length := by omega
    obtain ⟨-, -, ob⟩ := h.r hi
    obtain ⟨q1, q2, q3, q4⟩ := Q_rq h hi
    have c1 : CK (up2 V 153 i (V 58 i)) S P := h.up (fun k hk => up2_r (by omega))
    have c2 : CK (up2 (up2 V 153 i (V 58 i)) 154 i (V 59 i)) S P := c1.up (fun k hk => up2_r (by omega))
    have c3 : CK (up2 (up2 (up2 V 153 i (V 58 i)) 154 i (V 59 i)) 155 i (V 60 i)) S P := c2.up (fun k hk => up2_r (by omega))
    have p2 := (Q_rq c1 hi).2.1
    have p3 := (Q_rq c2 hi).2.2.1
    have p4 := (Q_rq c3 hi).2.2.2
    simp only [frk (show (59 : Nat) ≠ 153 by decide), frk (show (60 : Nat) ≠ 154 by decide), frk (show (60 : Nat) ≠ 153 by decide), frk (show (61 : Nat) ≠ 155 by decide), frk (show (61 : Nat) ≠ 154 by decide), frk (show (61 : Nat) ≠ 153 by decide)] at p2 p3 p4
    obtain ⟨V1, eV1⟩ : ∃ V1 : VV, V1 = pB V 153 i (V 58 i) (V 59 i) (V 60 i) (V 61 i) := ⟨_, rfl⟩
    have k1 : ∀ q, ¬ (153 ≤ q ∧ q < 157) → V1 q = V q := fun q hq => by rw [eV1]; exact pB_k (by omega)
    obtain ⟨V', g1, g2, g3, g4⟩ := ih n (i + 1) V1 (by omega) (by omega) (h.up (fun k hk => k1 k (by omega))) (by rw [k1 148 (by omega)]; exact hw)
    refine ⟨V', ?_, fun q hq => by rw [g2 q hq, k1 q hq], fun t ht => ?_, fun t t1 t2 => ?_⟩
    · rw [f6_read_L107, hw, nrm_of (by omega) (by omega), nrm_of (by omega) (by omega), if_neg (by omega), q1, bd_q, ck_t (by omega), Int.toNat_natCast, p2, bd_q, ck_t ob.2.2.1, p3, bd_q, p4, bd_q, show (i : Int) + 1 = ((i + 1 : Nat) : Int) by omega]
      rw [eV1] at g1
      exact g1
    · obtain ⟨a, b, c, d⟩ := g3 t (by omega)
      rw [a, b, c, d, eV1]
      exact ⟨pB_n (by omega), pB_n (by omega), pB_n (by omega), pB_n (by omega)⟩
    · by_cases e : t = i
      · subst e
        obtain ⟨a, b, c, d⟩ := g3 t (by omega)
        rw [a, b, c, d, eV1]
        exact ⟨pB_0, pB_1, pB_2, pB_3⟩
      · obtain ⟨a, b, c, d⟩ := g4 t (by omega) t2
        rw [a, b, c, d, k1 58 (by omega), k1 59 (by omega), k1 60 (by omega), k1 61 (by omega)]
        exact ⟨rfl, rfl, rfl, rfl⟩
theorem O_read {V : VV} {S : Su} {P : Pl} (h : CK V S P) : ∃ V' : VV, f6_read V = some V' ∧ (∀ k, k < 148 → V' k = V k) ∧ OW V' P.2.2.2.2.2.1 P.2.2.2.2.2.2 P.2.2.2.2.1 := by
  obtain ⟨V1, eV1⟩ : ∃ V1 : VV, V1 = up2 (up2 V 148 5 (P.2.2.2.2.2.1.length : Int)) 148 11 P.2.2.2.2.1 := ⟨_, rfl⟩
  have k1 : ∀ k, k ≠ 148 → V1 k = V k := fun k hk => by rw [eV1, up2_r hk, up2_r hk]
  have h0 : CK (up2 V 148 5 (P.2.2.2.2.2.1.length : Int)) S P := h.up (fun k hk => up2_r (by omega))
  have h1 : CK V1 S P := h.up (fun k hk => k1 k (by omega))
  have e5 : V1 148 5 = (P.2.2.2.2.2.1.length : Int) := by rw [eV1, up2_n (by omega), up2_s]
  have e11 : V1 148 11 = P.2.2.2.2.1 := by rw [eV1, up2_s]
  obtain ⟨W, w1, w2, -, w4⟩ := O_readB P.2.2.2.2.2.1.length FU 0 V1 (by have := FU_ge; have := h.ok.rg; omega) (by omega) h1 e5
  have hW : CK W S P := h1.up (fun k hk => w2 k (by omega))
  obtain ⟨W1, eW1⟩ : ∃ W1 : VV, W1 = up2 W 148 10 (P.2.2.2.2.2.2.length : Int) := ⟨_, rfl⟩
  have m1 : ∀ k, k ≠ 148 → W1 k = W k := fun k hk => by rw [eW1, up2_r hk]
  have hW1 : CK W1 S P := hW.up (fun k hk => m1 k (by omega))
  have f10 : W1 148 10 = (P.2.2.2.2.2.2.length : Int) := by rw [eW1, up2_s]
  obtain ⟨V', v1, v2, -, v4⟩ := O_readR P.2.2.2.2.2.2.length FU 0 W1 (by have := FU_ge; have := h.ok.rg; omega) (by omega) hW1 f10
  have n5 : V' 148 5 = (P.2.2.2.2.2.1.length : Int) := by rw [v2 148 (by omega), eW1, up2_n (by omega), w2 148 (by omega), e5]
  have n11 : V' 148 11 = P.2.2.2.2.1 := by rw [v2 148 (by omega), eW1, up2_n (by omega), w2 148 (by omega), e11]
  refine ⟨V', ?_, fun k hk => by rw [v2 k (by omega), m1 k (by omega), w2 k (by omega), k1 k (by omega)], ⟨vw_ext rfl (fun i hi => ?_), n5⟩, ⟨vw_ext rfl (fun i hi => ?_), by rw [v2 148 (by omega), f10]⟩, n11⟩
  · unfold f6_read
    rw [(Q_n h).1, bd_q, (Q_n h0).2.2.1, bd_q]
    rw [eV1, nc0] at w1
    rw [w1, bd_q, (Q_n hW).2.1, bd_q]
    rw [eW1, nc0] at v1
    rw [v1, bd_q]
  · obtain ⟨a, b, c, d⟩ := w4 i (by omega) hi
    have hb := (h1.b hi).2.1
    unfold col
    show P.2.2.2.2.2.1[i]? = some (V' 149 i, V' 150 i, V' 151 i, V' 152 i)
    rw [v2 149 (by omega), v2 150 (by omega), v2 151 (by omega), v2 152 (by omega), m1 149 (by omega), m1 150 (by omega), m1 151 (by omega), m1 152 (by omega), a, b, c, d]
    exact hb
  · obtain ⟨a, b, c, d⟩ := v4 i (by omega) hi
    have hb := (hW1.r hi).2.1
    unfold col
    show P.2.2.2.2.2.2[i]? = some (V' 153 i, V' 154 i, V' 155 i, V' 156 i)
    rw [a, b, c, d]
    exact hb
theorem O_removeL {m : Nat} (hm : m < 20) : ∀ (k n i : Nat) (V : VV), k + 1 ≤ n → m = i + k → V 148 5 = (m : Int) → (∀ t, t ≤ m → V 150 t = 0 ∨ V 150 t = 1) → ∃ V' : VV, f6_remove_L12 n (i : Int) V = some V' ∧ (∀ q, ¬ (149 ≤ q ∧ q < 153) → V' q = V q) ∧ (∀ t, t < i → V' 149 t = V 149 t ∧ V' 150 t = V 150 t ∧ V' 151 t = V 151 t ∧ V' 152 t = V 152 t) ∧ (∀ t, i ≤ t → t < m → V' 149 t = V 149 (t + 1) ∧ V' 150 t = V 150 (t + 1) ∧ V' 151 t = V 151 (t + 1) ∧ V' 152 t = V 152 (t + 1)) := by
  intro k
  induction k with
  | zero =>
    intro n i V hn hl hw hb
    obtain ⟨n, rfl⟩ : ∃ m, n = m + 1 := ⟨n - 1, by omega⟩
    exact ⟨V, by rw [f6_remove_L12, hw, nrm_of (by omega) (by omega), nrm_of (by omega) (by omega), if_pos (by omega)], fun _ _ => rfl, fun _ _ => ⟨rfl, rfl, rfl, rfl⟩, fun t t1 t2 => by omega⟩
  | succ k ih =>
    intro n i V hn hl hw hb
    obtain ⟨n, rfl⟩ : ∃ m, n = m + 1 := ⟨n - 1, by omega⟩
    obtain ⟨V1, eV1⟩ : ∃ V1 : VV, V1 = pB V 149 i (V 149 (i + 1)) (V 150 (i + 1)) (V 151 (i + 1)) (V 152 (i + 1)) := ⟨_, rfl⟩
    have k1 : ∀ q, ¬ (149 ≤ q ∧ q < 153) → V1 q = V q := fun q hq => by rw [eV1]; exact pB_k (by omega)
    have kn : ∀ q t, t ≠ i → V1 q t = V q t := fun q t ht => by rw [eV1]; exact pB_n ht
    have k0 : V1 149 i = V 149 (i + 1) ∧ V1 150 i = V 150 (i + 1) ∧ V1 151 i = V 151 (i + 1) ∧ V1 152 i = V 152 (i + 1) := by
      rw [eV1]
      exact ⟨pB_0, pB_1, pB_2, pB_3⟩
    obtain ⟨V', g1, g2, g3, g4⟩ := ih n (i + 1) V1 (by omega) (by omega) (by rw [k1 148 (by omega)]; exact hw) (fun t ht => by
      by_cases e : t = i
      · rw [e, k0.2.1]; exact hb (i + 1) (by omega)
      · rw [kn 150 t e]; exact hb t ht)
    refine ⟨V', ?_, fun q hq => by rw [g2 q hq, k1 q hq], fun t ht => ?_, fun t t1 t2 => ?_⟩
    · rw [f6_remove_L12, hw, nrm_of (by omega) (by omega), nrm_of (by omega) (by omega), if_neg (by omega)]
      simp only [show (i : Int) + 1 = ((i + 1 : Nat) : Int) by omega, Int.toNat_natCast, frk (show (150 : Nat) ≠ 149 by decide), frk (show (151 : Nat) ≠ 150 by decide), frk (show (151 : Nat) ≠ 149 by decide), frk (show (152 : Nat) ≠ 151 by decide), frk (show (152 : Nat) ≠ 150 by decide), frk (show (152 : Nat) ≠ 149 by decide)]
      rw [ck_t (by omega), ck_t (by omega), ck_t (hb (i + 1) (by omega))]
      rw [eV1] at g1
      exact g1
    · obtain ⟨a, b, c, d⟩ := g3 t (by omega)
      rw [a, b, c, d]
      exact ⟨kn _ _ (by omega), kn _ _ (by omega), kn _ _ (by omega), kn _ _ (by omega)⟩
    · by_cases e : t = i
      · subst e
        obtain ⟨a, b, c, d⟩ := g3 t (by omega)
        rw [a, b, c, d]
        exact k0
      · obtain ⟨a, b, c, d⟩ := g4 t (by omega) t2
        rw [a, b, c, d]
        exact ⟨kn _ _ (by omega), kn _ _ (by omega), kn _ _ (by omega), kn _ _ (by omega)⟩
theorem O_remove {V : VV} {B R : List Bk} {sv : Int} (w : OW V B R sv) (hB : B.length ≤ 20) (hb : ∀ b ∈ B, rgB b) {i : Nat} (hi : i < B.length) : ∃ V' : VV, f6_remove V (i : Int) = some V' ∧ (∀ k, k < 148 → V' k = V k) ∧ OW V' (B.eraseIdx i) R sv := by
  obtain ⟨m, hm⟩ : ∃ m, B.length = m + 1 := ⟨B.length - 1, by omega⟩
  obtain ⟨V1, eV1⟩ : ∃ V1 : VV, V1 = up2 V 148 5 (V 148 5 - 1) := ⟨_, rfl⟩
  have k1 : ∀ k, k ≠ 148 → V1 k = V k := fun k hk => by rw [eV1, up2_r hk]
  have e5 : V1 148 5 = (m : Int) := by rw [eV1, up2_s, w.1.2]; omega
  obtain ⟨V', g1, g2, g3, g4⟩ := O_removeL (m := m) (by omega) (m - i) FU i V1 (by have := FU_ge; omega) (by omega) e5 (fun t ht => by
    rw [k1 150 (by omega)]
    exact (hb _ (List.mem_of_getElem? (w.b (i := t) (by omega)))).1)
  refine ⟨V', ?_, fun k hk => by rw [g2 k (by omega), k1 k (by omega)], ⟨?_, ?_⟩, ⟨?_, ?_⟩, ?_⟩
  · unfold f6_remove
    rw [eV1] at g1
    rw [g1, bd_q]
  · rw [List.length_eraseIdx_of_lt hi, hm, Nat.add_sub_cancel]
    have := vw_rem (F := col V 149) (F' := col V' 149) (n := m) (p := i) (by omega) (fun t ht => by
      obtain ⟨a, b, c, d⟩ := g3 t ht
      unfold col
      rw [a, b, c, d, k1 149 (by omega), k1 150 (by omega), k1 151 (by omega), k1 152 (by omega)]
      exact ⟨rfl, rfl, rfl, rfl⟩) (fun t t1 t2 => by
      obtain ⟨a, b, c, d⟩ := g4 t t1 t2
      unfold col
      rw [a, b, c, d, k1 149 (by omega), k1 150 (by omega), k1 151 (by omega), k1 152 (by omega)]
      exact ⟨rfl, rfl, rfl, rfl⟩)
    rw [this, ← hm, w.1.1]
  · rw [g2 148 (by omega), e5, List.length_eraseIdx_of_lt hi, hm, Nat.add_sub_cancel]
  · refine Eq.trans (vw_congr (fun t _ => ?_)) w.2.1.1
    unfold col
    rw [g2 _ (by omega), g2 _ (by omega), g2 _ (by omega), g2 _ (by omega), k1 _ (by omega), k1 _ (by omega), k1 _ (by omega), k1 _ (by omega)]
    exact ⟨rfl, rfl, rfl, rfl⟩
  · rw [g2 148 (by omega), eV1, up2_n (by omega)]
    exact w.2.1.2
  · rw [g2 148 (by omega), eV1, up2_n (by omega)]
    exact w.2.2
