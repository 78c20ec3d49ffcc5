/-! the best selection: both loops, and the calls -/
theorem X_bestL {V : VV} {S : Su} {P : Pl} (h : CK V S P) (hE : ∀ i', i' < P.2.2.2.2.2.2.length → exP V S P i') : ∀ (c n b : Nat), c + 1 ≤ n → c < 2 ^ P.2.2.2.2.2.2.length → b < 2 ^ P.2.2.2.2.2.2.length → (b = 0 ∨ seX S P b) → (b = 0 ∨ c < b) → (∀ t', c < t' → t' < 2 ^ P.2.2.2.2.2.2.length → seX S P t' → vlX S P t' < vlX S P b ∨ (vlX S P t' = vlX S P b ∧ t' ≤ b)) → ∃ r : Nat, f5_bestSelection_L20 V n (b : Int) (vlX S P b) (c : Int) = some (r : Int) ∧ bestX S P r := by
  have hr := h.ok.rg
  have hS := h.2.2.2.1
  have h8 := pw_le8 (n := P.2.2.2.2.2.2.length) (by omega)
  intro c
  induction c with
  | zero =>
    intro n b hn hc hb hs hb2 hall
    obtain ⟨n, rfl⟩ : ∃ m, n = m + 1 := ⟨n - 1, by omega⟩
    refine ⟨b, ?_, hb, hs, fun t' h1 h2 h3 => hall t' (by omega) h1 h3⟩
    rw [f5_bestSelection_L20, nc0, nrm_of (by omega) (by omega), if_pos (Int.le_refl _)]
  | succ c ih =>
    intro n b hn hc hb hs hb2 hall
    obtain ⟨n, rfl⟩ : ∃ m, n = m + 1 := ⟨n - 1, by omega⟩
    have hvb : 0 ≤ vlX S P b ∧ vlX S P b ≤ 99 * (P.2.2.2.2.2.2.length : Nat) := vlP_rg hS h.ok (m := mX P.2.2.2.2.2.2.length b) (k := P.2.2.2.2.2.2.length) (i := 0) (by omega)
    have hvc : 0 ≤ vlX S P (c + 1) ∧ vlX S P (c + 1) ≤ 99 * (P.2.2.2.2.2.2.length : Nat) := vlP_rg hS h.ok (m := mX P.2.2.2.2.2.2.length (c + 1)) (k := P.2.2.2.2.2.2.length) (i := 0) (by omega)
    have hpos := vlX_pos hS h.ok (t := c + 1) hc (by omega)
    obtain ⟨r, g1, g2, g3⟩ := X_isSelection h hE hc
    have e1 : ((c + 1 : Nat) : Int) + (-1) = (c : Int) := by omega
    rw [f5_bestSelection_L20, nrm_of (z := ((c + 1 : Nat) : Int)) (by omega) (by omega), if_neg (by omega), g1, bd_s, X_valueOf h, bd_s, e1]
    by_cases z : seX S P (c + 1)
    · have r1 := g3.mpr z
      subst r1
      rw [if_neg (by decide +kernel), bd_s, nrm_of (z := vlX S P (c + 1)) (by omega) (by omega), nrm_of (z := vlX S P b) (by omega) (by omega)]
      by_cases q : vlX S P (c + 1) ≤ vlX S P b
      · rw [if_pos q]
        refine ih n b (by omega) (by omega) hb hs (by omega) (fun t' h1 h2 h3 => ?_)
        by_cases y : t' = c + 1
        · subst y
          rcases Int.lt_or_eq_of_le q with q1 | q1
          · exact Or.inl q1
          · right
            refine ⟨q1, ?_⟩
            rcases hb2 with q2 | q2
            · rw [q2, vlX_0] at q1; omega
            · omega
        · exact hall t' (by omega) h2 h3
      · rw [if_neg q]
        refine ih n (c + 1) (by omega) (by omega) hc (Or.inr z) (Or.inr (by omega)) (fun t' h1 h2 h3 => ?_)
        by_cases y : t' = c + 1
        · subst y; exact Or.inr ⟨rfl, Nat.le_refl _⟩
        · left
          have := hall t' (by omega) h2 h3
          omega
    · have r1 : r = 0 := by
        rcases g2 with q | q
        · exact q
        · exact absurd (g3.mp q) z
      subst r1
      rw [if_pos (by decide +kernel), bd_s, nrm_of (z := 0) (by omega) (by omega), nrm_of (z := vlX S P b) (by omega) (by omega), if_pos hvb.1]
      refine ih n b (by omega) (by omega) hb hs (by omega) (fun t' h1 h2 h3 => ?_)
      by_cases y : t' = c + 1
      · subst y; exact absurd h3 z
      · exact hall t' (by omega) h2 h3
theorem X_bestSelection {V : VV} {S : Su} {P : Pl} (h : CK V S P) : ∃ (t : Nat) (W : VV), f5_bestSelection V = some ((t : Int), W) ∧ (∀ c, c ≠ 74 → W c = V c) ∧ CK W S P ∧ bestX S P t := by
  have hr := h.ok.rg
  have h8 := pw_le8 (n := P.2.2.2.2.2.2.length) (by omega)
  have hpos := Nat.two_pow_pos P.2.2.2.2.2.2.length
  obtain ⟨W, g1, g2, g3⟩ := X_findExcluded h
  have hW : CK W S P := h.of (by rw [g2 0 (by omega)]) (fun c c1 c2 => g2 c (by omega))
  obtain ⟨t, k1, k2⟩ := X_bestL hW g3 (2 ^ P.2.2.2.2.2.2.length - 1) FU 0 (by have := FU_ge; omega) (by omega) hpos (Or.inl rfl) (Or.inl rfl) (fun t' h1 h2 => absurd h2 (by omega))
  refine ⟨t, W, ?_, g2, hW, k2⟩
  unfold f5_bestSelection
  rw [g1, bd_s, aP0, hW.pl.2.2.2.2.2.2, lI_n _ (by omega)]
  rw [nc0, vlX_0] at k1
  rw [show ((2 ^ P.2.2.2.2.2.2.length : Nat) : Int) - 1 = ((2 ^ P.2.2.2.2.2.2.length - 1 : Nat) : Int) by omega, k1]
  rfl
theorem rvn_inv : ∀ n, n < 9 → ∀ t, t < 2 ^ n → rvn n (rvn n t) = t := by decide +kernel
theorem vl_rv {S : Su} {P : Pl} (hn : P.2.2.2.2.2.2.length < 9) {s : Nat} (hs : s < 2 ^ P.2.2.2.2.2.2.length) : vlX S P (rvn P.2.2.2.2.2.2.length s) = vlM S P s ∧ (seX S P (rvn P.2.2.2.2.2.2.length s) ↔ seM S P s) := by
  have h1 := (rvn_ok _ hn s hs).2.2
  exact ⟨vlP_congr (fun j _ h2 => h1 j (by omega)), selB_congr (fun i hi => h1 i hi)⟩
theorem M_bestL {V : VV} {S : Su} {P : Pl} (h : MK V S P) : ∀ (k n c b : Nat), k + 1 ≤ n → 2 ^ P.2.2.2.2.2.2.length = c + k → b < c → (b = 0 ∨ seM S P b) → (∀ s', s' ≠ 0 → s' < c → seM S P s' → vlM S P s' < vlM S P b ∨ (vlM S P s' = vlM S P b ∧ rvn P.2.2.2.2.2.2.length s' ≤ rvn P.2.2.2.2.2.2.length b)) → ∃ r : Nat, f6_bestSet_L4 V n (b : Int) (c : Int) = some (r : Int) ∧ r < 2 ^ P.2.2.2.2.2.2.length ∧ bestX S P (rvn P.2.2.2.2.2.2.length r) := by
  have hr := h.ok.rg
  have hp := h.pl
  have hS := h.2.2.1
  have hn9 : P.2.2.2.2.2.2.length < 9 := by omega
  have h8 := pw_le8 hn9
  intro k
  induction k with
  | zero =>
    intro n c b hn hl hb hs hall
    obtain ⟨n, rfl⟩ : ∃ m, n = m + 1 := ⟨n - 1, by omega⟩
    refine ⟨b, ?_, by omega, (rvn_ok _ hn9 b (by omega)).1, ?_, fun t' h1 h2 h3 => ?_⟩
    · rw [f6_bestSet_L4, hp.2.2.2.2.2.2, lI_n _ hn9, nrm_of (by omega) (by omega), nrm_of (by omega) (by omega), if_pos (by omega)]
    · rcases hs with q | q
      · left; exact (rvn_ok _ hn9 b (by omega)).2.1.mpr q
      · right; exact (vl_rv hn9 (by omega)).2.mpr q
    · have hi := rvn_inv _ hn9 t' h1
      have hlt := (rvn_ok _ hn9 t' h1).1
      have hv := vl_rv (S := S) hn9 hlt
      rw [hi] at hv
      have hvb := vl_rv (S := S) hn9 (s := b) (by omega)
      rw [hv.1, hvb.1]
      have := hall (rvn P.2.2.2.2.2.2.length t') (fun z => h2 ((rvn_ok _ hn9 t' h1).2.1.mp z)) (by omega) (hv.2.mp h3)
      rw [hi] at this
      exact this
  | succ k ih =>
    intro n c b hn hl hb hs hall
    obtain ⟨n, rfl⟩ : ∃ m, n = m + 1 := ⟨n - 1, by omega⟩
    have hc : c < 2 ^ P.2.2.2.2.2.2.length := by omega
    have hvb : 0 ≤ vlM S P b ∧ vlM S P b ≤ 99 * (P.2.2.2.2.2.2.length : Nat) := vlP_rg hS h.ok (m := fun i => b.testBit i) (k := P.2.2.2.2.2.2.length) (i := 0) (by omega)
    have hvc : 0 ≤ vlM S P c ∧ vlM S P c ≤ 99 * (P.2.2.2.2.2.2.length : Nat) := vlP_rg hS h.ok (m := fun i => c.testBit i) (k := P.2.2.2.2.2.2.length) (i := 0) (by omega)
    obtain ⟨r, g1, g2, g3⟩ := M_isSelection h (s := c) (by omega)
    have hkeep : (seM S P c → vlM S P c < vlM S P b ∨ (vlM S P c = vlM S P b ∧ rvn P.2.2.2.2.2.2.length c ≤ rvn P.2.2.2.2.2.2.length b)) → ∃ r : Nat, f6_bestSet_L4 V n (b : Int) ((c : Int) + 1) = some (r : Int) ∧ r < 2 ^ P.2.2.2.2.2.2.length ∧ bestX S P (rvn P.2.2.2.2.2.2.length r) := by
      intro hk
      have hI := ih n (c + 1) b (by omega) (by omega) (by omega) hs (fun s' h1 h2 h3 => by
        by_cases y : s' = c
        · subst y; exact hk h3
        · exact hall s' h1 (by omega) h3)
      rw [Int.natCast_add, Int.natCast_one] at hI
      exact hI
    have htake : seM S P c → (vlM S P b < vlM S P c ∨ (vlM S P b = vlM S P c ∧ rvn P.2.2.2.2.2.2.length b < rvn P.2.2.2.2.2.2.length c)) → ∃ r : Nat, f6_bestSet_L4 V n (c : Int) ((c : Int) + 1) = some (r : Int) ∧ r < 2 ^ P.2.2.2.2.2.2.length ∧ bestX S P (rvn P.2.2.2.2.2.2.length r) := by
      intro hsc hk
      have hI := ih n (c + 1) c (by omega) (by omega) (by omega) (Or.inr hsc) (fun s' h1 h2 h3 => by
        by_cases y : s' = c
        · subst y; exact Or.inr ⟨rfl, Nat.le_refl _⟩
        · have := hall s' h1 (by omega) h3
          omega)
      rw [Int.natCast_add, Int.natCast_one] at hI
      exact hI
    have hsel : (vlM S P b < vlM S P c ∨ (vlM S P b = vlM S P c ∧ rvn P.2.2.2.2.2.2.length b < rvn P.2.2.2.2.2.2.length c)) → ∃ q : Nat, bd (f6_isSelection V (c : Int)) (fun r8 => (if nrm r8 = 0 then f6_bestSet_L4 V n (b : Int) ((c : Int) + 1) else f6_bestSet_L4 V n (c : Int) ((c : Int) + 1))) = some (q : Int) ∧ q < 2 ^ P.2.2.2.2.2.2.length ∧ bestX S P (rvn P.2.2.2.2.2.2.length q) := by
      intro hk
      rw [g1, bd_s]
      rcases g2 with q | q
      · subst q
        rw [if_pos (by decide +kernel)]
        exact hkeep (fun z => absurd (g3.mpr z) (by decide))
      · subst q
        rw [if_neg (by decide +kernel)]
        exact htake (g3.mp rfl) hk
    rw [f6_bestSet_L4, hp.2.2.2.2.2.2, lI_n _ hn9, nrm_of (by omega) (by omega), nrm_of (z := (c : Int)) (by omega) (by omega), if_neg (by omega), M_valueOf h (by omega), bd_s, M_valueOf h (by omega), bd_s, nrm_of (z := vlM S P c - vlM S P b) (by omega) (by omega)]
    by_cases q1 : 0 < vlM S P c - vlM S P b
    · rw [if_pos q1]
      exact hsel (Or.inl (by omega))
    · rw [if_neg q1]
      by_cases q2 : vlM S P c - vlM S P b = 0
      · rw [if_pos q2]
        obtain ⟨a1, a2⟩ := rvn_lt hn9 hc (show b < 2 ^ P.2.2.2.2.2.2.length by omega) (by omega)
        unfold f6_isAhead
        by_cases q3 : nrm (aI (aI (c : Int) (xI (c : Int) (b : Int))) (-(xI (c : Int) (b : Int)))) = 0
        · rw [if_pos q3, bd_s, if_pos (by decide +kernel)]
          exact hkeep (fun _ => Or.inr ⟨by omega, Nat.le_of_lt (a1 q3)⟩)
        · rw [if_neg q3, bd_s, if_neg (by decide +kernel)]
          exact hsel (Or.inr ⟨by omega, a2 q3⟩)
      · rw [if_neg q2]
        exact hkeep (fun _ => Or.inl (by omega))
theorem M_bestSet {V : VV} {S : Su} {P : Pl} (h : MK V S P) : ∃ s : Nat, f6_bestSet V = some (s : Int) ∧ s < 2 ^ P.2.2.2.2.2.2.length ∧ bestX S P (rvn P.2.2.2.2.2.2.length s) := by
  have hr := h.ok.rg
  have h8 := pw_le8 (n := P.2.2.2.2.2.2.length) (by omega)
  have hpos := Nat.two_pow_pos P.2.2.2.2.2.2.length
  obtain ⟨s, g1, g2, g3⟩ := M_bestL h (2 ^ P.2.2.2.2.2.2.length - 1) FU 1 0 (by have := FU_ge; omega) (by omega) (by omega) (Or.inl rfl) (fun s' h1 h2 => absurd h2 (by omega))
  refine ⟨s, ?_, g2, g3⟩
  rw [nc0, show ((1 : Nat) : Int) = 1 from rfl] at g1
  unfold f6_bestSet
  rw [g1]
  rfl
theorem same_74 {V W : VV} (h : ∀ c, c ≠ 74 → W c = V c) : same V W := ⟨h 0 (by omega), by rw [h 1 (by omega)], by rw [h 1 (by omega)], by rw [h 1 (by omega)], h 2 (by omega), fun k _ _ => h k (by omega), fun k _ _ => h k (by omega), by rw [h 148 (by omega)], by rw [h 148 (by omega)], by rw [h 148 (by omega)], by rw [h 148 (by omega)], by rw [h 148 (by omega)], fun k _ _ => h k (by omega)⟩
theorem op_bestValue : Op2 (fun V => f5_bestValue V) (fun V => f6_bestValue V) := by
  intro V S P h
  have hr := h.ck.ok.rg
  have hn9 : P.2.2.2.2.2.2.length < 9 := by omega
  have h8 := pw_le8 hn9
  obtain ⟨t, W, g1, g2, g3, g4⟩ := X_bestSelection h.ck
  have hmk : MK (up2 W 148 9 0) S P := (h.mk.of (g2 149 (by omega))).thr 0
  obtain ⟨s, m1, m2, m3⟩ := M_bestSet hmk
  have ht := bestX_u h.ck.2.2.2.1 h.ck.ok g4 m3
  refine ⟨vlX S P t, W, up2 W 148 9 0, ?_, ?_, S, P, (h.sm (same_74 g2)).thr 0⟩
  · show f5_bestValue V = _
    unfold f5_bestValue
    rw [g1, bd2_s, X_valueOf g3, bd_s]
  · show f6_bestValue W = _
    unfold f6_bestValue
    rw [m1, bd_s, M_valueOf hmk (by omega), bd_s, ht, (vl_rv hn9 m2).1]
theorem op_isSelected {x : Int} (hx : rgI x) : Op1 [eI] (fun V => f5_isSelected V x) (fun V => f6_isSelected V x) := by
  intro V S P h
  have hr := h.ck.ok.rg
  have hn9 : P.2.2.2.2.2.2.length < 9 := by omega
  have h8 := pw_le8 hn9
  by_cases c : isRq P x
  · obtain ⟨i, rfl⟩ : ∃ i : Nat, x = (i : Int) := ⟨x.toNat, by omega⟩
    have hi : i < P.2.2.2.2.2.2.length := by omega
    obtain ⟨t, W, g1, g2, g3, g4⟩ := X_bestSelection h.ck
    have hmk : MK (up2 W 148 9 0) S P := (h.mk.of (g2 149 (by omega))).thr 0
    obtain ⟨s, m1, m2, m3⟩ := M_bestSet hmk
    have ht := bestX_u h.ck.2.2.2.1 h.ck.ok g4 m3
    have hb := (rvn_ok _ hn9 s m2).2.2 i hi
    rw [← ht] at hb
    refine ⟨.ok (if s.testBit i = true then 1 else 0), W, if s.testBit i = true then 1 else 0, up2 W 148 9 0, ?_, ?_, th0 (z := 0), fun r hr => okr hr rfl, S, P, (h.sm (same_74 g2)).thr 0⟩
    · show f5_isSelected V (i : Int) = _
      unfold f5_isSelected
      rw [X_isRequest h.ck hx, if_pos c]
      simp only [bd_q, n10, if_false]
      rw [g1, bd2_s, X_bitOf g3 hi, bd_s]
      have hm := X_mem g3 (t := t) hi
      unfold mX at hm
      rw [hb] at hm
      cases z : s.testBit i
      · rw [if_pos (hm.mpr z)]; simp
      · rw [if_neg (fun q => by rw [hm.mp q] at z; exact absurd z (by decide))]; simp
    · show f6_isSelected W (i : Int) = _
      unfold f6_isSelected
      rw [M_isRequest (h.mk.of (g2 149 (by omega))) hx, if_pos c]
      simp only [bd_q, n10, if_false]
      rw [M_fails0]
      simp only [bd2_s, n00, if_true]
      rw [m1, bd_s]
      have hm := (M_mem (s := s) (k := i) (by omega) (by omega)).1
      by_cases z : s.testBit i = true
      · rw [if_pos (hm.mpr z), if_pos z]
      · rw [if_neg (fun q => z (hm.mp q)), if_neg z]
  · refine ⟨.error eI, V, 0, up2 V 148 9 1, ?_, ?_, (up2_s _ _ _ _).trans cod_1.symm, fun r hr => ner hr, S, P, h.thr 1⟩
    · show f5_isSelected V x = _
      unfold f5_isSelected
      rw [X_isRequest h.ck hx, if_neg c]
      simp only [bd_q, n00, if_true]
    · show f6_isSelected V x = _
      unfold f6_isSelected
      rw [M_isRequest h.mk hx, if_neg c]
      simp only [bd_q, n00, if_true]
      rw [M_fails1 (Or.inl rfl) (Or.inl rfl)]
      simp only [bd2_s, n10, if_false]
