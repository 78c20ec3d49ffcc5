/-! changes of the class's present plan -/
def pB (V : VV) (k0 i : Nat) (a b c d : Int) : VV := up2 (up2 (up2 (up2 V k0 i a) (k0 + 1) i b) (k0 + 2) i c) (k0 + 3) i d
theorem pB_0 {V : VV} {k0 i : Nat} {a b c d : Int} : pB V k0 i a b c d k0 i = a := by
  unfold pB
  rw [up2_n (Or.inl (by omega)), up2_n (Or.inl (by omega)), up2_n (Or.inl (by omega)), up2_s]
theorem pB_1 {V : VV} {k0 i : Nat} {a b c d : Int} : pB V k0 i a b c d (k0 + 1) i = b := by
  unfold pB
  rw [up2_n (Or.inl (by omega)), up2_n (Or.inl (by omega)), up2_s]
theorem pB_2 {V : VV} {k0 i : Nat} {a b c d : Int} : pB V k0 i a b c d (k0 + 2) i = c := by
  unfold pB
  rw [up2_n (Or.inl (by omega)), up2_s]
theorem pB_3 {V : VV} {k0 i : Nat} {a b c d : Int} : pB V k0 i a b c d (k0 + 3) i = d := by
  unfold pB
  rw [up2_s]
theorem pB_n {V : VV} {k0 i : Nat} {a b c d : Int} {k j : Nat} (h : j ≠ i) : pB V k0 i a b c d k j = V k j := by
  unfold pB
  rw [up2_n (Or.inr h), up2_n (Or.inr h), up2_n (Or.inr h), up2_n (Or.inr h)]
theorem pB_k {V : VV} {k0 i : Nat} {a b c d : Int} {k : Nat} (h : k < k0 ∨ k0 + 3 < k) : pB V k0 i a b c d k = V k := by
  unfold pB
  rw [up2_r (by omega), up2_r (by omega), up2_r (by omega), up2_r (by omega)]
theorem X_putBooking {V : VV} {p i : Nat} {x a b c d : Int} (hp : p < 10) (hx : x = (i : Int)) (hi : i < 20) (hb : b = 0 ∨ b = 1) : f1_putBooking V p x a b c d = some (pB V (aP p + 1) i a b c d) := by
  subst hx
  unfold f1_putBooking
  rw [ck_t hp, ck_t (by omega), ck_t hb, Int.toNat_natCast]
  rfl
theorem X_putRequest {V : VV} {p i : Nat} {x a b c d : Int} (hp : p < 10) (hx : x = (i : Int)) (hi : i < 8) (hb : b = 0 ∨ b = 1) : f1_putRequest V p x a b c d = some (pB V (aP p + 5) i a b c d) := by
  subst hx
  unfold f1_putRequest
  rw [ck_t hp, ck_t (by omega), ck_t hb, Int.toNat_natCast]
  rfl
/-- rows of four columns: the same, moved -/
def col (V : VV) (k0 : Nat) : Nat → Nat → Int := fun j i => V (k0 + j) i
theorem pB_c {V : VV} {k0 i k : Nat} {W : VV} (h : k0 ≤ k ∧ k ≤ k0 + 3) {j : Nat} : pB V k0 i (W k0 j) (W (k0 + 1) j) (W (k0 + 2) j) (W (k0 + 3) j) k i = W k j := by
  have : k = k0 ∨ k = k0 + 1 ∨ k = k0 + 2 ∨ k = k0 + 3 := by omega
  rcases this with e | e | e | e <;> subst e
  · exact pB_0
  · exact pB_1
  · exact pB_2
  · exact pB_3
theorem X_insL {sh y s e : Int} : ∀ (m n : Nat) (V : VV), m + 1 ≤ n → m ≤ 19 → -5000 ≤ s → s ≤ 5000 → (∀ i, i < m → (V 55 i = 0 ∨ V 55 i = 1) ∧ -5000 ≤ V 56 i ∧ V 56 i ≤ 5000) →
    ∃ V' : VV, f1_insertBooking_L16 0 sh y s e n (m : Int) V = some ((posF (V 56) s m : Int), V') ∧ (∀ k, ¬ (54 ≤ k ∧ k < 58) → V' k = V k) ∧ ∀ k, 54 ≤ k → k < 58 → (∀ i, i < posF (V 56) s m → V' k i = V k i) ∧ (∀ i, posF (V 56) s m ≤ i → i < m → V' k (i + 1) = V k i) ∧ ∀ i, m < i → V' k i = V k i := by
  intro m
  induction m with
  | zero =>
    intro n V hn hm h1 h2 hV
    obtain ⟨n, rfl⟩ : ∃ m, n = m + 1 := ⟨n - 1, by omega⟩
    refine ⟨V, ?_, fun _ _ => rfl, fun k _ _ => ⟨fun i hi => rfl, fun i _ hi => by omega, fun i _ => rfl⟩⟩
    rw [f1_insertBooking_L16]
    simp (disch := omega) only [ck_t, nrm_of, bd_s, bd2_s, bd3_s, bd4_s, Int.toNat_natCast, aP0, Nat.reduceAdd, Nat.zero_add, nc0]
    rw [if_pos (Int.le_refl _)]
    rfl
  | succ m ih =>
    intro n V hn hm h1 h2 hV
    obtain ⟨n, rfl⟩ : ∃ m, n = m + 1 := ⟨n - 1, by omega⟩
    obtain ⟨v1, v2, v3⟩ := hV m (by omega)
    rw [f1_insertBooking_L16, posF]
    have e1 : ((m + 1 : Nat) : Int) - 1 = (m : Int) := by omega
    rw [e1]
    simp (disch := omega) only [ck_t, nrm_of, bd_s, bd2_s, bd3_s, bd4_s, Int.toNat_natCast, aP0, Nat.reduceAdd, Nat.zero_add]
    rw [if_neg (by omega)]
    by_cases c : V 56 m ≤ s
    · rw [if_pos c, if_pos c]
      exact ⟨V, rfl, fun _ _ => rfl, fun k _ _ => ⟨fun i hi => rfl, fun i hi hi2 => by omega, fun i _ => rfl⟩⟩
    · rw [if_neg c, if_neg c, X_putBooking p0 (i := m + 1) rfl (by omega) v1]
      simp only [bd_s]
      have e2 : ((m + 1 : Nat) : Int) + -1 = (m : Int) := by omega
      rw [e2]
      obtain ⟨V', g1, g2, g3⟩ := ih n (pB V 54 (m + 1) (V 54 m) (V 55 m) (V 56 m) (V 57 m)) (by omega) (by omega) h1 h2 (fun i hi => by
        rw [pB_n (by omega), pB_n (by omega)]
        exact hV i (by omega))
      have hpos : posF (pB V 54 (m + 1) (V 54 m) (V 55 m) (V 56 m) (V 57 m) 56) s m = posF (V 56) s m := posF_congr (fun i hi => pB_n (by omega))
      rw [hpos] at g1 g3
      have hle : posF (V 56) s m ≤ m := posF_le
      refine ⟨V', g1, fun k hk => ?_, fun k hk1 hk2 => ⟨fun i hi => ?_, fun i hi1 hi2 => ?_, fun i hi => ?_⟩⟩
      · rw [g2 k hk, pB_k (by omega)]
      · rw [(g3 k hk1 hk2).1 i hi, pB_n (by omega)]
      · by_cases q : i < m
        · rw [(g3 k hk1 hk2).2.1 i hi1 q, pB_n (by omega)]
        · have : i = m := by omega
          subst this
          rw [(g3 k hk1 hk2).2.2 (i + 1) (by omega)]
          exact pB_c (k0 := 54) (W := V) ⟨hk1, by omega⟩
      · rw [(g3 k hk1 hk2).2.2 i (by omega), pB_n (by omega)]
/-- the parts of a plan -/
theorem rpC_b {V : VV} {c : Nat} {P : Pl} (h : rpC V c P) : P.2.2.2.2.2.1 = vw (fun j i => V (c + 1 + j) i) P.2.2.2.2.2.1.length := by
  have h2 := h.2.1
  have e : P.2.2.2.2.2.1 = vw (fun j i => V (c + 1 + j) i) (V c 5).toNat := by rw [← h.1]; rfl
  rw [h2, Int.toNat_natCast] at e
  exact e
theorem rpC_r {V : VV} {c : Nat} {P : Pl} (h : rpC V c P) : P.2.2.2.2.2.2 = vw (fun j i => V (c + 5 + j) i) P.2.2.2.2.2.2.length := by
  have h2 := h.2.2
  have e : P.2.2.2.2.2.2 = vw (fun j i => V (c + 5 + j) i) (V c 10).toNat := by rw [← h.1]; rfl
  rw [h2, Int.toNat_natCast] at e
  exact e
theorem rpC_s {V : VV} {c : Nat} {P : Pl} (h : rpC V c P) : V c 0 = P.1 ∧ V c 1 = P.2.1 ∧ V c 2 = P.2.2.1 ∧ V c 3 = P.2.2.2.1 ∧ V c 4 = P.2.2.2.2.1 ∧ V c 5 = (P.2.2.2.2.2.1.length : Int) ∧ V c 10 = (P.2.2.2.2.2.2.length : Int) := by
  obtain ⟨h1, h2, h3⟩ := h
  refine ⟨?_, ?_, ?_, ?_, ?_, h2, h3⟩ <;> rw [← h1] <;> rfl
theorem rpC_mk {V : VV} {c : Nat} {th mi ma ca se : Int} {bs rs : List Bk} (h0 : V c 0 = th) (h1 : V c 1 = mi) (h2 : V c 2 = ma) (h3 : V c 3 = ca) (h4 : V c 4 = se) (h5 : V c 5 = (bs.length : Int)) (h6 : V c 10 = (rs.length : Int)) (hb : vw (fun j i => V (c + 1 + j) i) bs.length = bs) (hr : vw (fun j i => V (c + 5 + j) i) rs.length = rs) : rpC V c (th, mi, ma, ca, se, bs, rs) := by
  refine ⟨?_, h5, h6⟩
  unfold cP
  rw [h0, h1, h2, h3, h4, h5, h6, Int.toNat_natCast, Int.toNat_natCast, hb, hr]
/-- another world with the same cells -/
theorem rpC_of {V V' : VV} {c : Nat} {P : Pl} (h : rpC V c P) (he : ∀ k, c ≤ k → k < c + 9 → V' k = V k) : rpC V' c P := by
  have e0 := he c (by omega) (by omega)
  obtain ⟨h1, h2, h3⟩ := h
  refine ⟨?_, by rw [e0]; exact h2, by rw [e0]; exact h3⟩
  rw [← h1]
  unfold cP
  rw [e0, vw_congr (F := fun j i => V' (c + 1 + j) i) (F' := fun j i => V (c + 1 + j) i) (fun i _ => ?_), vw_congr (F := fun j i => V' (c + 5 + j) i) (F' := fun j i => V (c + 5 + j) i) (fun i _ => ?_)]
  · simp only [he (c + 5 + 0) (by omega) (by omega), he (c + 5 + 1) (by omega) (by omega), he (c + 5 + 2) (by omega) (by omega), he (c + 5 + 3) (by omega) (by omega), and_self]
  · simp only [he (c + 1 + 0) (by omega) (by omega), he (c + 1 + 1) (by omega) (by omega), he (c + 1 + 2) (by omega) (by omega), he (c + 1 + 3) (by omega) (by omega), and_self]
/-- the cells of the present plan alone have changed -/
def fr0 (V V' : VV) : Prop := ∀ k, ¬ (53 ≤ k ∧ k < 62) → V' k = V k
theorem fr0.tr {V V' V'' : VV} (h : fr0 V V') (h2 : fr0 V' V'') : fr0 V V'' := fun k hk => (h2 k hk).trans (h k hk)
theorem fr0.rf {V : VV} : fr0 V V := fun _ _ => rfl
theorem X_insertBooking {V : VV} {P : Pl} (h : rpC V 53 P) {sh y s e : Int} (hn : P.2.2.2.2.2.1.length < 20) (hy : y = 0 ∨ y = 1) (hs : -5000 ≤ s ∧ s ≤ 5000) (hb : ∀ b ∈ P.2.2.2.2.2.1, (b.2.1 = 0 ∨ b.2.1 = 1) ∧ -5000 ≤ b.2.2.1 ∧ b.2.2.1 ≤ 5000) :
    ∃ V' : VV, f1_insertBooking V 0 sh y s e = some V' ∧ fr0 V V' ∧ rpC V' 53 (P.1, P.2.1, P.2.2.1, P.2.2.2.1, P.2.2.2.2.1, insB (sh, y, s, e) P.2.2.2.2.2.1, P.2.2.2.2.2.2) := by
  obtain ⟨s0, s1, s2, s3, s4, s5, s6⟩ := rpC_s h
  have hvb := rpC_b h
  have hvr := rpC_r h
  obtain ⟨V1, g1, g2, g3⟩ := X_insL (sh := sh) (y := y) (s := s) (e := e) P.2.2.2.2.2.1.length FU V (by have := FU_ge; omega) (by omega) hs.1 hs.2 (fun i hi => by
    have := vw_mem (F := fun j i => V (53 + 1 + j) i) hi
    rw [← hvb] at this
    exact hb _ this)
  have hle : posF (V 56) s P.2.2.2.2.2.1.length ≤ P.2.2.2.2.2.1.length := posF_le
  generalize hp : posF (V 56) s P.2.2.2.2.2.1.length = p at *
  have e53 : ∀ j, V1 53 j = V 53 j := fun j => by rw [g2 53 (by omega)]
  refine ⟨up2 (pB V1 54 p sh y s e) 53 5 (V 53 5 + 1), ?_, fun k hk => ?_, ?_⟩
  · unfold f1_insertBooking
    rw [aP0, s5, g1]
    simp (disch := omega) only [ck_t, nrm_of, bd_s, bd2_s, bd3_s, bd4_s, Int.toNat_natCast, aP0, Nat.reduceAdd, Nat.zero_add]
    rw [if_pos (by omega), X_putBooking p0 (i := p) rfl (by omega) hy]
    simp only [bd_s, aP0]
    rw [pB_k (by omega), e53, s5]
  · rw [up2_r (by omega), pB_k (by omega), g2 k (by omega)]
  · have hl : (insB (sh, y, s, e) P.2.2.2.2.2.1).length = P.2.2.2.2.2.1.length + 1 := insAt_len posF_le
    refine rpC_mk ?_ ?_ ?_ ?_ ?_ ?_ ?_ ?_ ?_
    · rw [up2_n (by omega), pB_k (by omega), e53, s0]
    · rw [up2_n (by omega), pB_k (by omega), e53, s1]
    · rw [up2_n (by omega), pB_k (by omega), e53, s2]
    · rw [up2_n (by omega), pB_k (by omega), e53, s3]
    · rw [up2_n (by omega), pB_k (by omega), e53, s4]
    · rw [up2_s, s5, hl]; omega
    · rw [up2_n (by omega), pB_k (by omega), e53, s6]
    · rw [hl]
      have hpos : posF (stL P.2.2.2.2.2.1) s P.2.2.2.2.2.1.length = p := by
        have := posF_vw (F := fun j i => V (53 + 1 + j) i) (n := P.2.2.2.2.2.1.length) (s := s)
        rw [← hvb] at this
        rw [this]
        exact hp
      unfold insB
      simp only
      rw [hpos]
      have hi := vw_ins (F := fun j i => V (53 + 1 + j) i) (F' := fun j i => up2 (pB V1 54 p sh y s e) 53 5 (V 53 5 + 1) (53 + 1 + j) i) (n := P.2.2.2.2.2.1.length) (p := p) (b := (sh, y, s, e)) hle (fun i hi => ?_) ?_ (fun i hi1 hi2 => ?_)
      · rw [← hvb] at hi
        exact hi
      · simp only [Nat.reduceAdd, Nat.add_zero]
        rw [up2_n (by omega), up2_n (by omega), up2_n (by omega), up2_n (by omega), pB_n (by omega), pB_n (by omega), pB_n (by omega), pB_n (by omega)]
        exact ⟨(g3 54 (by omega) (by omega)).1 i hi, (g3 55 (by omega) (by omega)).1 i hi, (g3 56 (by omega) (by omega)).1 i hi, (g3 57 (by omega) (by omega)).1 i hi⟩
      · simp only [Nat.reduceAdd, Nat.add_zero]
        rw [up2_n (by omega), up2_n (by omega), up2_n (by omega), up2_n (by omega)]
        exact ⟨pB_0, pB_1, pB_2, pB_3⟩
      · simp only [Nat.reduceAdd, Nat.add_zero]
        rw [up2_n (by omega), up2_n (by omega), up2_n (by omega), up2_n (by omega), pB_n (by omega), pB_n (by omega), pB_n (by omega), pB_n (by omega)]
        exact ⟨(g3 54 (by omega) (by omega)).2.1 i hi1 hi2, (g3 55 (by omega) (by omega)).2.1 i hi1 hi2, (g3 56 (by omega) (by omega)).2.1 i hi1 hi2, (g3 57 (by omega) (by omega)).2.1 i hi1 hi2⟩
    · refine (vw_congr (fun i _ => ?_)).trans hvr.symm
      simp only [Nat.reduceAdd, Nat.add_zero]
      rw [up2_r (by omega), up2_r (by omega), up2_r (by omega), up2_r (by omega), pB_k (by omega), pB_k (by omega), pB_k (by omega), pB_k (by omega), g2 58 (by omega), g2 59 (by omega), g2 60 (by omega), g2 61 (by omega)]
      exact ⟨rfl, rfl, rfl, rfl⟩
theorem X_removeBookingL : ∀ (k n i : Nat) (V : VV), k + 1 ≤ n → 1 ≤ i → V 53 5 = ((i + k : Nat) : Int) → i + k ≤ 20 → (∀ t, t < i + k → (V 55 t = 0 ∨ V 55 t = 1)) →
    ∃ V' : VV, f1_removeBooking_L4 0 n (i : Int) V = some V' ∧ (∀ k, ¬ (54 ≤ k ∧ k < 58) → V' k = V k) ∧ ∀ c, 54 ≤ c → c < 58 → (∀ t, t < i - 1 → V' c t = V c t) ∧ ∀ t, i - 1 ≤ t → t + 1 < i + k → V' c t = V c (t + 1) := by
  intro k
  induction k with
  | zero =>
    intro n i V hn hi hc hl hz
    obtain ⟨n, rfl⟩ : ∃ m, n = m + 1 := ⟨n - 1, by omega⟩
    refine ⟨V, ?_, fun _ _ => rfl, fun c _ _ => ⟨fun _ _ => rfl, fun t h1 h2 => by omega⟩⟩
    rw [f1_removeBooking_L4]
    simp (disch := omega) only [ck_t, nrm_of, bd_s, bd2_s, bd3_s, bd4_s, Int.toNat_natCast, aP0, Nat.reduceAdd, Nat.zero_add, hc]
    rw [if_pos (by omega)]
  | succ k ih =>
    intro n i V hn hi hc hl hz
    obtain ⟨n, rfl⟩ : ∃ m, n = m + 1 := ⟨n - 1, by omega⟩
    rw [f1_removeBooking_L4]
    simp (disch := omega) only [ck_t, nrm_of, bd_s, bd2_s, bd3_s, bd4_s, Int.toNat_natCast, aP0, Nat.reduceAdd, Nat.zero_add, hc]
    rw [if_neg (by omega), X_putBooking p0 (i := i - 1) (by omega) (by omega) (hz i (by omega))]
    simp only [bd_s, aP0, Nat.reduceAdd]
    obtain ⟨V', g1, g2, g3⟩ := ih n (i + 1) (pB V 54 (i - 1) (V 54 i) (V 55 i) (V 56 i) (V 57 i)) (by omega) (by omega) (by rw [pB_k (by omega), hc]; omega) (by omega) (fun t ht => by
      by_cases q : t = i - 1
      · rw [q, pB_1]
        exact hz i (by omega)
      · rw [pB_n q]
        exact hz t (by omega))
    rw [Int.natCast_add, Int.natCast_one] at g1
    refine ⟨V', g1, fun c hc => by rw [g2 c hc, pB_k (by omega)], fun c c1 c2 => ⟨fun t ht => ?_, fun t h1 h2 => ?_⟩⟩
    · rw [(g3 c c1 c2).1 t (by omega), pB_n (by omega)]
    · by_cases q : t = i - 1
      · rw [(g3 c c1 c2).1 t (by omega), q, pB_c (k0 := 54) (W := V) ⟨c1, by omega⟩]
        congr 1
        omega
      · rw [(g3 c c1 c2).2 t (by omega) (by omega), pB_n (by omega)]
theorem X_removeRequestL : ∀ (k n i : Nat) (V : VV), k + 1 ≤ n → 1 ≤ i → V 53 10 = ((i + k : Nat) : Int) → i + k ≤ 8 → (∀ t, t < i + k → (V 59 t = 0 ∨ V 59 t = 1)) →
    ∃ V' : VV, f1_removeRequest_L4 0 n (i : Int) V = some V' ∧ (∀ k, ¬ (58 ≤ k ∧ k < 62) → V' k = V k) ∧ ∀ c, 58 ≤ c → c < 62 → (∀ t, t < i - 1 → V' c t = V c t) ∧ ∀ t, i - 1 ≤ t → t + 1 < i + k → V' c t = V c (t + 1) := by
  intro k
  induction k with
  | zero =>
    intro n i V hn hi hc hl hz
    obtain ⟨n, rfl⟩ : ∃ m, n = m + 1 := ⟨n - 1, by omega⟩
    refine ⟨V, ?_, fun _ _ => rfl, fun c _ _ => ⟨fun _ _ => rfl, fun t h1 h2 => by omega⟩⟩
    rw [f1_removeRequest_L4]
    simp (disch := omega) only [ck_t, nrm_of, bd_s, bd2_s, bd3_s, bd4_s, Int.toNat_natCast, aP0, Nat.reduceAdd, Nat.zero_add, hc]
    rw [if_pos (by omega)]
  | succ k ih =>
    intro n i V hn hi hc hl hz
    obtain ⟨n, rfl⟩ : ∃ m, n = m + 1 := ⟨n - 1, by omega⟩
    rw [f1_removeRequest_L4]
    simp (disch := omega) only [ck_t, nrm_of, bd_s, bd2_s, bd3_s, bd4_s, Int.toNat_natCast, aP0, Nat.reduceAdd, Nat.zero_add, hc]
    rw [if_neg (by omega), X_putRequest p0 (i := i - 1) (by omega) (by omega) (hz i (by omega))]
    simp only [bd_s, aP0, Nat.reduceAdd]
    obtain ⟨V', g1, g2, g3⟩ := ih n (i + 1) (pB V 58 (i - 1) (V 58 i) (V 59 i) (V 60 i) (V 61 i)) (by omega) (by omega) (by rw [pB_k (by omega), hc]; omega) (by omega) (fun t ht => by
      by_cases q : t = i - 1
      · rw [q, pB_1]
        exact hz i (by omega)
      · rw [pB_n q]
        exact hz t (by omega))
    rw [Int.natCast_add, Int.natCast_one] at g1
    refine ⟨V', g1, fun c hc => by rw [g2 c hc, pB_k (by omega)], fun c c1 c2 => ⟨fun t ht => ?_, fun t h1 h2 => ?_⟩⟩
    · rw [(g3 c c1 c2).1 t (by omega), pB_n (by omega)]
    · by_cases q : t = i - 1
      · rw [(g3 c c1 c2).1 t (by omega), q, pB_c (k0 := 58) (W := V) ⟨c1, by omega⟩]
        congr 1
        omega
      · rw [(g3 c c1 c2).2 t (by omega) (by omega), pB_n (by omega)]
theorem X_removeBooking {V : VV} {P : Pl} (h : rpC V 53 P) {i : Nat} (hi : i < P.2.2.2.2.2.1.length) (hn : P.2.2.2.2.2.1.length ≤ 20) (hb : ∀ b ∈ P.2.2.2.2.2.1, (b.2.1 = 0 ∨ b.2.1 = 1)) :
    ∃ V' : VV, f1_removeBooking V 0 (i : Int) = some V' ∧ fr0 V V' ∧ rpC V' 53 (P.1, P.2.1, P.2.2.1, P.2.2.2.1, P.2.2.2.2.1, P.2.2.2.2.2.1.eraseIdx i, P.2.2.2.2.2.2) := by
  obtain ⟨s0, s1, s2, s3, s4, s5, s6⟩ := rpC_s h
  have hvb := rpC_b h
  have hvr := rpC_r h
  obtain ⟨m, hm⟩ : ∃ m, P.2.2.2.2.2.1.length = m + 1 := ⟨P.2.2.2.2.2.1.length - 1, by omega⟩
  obtain ⟨V1, g1, g2, g3⟩ := X_removeBookingL (m - i) FU (i + 1) V (by have := FU_ge; omega) (by omega) (by rw [s5]; omega) (by omega) (fun t ht => by
    have := vw_mem (F := fun j i => V (53 + 1 + j) i) (n := P.2.2.2.2.2.1.length) (i := t) (by omega)
    rw [← hvb] at this
    exact hb _ this)
  rw [Int.natCast_add, Int.natCast_one] at g1
  have e53 : ∀ j, V1 53 j = V 53 j := fun j => by rw [g2 53 (by omega)]
  refine ⟨up2 V1 53 5 (V 53 5 - 1), ?_, fun k hk => ?_, ?_⟩
  · unfold f1_removeBooking
    rw [ck_t p0, g1]
    simp only [bd_s, aP0]
    rw [e53]
  · rw [up2_r (by omega), g2 k (by omega)]
  · have hl : (P.2.2.2.2.2.1.eraseIdx i).length = m := by rw [List.length_eraseIdx_of_lt hi]; omega
    refine rpC_mk ?_ ?_ ?_ ?_ ?_ ?_ ?_ ?_ ?_
    · rw [up2_n (by omega), e53, s0]
    · rw [up2_n (by omega), e53, s1]
    · rw [up2_n (by omega), e53, s2]
    · rw [up2_n (by omega), e53, s3]
    · rw [up2_n (by omega), e53, s4]
    · rw [up2_s, s5, hl]; omega
    · rw [up2_n (by omega), e53, s6]
    · rw [hl]
      rw [hm] at hvb
      have hr := vw_rem (F := fun j i => V (53 + 1 + j) i) (F' := fun j i => up2 V1 53 5 (V 53 5 - 1) (53 + 1 + j) i) (n := m) (p := i) (by omega) (fun t ht => ?_) (fun t h1 h2 => ?_)
      · rw [← hvb] at hr
        exact hr
      · simp only [Nat.reduceAdd, Nat.add_zero]
        rw [up2_r (by omega), up2_r (by omega), up2_r (by omega), up2_r (by omega)]
        exact ⟨(g3 54 (by omega) (by omega)).1 t (by omega), (g3 55 (by omega) (by omega)).1 t (by omega), (g3 56 (by omega) (by omega)).1 t (by omega), (g3 57 (by omega) (by omega)).1 t (by omega)⟩
      · simp only [Nat.reduceAdd, Nat.add_zero]
        rw [up2_r (by omega), up2_r (by omega), up2_r (by omega), up2_r (by omega)]
        exact ⟨(g3 54 (by omega) (by omega)).2 t (by omega) (by omega), (g3 55 (by omega) (by omega)).2 t (by omega) (by omega), (g3 56 (by omega) (by omega)).2 t (by omega) (by omega), (g3 57 (by omega) (by omega)).2 t (by omega) (by omega)⟩
    · refine (vw_congr (fun i _ => ?_)).trans hvr.symm
      simp only [Nat.reduceAdd, Nat.add_zero]
      rw [up2_r (by omega), up2_r (by omega), up2_r (by omega), up2_r (by omega), g2 58 (by omega), g2 59 (by omega), g2 60 (by omega), g2 61 (by omega)]
      exact ⟨rfl, rfl, rfl, rfl⟩
theorem X_removeRequest {V : VV} {P : Pl} (h : rpC V 53 P) {i : Nat} (hi : i < P.2.2.2.2.2.2.length) (hn : P.2.2.2.2.2.2.length ≤ 8) (hb : ∀ b ∈ P.2.2.2.2.2.2, (b.2.1 = 0 ∨ b.2.1 = 1)) :
    ∃ V' : VV, f1_removeRequest V 0 (i : Int) = some V' ∧ fr0 V V' ∧ rpC V' 53 (P.1, P.2.1, P.2.2.1, P.2.2.2.1, P.2.2.2.2.1, P.2.2.2.2.2.1, P.2.2.2.2.2.2.eraseIdx i) := by
  obtain ⟨s0, s1, s2, s3, s4, s5, s6⟩ := rpC_s h
  have hvb := rpC_b h
  have hvr := rpC_r h
  obtain ⟨m, hm⟩ : ∃ m, P.2.2.2.2.2.2.length = m + 1 := ⟨P.2.2.2.2.2.2.length - 1, by omega⟩
  obtain ⟨V1, g1, g2, g3⟩ := X_removeRequestL (m - i) FU (i + 1) V (by have := FU_ge; omega) (by omega) (by rw [s6]; omega) (by omega) (fun t ht => by
    have := vw_mem (F := fun j i => V (53 + 5 + j) i) (n := P.2.2.2.2.2.2.length) (i := t) (by omega)
    rw [← hvr] at this
    exact hb _ this)
  rw [Int.natCast_add, Int.natCast_one] at g1
  have e53 : ∀ j, V1 53 j = V 53 j := fun j => by rw [g2 53 (by omega)]
  refine ⟨up2 V1 53 10 (V 53 10 - 1), ?_, fun k hk => ?_, ?_⟩
  · unfold f1_removeRequest
    rw [ck_t p0, g1]
    simp only [bd_s, aP0]
    rw [e53]
  · rw [up2_r (by omega), g2 k (by omega)]
  · have hl : (P.2.2.2.2.2.2.eraseIdx i).length = m := by rw [List.length_eraseIdx_of_lt hi]; omega
    refine rpC_mk ?_ ?_ ?_ ?_ ?_ ?_ ?_ ?_ ?_
    · rw [up2_n (by omega), e53, s0]
    · rw [up2_n (by omega), e53, s1]
    · rw [up2_n (by omega), e53, s2]
    · rw [up2_n (by omega), e53, s3]
    · rw [up2_n (by omega), e53, s4]
    · rw [up2_n (by omega), e53, s5]
    · rw [up2_s, s6, hl]; omega
    · refine (vw_congr (fun i _ => ?_)).trans hvb.symm
      simp only [Nat.reduceAdd, Nat.add_zero]
      rw [up2_r (by omega), up2_r (by omega), up2_r (by omega), up2_r (by omega), g2 54 (by omega), g2 55 (by omega), g2 56 (by omega), g2 57 (by omega)]
      exact ⟨rfl, rfl, rfl, rfl⟩
    · rw [hl]
      rw [hm] at hvr
      have hr := vw_rem (F := fun j i => V (53 + 5 + j) i) (F' := fun j i => up2 V1 53 10 (V 53 10 - 1) (53 + 5 + j) i) (n := m) (p := i) (by omega) (fun t ht => ?_) (fun t h1 h2 => ?_)
      · rw [← hvr] at hr
        exact hr
      · simp only [Nat.reduceAdd, Nat.add_zero]
        rw [up2_r (by omega), up2_r (by omega), up2_r (by omega), up2_r (by omega)]
        exact ⟨(g3 58 (by omega) (by omega)).1 t (by omega), (g3 59 (by omega) (by omega)).1 t (by omega), (g3 60 (by omega) (by omega)).1 t (by omega), (g3 61 (by omega) (by omega)).1 t (by omega)⟩
      · simp only [Nat.reduceAdd, Nat.add_zero]
        rw [up2_r (by omega), up2_r (by omega), up2_r (by omega), up2_r (by omega)]
        exact ⟨(g3 58 (by omega) (by omega)).2 t (by omega) (by omega), (g3 59 (by omega) (by omega)).2 t (by omega) (by omega), (g3 60 (by omega) (by omega)).2 t (by omega) (by omega), (g3 61 (by omega) (by omega)).2 t (by omega) (by omega)⟩
theorem X_addRequest {V : VV} {P : Pl} (h : rpC V 53 P) {sh y e la : Int} (hn : P.2.2.2.2.2.2.length < 8) (hy : y = 0 ∨ y = 1) :
    ∃ V' : VV, f1_addRequest V 0 sh y e la = some V' ∧ fr0 V V' ∧ rpC V' 53 (P.1, P.2.1, P.2.2.1, P.2.2.2.1, P.2.2.2.2.1, P.2.2.2.2.2.1, P.2.2.2.2.2.2 ++ [(sh, y, e, la)]) := by
  obtain ⟨s0, s1, s2, s3, s4, s5, s6⟩ := rpC_s h
  have hvb := rpC_b h
  have hvr := rpC_r h
  refine ⟨up2 (pB V 58 P.2.2.2.2.2.2.length sh y e la) 53 10 (V 53 10 + 1), ?_, fun k hk => ?_, ?_⟩
  · unfold f1_addRequest
    rw [aP0, s6]
    simp (disch := omega) only [ck_t, nrm_of, bd_s, bd2_s, bd3_s, bd4_s, Int.toNat_natCast, aP0, Nat.reduceAdd, Nat.zero_add]
    rw [if_neg (by omega), X_putRequest p0 (i := P.2.2.2.2.2.2.length) rfl (by omega) hy]
    simp only [bd_s, aP0]
    rw [pB_k (by omega), s6]
  · rw [up2_r (by omega), pB_k (by omega)]
  · have hl : (P.2.2.2.2.2.2 ++ [(sh, y, e, la)]).length = P.2.2.2.2.2.2.length + 1 := by simp
    refine rpC_mk ?_ ?_ ?_ ?_ ?_ ?_ ?_ ?_ ?_
    · rw [up2_n (by omega), pB_k (by omega), s0]
    · rw [up2_n (by omega), pB_k (by omega), s1]
    · rw [up2_n (by omega), pB_k (by omega), s2]
    · rw [up2_n (by omega), pB_k (by omega), s3]
    · rw [up2_n (by omega), pB_k (by omega), s4]
    · rw [up2_n (by omega), pB_k (by omega), s5]
    · rw [up2_s, s6, hl]; omega
    · refine (vw_congr (fun i _ => ?_)).trans hvb.symm
      simp only [Nat.reduceAdd, Nat.add_zero]
      rw [up2_r (by omega), up2_r (by omega), up2_r (by omega), up2_r (by omega), pB_k (by omega), pB_k (by omega), pB_k (by omega), pB_k (by omega)]
      exact ⟨rfl, rfl, rfl, rfl⟩
    · rw [hl]
      have ha := vw_add (F := fun j i => V (53 + 5 + j) i) (F' := fun j i => up2 (pB V 58 P.2.2.2.2.2.2.length sh y e la) 53 10 (V 53 10 + 1) (53 + 5 + j) i) (n := P.2.2.2.2.2.2.length) (b := (sh, y, e, la)) (fun i hi => ?_) ?_
      · rw [← hvr] at ha
        exact ha
      · simp only [Nat.reduceAdd, Nat.add_zero]
        rw [up2_r (by omega), up2_r (by omega), up2_r (by omega), up2_r (by omega), pB_n (by omega), pB_n (by omega), pB_n (by omega), pB_n (by omega)]
        exact ⟨rfl, rfl, rfl, rfl⟩
      · simp only [Nat.reduceAdd, Nat.add_zero]
        rw [up2_r (by omega), up2_r (by omega), up2_r (by omega), up2_r (by omega)]
        exact ⟨pB_0, pB_1, pB_2, pB_3⟩
