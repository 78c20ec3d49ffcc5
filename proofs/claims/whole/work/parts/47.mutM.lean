/-! changes of the reference's present block -/
theorem rpM_s {V : VV} {P : Pl} (h : rpM V 0 P) : V 149 2 = P.1 ∧ V 149 3 = P.2.1 ∧ V 149 7 = P.2.2.1 ∧ V 149 8 = P.2.2.2.1 ∧ V 149 9 = P.2.2.2.2.1 ∧ V 149 5 = (P.2.2.2.2.2.1.length : Int) ∧ V 149 6 = (P.2.2.2.2.2.2.length : Int) := by
  obtain ⟨h1, h2, h3⟩ := h
  refine ⟨?_, ?_, ?_, ?_, ?_, by simpa using h2, by simpa using h3⟩ <;> rw [← h1] <;> rfl
theorem rpM_b {V : VV} {P : Pl} (h : rpM V 0 P) : P.2.2.2.2.2.1 = vw (fun j i => V 149 (110 + 4 * i + j)) P.2.2.2.2.2.1.length := by
  have h2 := h.2.1
  have e : P.2.2.2.2.2.1 = vw (fun j i => V 149 (0 + 110 + 4 * i + j)) (V 149 (0 + 5)).toNat := by rw [← h.1]; rfl
  rw [h2, Int.toNat_natCast] at e
  simpa only [Nat.zero_add] using e
theorem rpM_r {V : VV} {P : Pl} (h : rpM V 0 P) : P.2.2.2.2.2.2 = vw (fun j i => V 149 (194 + 4 * i + j)) P.2.2.2.2.2.2.length := by
  have h2 := h.2.2
  have e : P.2.2.2.2.2.2 = vw (fun j i => V 149 (0 + 194 + 4 * i + j)) (V 149 (0 + 6)).toNat := by rw [← h.1]; rfl
  rw [h2, Int.toNat_natCast] at e
  simpa only [Nat.zero_add] using e
theorem rpM_mk {V : VV} {th mi ma ca se : Int} {bs rs : List Bk} (h0 : V 149 2 = th) (h1 : V 149 3 = mi) (h2 : V 149 7 = ma) (h3 : V 149 8 = ca) (h4 : V 149 9 = se) (h5 : V 149 5 = (bs.length : Int)) (h6 : V 149 6 = (rs.length : Int)) (hb : vw (fun j i => V 149 (110 + 4 * i + j)) bs.length = bs) (hr : vw (fun j i => V 149 (194 + 4 * i + j)) rs.length = rs) : rpM V 0 (th, mi, ma, ca, se, bs, rs) := by
  refine ⟨?_, by simpa using h5, by simpa using h6⟩
  unfold mP
  simp only [Nat.zero_add]
  rw [h0, h1, h2, h3, h4, h5, h6, Int.toNat_natCast, Int.toNat_natCast, hb, hr]
/-- what changes of the plan may change -/
def frM (V V' : VV) : Prop := (∀ k, k ≠ 149 → V' k = V k) ∧ ∀ t, ¬ (t = 2 ∨ t = 3 ∨ (5 ≤ t ∧ t < 10) ∨ (110 ≤ t ∧ t < 230)) → V' 149 t = V 149 t
theorem frM.tr {V V' V'' : VV} (h : frM V V') (h2 : frM V' V'') : frM V V'' := ⟨fun k hk => (h2.1 k hk).trans (h.1 k hk), fun t ht => (h2.2 t ht).trans (h.2 t ht)⟩
theorem frM.rf {V : VV} : frM V V := ⟨fun _ _ => rfl, fun _ _ => rfl⟩
theorem MK.mut {V V' : VV} {S : Su} {P P' : Pl} (h : MK V S P) (hf : frM V V') (hr : rpM V' 0 P') (ho : okP S P') : MK V' S P' := by
  refine ⟨hr, ?_, h.2.2.1, ho⟩
  obtain ⟨h1, h2, h3, h4⟩ := h.2.1
  refine ⟨by rw [hf.2 0 (by omega)]; exact h1, by rw [hf.2 (0 + 1) (by omega)]; exact h2, by rw [hf.2 (0 + 4) (by omega)]; exact h3, fun i s hs => ?_⟩
  have hi : i < 10 := by
    have := (List.getElem?_eq_some_iff.mp hs).1
    have := h.su.2.2.2.2.2
    omega
  obtain ⟨k1, k2, k3, k4, k5⟩ := h4 i s hs
  have hsl : s.1.length ≤ 6 := (h.2.2.1.2.2.2 s (List.mem_of_getElem? hs)).1.2
  refine ⟨by rw [hf.2 _ (by omega)]; exact k1, by rw [hf.2 _ (by omega)]; exact k2, by rw [hf.2 _ (by omega)]; exact k3, by rw [hf.2 _ (by omega)]; exact k4, fun j c hj => ?_⟩
  have := (List.getElem?_eq_some_iff.mp hj).1
  rw [hf.2 _ (by omega)]
  exact k5 j c hj
def qB (V : VV) (o i : Nat) (a b c d : Int) : VV := up2 (up2 (up2 (up2 V 149 (o + 4 * i) a) 149 (o + 4 * i + 1) b) 149 (o + 4 * i + 2) c) 149 (o + 4 * i + 3) d
theorem qB_0 {V : VV} {o i : Nat} {a b c d : Int} : qB V o i a b c d 149 (o + 4 * i) = a := by
  unfold qB
  rw [up2_n (by omega), up2_n (by omega), up2_n (by omega), up2_s]
theorem qB_1 {V : VV} {o i : Nat} {a b c d : Int} : qB V o i a b c d 149 (o + 4 * i + 1) = b := by
  unfold qB
  rw [up2_n (by omega), up2_n (by omega), up2_s]
theorem qB_2 {V : VV} {o i : Nat} {a b c d : Int} : qB V o i a b c d 149 (o + 4 * i + 2) = c := by
  unfold qB
  rw [up2_n (by omega), up2_s]
theorem qB_3 {V : VV} {o i : Nat} {a b c d : Int} : qB V o i a b c d 149 (o + 4 * i + 3) = d := by
  unfold qB
  rw [up2_s]
theorem qB_n {V : VV} {o i t : Nat} {a b c d : Int} (h : t < o + 4 * i ∨ o + 4 * i + 4 ≤ t) : qB V o i a b c d 149 t = V 149 t := by
  unfold qB
  rw [up2_n (by omega), up2_n (by omega), up2_n (by omega), up2_n (by omega)]
theorem qB_k {V : VV} {o i k : Nat} {a b c d : Int} (h : k ≠ 149) : qB V o i a b c d k = V k := by
  unfold qB
  rw [up2_r h, up2_r h, up2_r h, up2_r h]
theorem qB_c {V : VV} {o i m j : Nat} (hj : j < 4) : qB V o i (V 149 (o + 4 * m)) (V 149 (o + 4 * m + 1)) (V 149 (o + 4 * m + 2)) (V 149 (o + 4 * m + 3)) 149 (o + 4 * i + j) = V 149 (o + 4 * m + j) := by
  have : j = 0 ∨ j = 1 ∨ j = 2 ∨ j = 3 := by omega
  rcases this with e | e | e | e <;> subst e
  · exact qB_0
  · exact qB_1
  · exact qB_2
  · exact qB_3
theorem M_ins4 {sh y s e : Int} {V : VV} {m : Nat} (hm : m ≤ 19) : f6_insert_L29 sh y s e ((m + 1 : Nat) : Int) FU 0 V = some (qB V 110 (m + 1) (V 149 (110 + 4 * m)) (V 149 (110 + 4 * m + 1)) (V 149 (110 + 4 * m + 2)) (V 149 (110 + 4 * m + 3))) := by
  have key : ∀ n : Nat, f6_insert_L29 sh y s e ((m + 1 : Nat) : Int) (n + 5) 0 V = some (qB V 110 (m + 1) (V 149 (110 + 4 * m)) (V 149 (110 + 4 * m + 1)) (V 149 (110 + 4 * m + 2)) (V 149 (110 + 4 * m + 3))) := by
    intro n
    have a0 : Int.toNat (110 + ((m + 1 : Nat) : Int) * 4 + 0) = 110 + 4 * (m + 1) := by omega
    have a1 : Int.toNat (110 + ((m + 1 : Nat) : Int) * 4 + 1) = 110 + 4 * (m + 1) + 1 := by omega
    have a2 : Int.toNat (110 + ((m + 1 : Nat) : Int) * 4 + 2) = 110 + 4 * (m + 1) + 2 := by omega
    have a3 : Int.toNat (110 + ((m + 1 : Nat) : Int) * 4 + 3) = 110 + 4 * (m + 1) + 3 := by omega
    have b0 : Int.toNat (110 + (((m + 1 : Nat) : Int) - 1) * 4 + 0) = 110 + 4 * m := by omega
    have b1 : Int.toNat (110 + (((m + 1 : Nat) : Int) - 1) * 4 + 1) = 110 + 4 * m + 1 := by omega
    have b2 : Int.toNat (110 + (((m + 1 : Nat) : Int) - 1) * 4 + 2) = 110 + 4 * m + 2 := by omega
    have b3 : Int.toNat (110 + (((m + 1 : Nat) : Int) - 1) * 4 + 3) = 110 + 4 * m + 3 := by omega
    rw [f6_insert_L29, if_neg (by decide +kernel), ck_t (by omega), ck_t (by omega), a0, b0, show (0 : Int) + 1 = 1 from rfl]
    rw [f6_insert_L29, if_neg (by decide +kernel), ck_t (by omega), ck_t (by omega), a1, b1, show (1 : Int) + 1 = 2 from rfl, up2_n (by omega)]
    rw [f6_insert_L29, if_neg (by decide +kernel), ck_t (by omega), ck_t (by omega), a2, b2, show (2 : Int) + 1 = 3 from rfl, up2_n (by omega), up2_n (by omega)]
    rw [f6_insert_L29, if_neg (by decide +kernel), ck_t (by omega), ck_t (by omega), a3, b3, show (3 : Int) + 1 = 4 from rfl, up2_n (by omega), up2_n (by omega), up2_n (by omega)]
    rw [f6_insert_L29, if_pos (by decide +kernel)]
    rfl
  have hF : FU = 4995 + 5 := rfl
  rw [hF]
  exact key 4995
theorem M_insL {sh y s e : Int} : ∀ (m n : Nat) (V : VV), m + 1 ≤ n → m ≤ 19 → -5000 ≤ s → s ≤ 5000 → (∀ i, i < m → -5000 ≤ V 149 (110 + 4 * i + 2) ∧ V 149 (110 + 4 * i + 2) ≤ 5000) →
    ∃ V' : VV, f6_insert_L8 sh y s e n (m : Int) V = some ((posF (fun i => V 149 (110 + 4 * i + 2)) s m : Int), V') ∧ (∀ k, k ≠ 149 → V' k = V k) ∧ (∀ t, ¬ (110 ≤ t ∧ t < 194) → V' 149 t = V 149 t) ∧ ∀ j, j < 4 → (∀ i, i < posF (fun i => V 149 (110 + 4 * i + 2)) s m → V' 149 (110 + 4 * i + j) = V 149 (110 + 4 * i + j)) ∧ (∀ i, posF (fun i => V 149 (110 + 4 * i + 2)) s m ≤ i → i < m → V' 149 (110 + 4 * (i + 1) + j) = V 149 (110 + 4 * i + j)) ∧ ∀ i, m < i → V' 149 (110 + 4 * i + j) = V 149 (110 + 4 * i + j) := by
  intro m
  induction m with
  | zero =>
    intro n V hn hm h1 h2 hV
    obtain ⟨n, rfl⟩ : ∃ m, n = m + 1 := ⟨n - 1, by omega⟩
    refine ⟨V, ?_, fun _ _ => rfl, fun _ _ => rfl, fun k _ => ⟨fun i hi => rfl, fun i _ hi => by omega, fun i _ => rfl⟩⟩
    rw [f6_insert_L8]
    simp (disch := omega) only [ck_t, nrm_of, bd_s, bd2_s, bd3_s, bd4_s, Int.toNat_natCast, aP0, Nat.reduceAdd, Nat.zero_add, nc0]
    rw [if_pos (Int.le_refl _)]
    rfl
  | succ m ih =>
    intro n V hn hm h1 h2 hV
    obtain ⟨n, rfl⟩ : ∃ m, n = m + 1 := ⟨n - 1, by omega⟩
    obtain ⟨v2, v3⟩ := hV m (by omega)
    rw [f6_insert_L8, posF]
    have e1 : ((m + 1 : Nat) : Int) - 1 = (m : Int) := by omega
    rw [e1, M_ofBooking (i := m) (y := 2) (j := 2) rfl rfl (by omega) (by omega)]
    simp (disch := omega) only [ck_t, nrm_of, bd_s, bd2_s, bd3_s, bd4_s, Int.toNat_natCast, aP0, Nat.reduceAdd, Nat.zero_add]
    rw [if_neg (by omega)]
    by_cases c : V 149 (110 + 4 * m + 2) ≤ s
    · rw [if_pos c, if_pos c]
      exact ⟨V, rfl, fun _ _ => rfl, fun _ _ => rfl, fun k _ => ⟨fun i hi => rfl, fun i hi hi2 => by omega, fun i _ => rfl⟩⟩
    · rw [if_neg c, if_neg c, M_ins4 (by omega)]
      simp only [bd_s]
      have e2 : ((m + 1 : Nat) : Int) + -1 = (m : Int) := by omega
      rw [e2]
      obtain ⟨V', g1, g2, g2b, g3⟩ := ih n (qB V 110 (m + 1) (V 149 (110 + 4 * m)) (V 149 (110 + 4 * m + 1)) (V 149 (110 + 4 * m + 2)) (V 149 (110 + 4 * m + 3))) (by omega) (by omega) h1 h2 (fun i hi => by
        rw [qB_n (by omega)]
        exact hV i (by omega))
      have hpos : posF (fun i => qB V 110 (m + 1) (V 149 (110 + 4 * m)) (V 149 (110 + 4 * m + 1)) (V 149 (110 + 4 * m + 2)) (V 149 (110 + 4 * m + 3)) 149 (110 + 4 * i + 2)) s m = posF (fun i => V 149 (110 + 4 * i + 2)) s m := posF_congr (fun i hi => qB_n (by omega))
      rw [hpos] at g1 g3
      have hle : posF (fun i => V 149 (110 + 4 * i + 2)) s m ≤ m := posF_le
      refine ⟨V', g1, fun k hk => ?_, fun t ht => ?_, fun j hj => ⟨fun i hi => ?_, fun i hi1 hi2 => ?_, fun i hi => ?_⟩⟩
      · rw [g2 k hk, qB_k hk]
      · rw [g2b t ht, qB_n (by omega)]
      · rw [(g3 j hj).1 i hi, qB_n (by omega)]
      · by_cases q : i < m
        · rw [(g3 j hj).2.1 i hi1 q, qB_n (by omega)]
        · have : i = m := by omega
          subst this
          rw [(g3 j hj).2.2 (i + 1) (by omega)]
          exact qB_c hj
      · rw [(g3 j hj).2.2 i (by omega), qB_n (by omega)]
theorem M_insert {V : VV} {P : Pl} (h : rpM V 0 P) {sh y s e : Int} (hn : P.2.2.2.2.2.1.length < 20) (hs : -5000 ≤ s ∧ s ≤ 5000) (hb : ∀ b ∈ P.2.2.2.2.2.1, (b.2.1 = 0 ∨ b.2.1 = 1) ∧ -5000 ≤ b.2.2.1 ∧ b.2.2.1 ≤ 5000) :
    ∃ V' : VV, f6_insert V sh y s e = some V' ∧ frM V V' ∧ rpM V' 0 (P.1, P.2.1, P.2.2.1, P.2.2.2.1, P.2.2.2.2.1, insB (sh, y, s, e) P.2.2.2.2.2.1, P.2.2.2.2.2.2) := by
  obtain ⟨s0, s1, s2, s3, s4, s5, s6⟩ := rpM_s h
  have hvb := rpM_b h
  have hvr := rpM_r h
  obtain ⟨V1, g1, g2, g2b, g3⟩ := M_insL (sh := sh) (y := y) (s := s) (e := e) P.2.2.2.2.2.1.length FU V (by have := FU_ge; omega) (by omega) hs.1 hs.2 (fun i hi => by
    have := vw_mem (F := fun j i => V 149 (110 + 4 * i + j)) hi
    rw [← hvb] at this
    exact (hb _ this).2)
  have hle : posF (fun i => V 149 (110 + 4 * i + 2)) s P.2.2.2.2.2.1.length ≤ P.2.2.2.2.2.1.length := posF_le
  generalize hp : posF (fun i => V 149 (110 + 4 * i + 2)) s P.2.2.2.2.2.1.length = p at *
  refine ⟨up2 (qB V1 110 p sh y s e) 149 5 (V 149 5 + 1), ?_, ⟨fun k hk => ?_, fun t ht => ?_⟩, ?_⟩
  · unfold f6_insert
    rw [s5, g1]
    have a0 : Int.toNat (110 + (p : Int) * 4 + 0) = 110 + 4 * p := by omega
    have a1 : Int.toNat (110 + (p : Int) * 4 + 1) = 110 + 4 * p + 1 := by omega
    have a2 : Int.toNat (110 + (p : Int) * 4 + 2) = 110 + 4 * p + 2 := by omega
    have a3 : Int.toNat (110 + (p : Int) * 4 + 3) = 110 + 4 * p + 3 := by omega
    simp (disch := omega) only [ck_t, nrm_of, bd_s, bd2_s, bd3_s, bd4_s, Int.toNat_natCast, aP0, Nat.reduceAdd, Nat.zero_add, a0, a1, a2, a3]
    have e5 : qB V1 110 p sh y s e 149 5 = V 149 5 := by rw [qB_n (by omega), g2b 5 (by omega)]
    rw [s5] at e5
    show some (up2 (qB V1 110 p sh y s e) 149 5 (qB V1 110 p sh y s e 149 5 + 1)) = _
    rw [e5]
  · rw [up2_r hk, qB_k hk, g2 k hk]
  · rw [up2_n (by omega), qB_n (by omega), g2b t (by omega)]
  · have hl : (insB (sh, y, s, e) P.2.2.2.2.2.1).length = P.2.2.2.2.2.1.length + 1 := insAt_len posF_le
    refine rpM_mk ?_ ?_ ?_ ?_ ?_ ?_ ?_ ?_ ?_
    · rw [up2_n (by omega), qB_n (by omega), g2b _ (by omega), s0]
    · rw [up2_n (by omega), qB_n (by omega), g2b _ (by omega), s1]
    · rw [up2_n (by omega), qB_n (by omega), g2b _ (by omega), s2]
    · rw [up2_n (by omega), qB_n (by omega), g2b _ (by omega), s3]
    · rw [up2_n (by omega), qB_n (by omega), g2b _ (by omega), s4]
    · rw [up2_s, s5, hl]; omega
    · rw [up2_n (by omega), qB_n (by omega), g2b _ (by omega), s6]
    · rw [hl]
      have hpos : posF (stL P.2.2.2.2.2.1) s P.2.2.2.2.2.1.length = p := by
        have := posF_vw (F := fun j i => V 149 (110 + 4 * i + j)) (n := P.2.2.2.2.2.1.length) (s := s)
        rw [← hvb] at this
        rw [this]
        exact hp
      unfold insB
      simp only
      rw [hpos]
      have hi := vw_ins (F := fun j i => V 149 (110 + 4 * i + j)) (F' := fun j i => up2 (qB V1 110 p sh y s e) 149 5 (V 149 5 + 1) 149 (110 + 4 * i + j)) (n := P.2.2.2.2.2.1.length) (p := p) (b := (sh, y, s, e)) hle (fun i hi => ?_) ?_ (fun i hi1 hi2 => ?_)
      · rw [← hvb] at hi
        exact hi
      · try simp only [Nat.add_zero]
        rw [up2_n (by omega), up2_n (by omega), up2_n (by omega), up2_n (by omega), qB_n (by omega), qB_n (by omega), qB_n (by omega), qB_n (by omega)]
        exact ⟨(g3 0 (by omega)).1 i hi, (g3 1 (by omega)).1 i hi, (g3 2 (by omega)).1 i hi, (g3 3 (by omega)).1 i hi⟩
      · try simp only [Nat.add_zero]
        rw [up2_n (by omega), up2_n (by omega), up2_n (by omega), up2_n (by omega)]
        exact ⟨qB_0, qB_1, qB_2, qB_3⟩
      · try simp only [Nat.add_zero]
        rw [up2_n (by omega), up2_n (by omega), up2_n (by omega), up2_n (by omega), qB_n (by omega), qB_n (by omega), qB_n (by omega), qB_n (by omega)]
        exact ⟨(g3 0 (by omega)).2.1 i hi1 hi2, (g3 1 (by omega)).2.1 i hi1 hi2, (g3 2 (by omega)).2.1 i hi1 hi2, (g3 3 (by omega)).2.1 i hi1 hi2⟩
    · refine (vw_congr (fun i _ => ?_)).trans hvr.symm
      try simp only [Nat.add_zero]
      rw [up2_n (by omega), up2_n (by omega), up2_n (by omega), up2_n (by omega), qB_n (by omega), qB_n (by omega), qB_n (by omega), qB_n (by omega), g2b _ (by omega), g2b _ (by omega), g2b _ (by omega), g2b _ (by omega)]
      exact ⟨rfl, rfl, rfl, rfl⟩
theorem M_removeBookingL : ∀ (k n t : Nat) (V : VV), k + 1 ≤ n → ((V 149 5) - 1) * 4 = ((t + k : Nat) : Int) → t + k ≤ 80 →
    ∃ V' : VV, f6_removeBooking_L4 n (t : Int) V = some V' ∧ (∀ k, k ≠ 149 → V' k = V k) ∧ ∀ u, V' 149 u = if 110 + t ≤ u ∧ u < 110 + t + k then V 149 (u + 4) else V 149 u := by
  intro k
  induction k with
  | zero =>
    intro n t V hn hc hl
    obtain ⟨n, rfl⟩ : ∃ m, n = m + 1 := ⟨n - 1, by omega⟩
    refine ⟨V, ?_, fun _ _ => rfl, fun u => by rw [if_neg (by omega)]⟩
    rw [f6_removeBooking_L4]
    simp (disch := omega) only [ck_t, nrm_of, bd_s, bd2_s, bd3_s, bd4_s, Int.toNat_natCast, aP0, Nat.reduceAdd, Nat.zero_add, hc]
    rw [if_pos (by omega)]
  | succ k ih =>
    intro n t V hn hc hl
    obtain ⟨n, rfl⟩ : ∃ m, n = m + 1 := ⟨n - 1, by omega⟩
    have a0 : Int.toNat (110 + (t : Int)) = 110 + t := by omega
    have a1 : Int.toNat (110 + (t : Int) + 4) = 110 + t + 4 := by omega
    rw [f6_removeBooking_L4]
    simp (disch := omega) only [ck_t, nrm_of, bd_s, bd2_s, bd3_s, bd4_s, Int.toNat_natCast, aP0, Nat.reduceAdd, Nat.zero_add, hc, a0, a1]
    rw [if_neg (by omega)]
    obtain ⟨V', g1, g2, g3⟩ := ih n (t + 1) (up2 V 149 (110 + t) (V 149 (110 + t + 4))) (by omega) (by rw [up2_n (by omega), hc]; omega) (by omega)
    rw [Int.natCast_add, Int.natCast_one] at g1
    refine ⟨V', g1, fun c hc => by rw [g2 c hc, up2_r hc], fun u => ?_⟩
    rw [g3 u]
    by_cases q : u = 110 + t
    · rw [if_neg (by omega), if_pos (by omega), q, up2_s]
    · by_cases q2 : 110 + (t + 1) ≤ u ∧ u < 110 + (t + 1) + k
      · rw [if_pos q2, if_pos (by omega), up2_n (by omega)]
      · rw [if_neg q2, if_neg (by omega), up2_n (by omega)]
theorem M_removeRequestL : ∀ (k n t : Nat) (V : VV), k + 1 ≤ n → ((V 149 6) - 1) * 4 = ((t + k : Nat) : Int) → t + k ≤ 32 →
    ∃ V' : VV, f6_removeRequest_L4 n (t : Int) V = some V' ∧ (∀ k, k ≠ 149 → V' k = V k) ∧ ∀ u, V' 149 u = if 194 + t ≤ u ∧ u < 194 + t + k then V 149 (u + 4) else V 149 u := by
  intro k
  induction k with
  | zero =>
    intro n t V hn hc hl
    obtain ⟨n, rfl⟩ : ∃ m, n = m + 1 := ⟨n - 1, by omega⟩
    refine ⟨V, ?_, fun _ _ => rfl, fun u => by rw [if_neg (by omega)]⟩
    rw [f6_removeRequest_L4]
    simp (disch := omega) only [ck_t, nrm_of, bd_s, bd2_s, bd3_s, bd4_s, Int.toNat_natCast, aP0, Nat.reduceAdd, Nat.zero_add, hc]
    rw [if_pos (by omega)]
  | succ k ih =>
    intro n t V hn hc hl
    obtain ⟨n, rfl⟩ : ∃ m, n = m + 1 := ⟨n - 1, by omega⟩
    have a0 : Int.toNat (194 + (t : Int)) = 194 + t := by omega
    have a1 : Int.toNat (194 + (t : Int) + 4) = 194 + t + 4 := by omega
    rw [f6_removeRequest_L4]
    simp (disch := omega) only [ck_t, nrm_of, bd_s, bd2_s, bd3_s, bd4_s, Int.toNat_natCast, aP0, Nat.reduceAdd, Nat.zero_add, hc, a0, a1]
    rw [if_neg (by omega)]
    obtain ⟨V', g1, g2, g3⟩ := ih n (t + 1) (up2 V 149 (194 + t) (V 149 (194 + t + 4))) (by omega) (by rw [up2_n (by omega), hc]; omega) (by omega)
    rw [Int.natCast_add, Int.natCast_one] at g1
    refine ⟨V', g1, fun c hc => by rw [g2 c hc, up2_r hc], fun u => ?_⟩
    rw [g3 u]
    by_cases q : u = 194 + t
    · rw [if_neg (by omega), if_pos (by omega), q, up2_s]
    · by_cases q2 : 194 + (t + 1) ≤ u ∧ u < 194 + (t + 1) + k
      · rw [if_pos q2, if_pos (by omega), up2_n (by omega)]
      · rw [if_neg q2, if_neg (by omega), up2_n (by omega)]
theorem M_removeBooking {V : VV} {P : Pl} (h : rpM V 0 P) {i : Nat} (hi : i < P.2.2.2.2.2.1.length) (hn : P.2.2.2.2.2.1.length ≤ 20) (hn2 : P.2.2.2.2.2.2.length ≤ 8) :
    ∃ V' : VV, f6_removeBooking V (i : Int) = some V' ∧ frM V V' ∧ rpM V' 0 (P.1, P.2.1, P.2.2.1, P.2.2.2.1, P.2.2.2.2.1, P.2.2.2.2.2.1.eraseIdx i, P.2.2.2.2.2.2) := by
  obtain ⟨s0, s1, s2, s3, s4, s5, s6⟩ := rpM_s h
  have hvb := rpM_b h
  have hvr := rpM_r h
  obtain ⟨m, hm⟩ : ∃ m, P.2.2.2.2.2.1.length = m + 1 := ⟨P.2.2.2.2.2.1.length - 1, by omega⟩
  obtain ⟨V1, g1, g2, g3⟩ := M_removeBookingL (4 * m - 4 * i) FU (4 * i) V (by have := FU_ge; omega) (by rw [s5]; omega) (by omega)
  have e4 : ((4 * i : Nat) : Int) = (i : Int) * 4 := by omega
  rw [e4] at g1
  refine ⟨up2 V1 149 5 (V 149 5 - 1), ?_, ⟨fun k hk => ?_, fun t ht => ?_⟩, ?_⟩
  · unfold f6_removeBooking
    rw [g1]
    simp only [bd_s]
    rw [g3, if_neg (by omega)]
  · rw [up2_r hk, g2 k hk]
  · rw [up2_n (by omega), g3, if_neg (by omega)]
  · have hl : (P.2.2.2.2.2.1.eraseIdx i).length = m := by rw [List.length_eraseIdx_of_lt hi]; omega
    refine rpM_mk ?_ ?_ ?_ ?_ ?_ ?_ ?_ ?_ ?_
    · rw [up2_n (by omega), g3, if_neg (by omega), s0]
    · rw [up2_n (by omega), g3, if_neg (by omega), s1]
    · rw [up2_n (by omega), g3, if_neg (by omega), s2]
    · rw [up2_n (by omega), g3, if_neg (by omega), s3]
    · rw [up2_n (by omega), g3, if_neg (by omega), s4]
    · rw [up2_s, s5, hl]; omega
    · rw [up2_n (by omega), g3, if_neg (by omega), s6]
    · rw [hl]
      rw [hm] at hvb
      have hr := vw_rem (F := fun j i => V 149 (110 + 4 * i + j)) (F' := fun j i => up2 V1 149 5 (V 149 5 - 1) 149 (110 + 4 * i + j)) (n := m) (p := i) (by omega) (fun t ht => ?_) (fun t h1 h2 => ?_)
      · rw [← hvb] at hr
        exact hr
      · try simp only [Nat.add_zero]
        rw [up2_n (by omega), up2_n (by omega), up2_n (by omega), up2_n (by omega), g3, g3, g3, g3, if_neg (by omega), if_neg (by omega), if_neg (by omega), if_neg (by omega)]
        exact ⟨rfl, rfl, rfl, rfl⟩
      · try simp only [Nat.add_zero]
        rw [up2_n (by omega), up2_n (by omega), up2_n (by omega), up2_n (by omega), g3, g3, g3, g3, if_pos (by omega), if_pos (by omega), if_pos (by omega), if_pos (by omega)]
        refine ⟨?_, ?_, ?_, ?_⟩ <;> congr 1 <;> omega
    · refine (vw_congr (fun t _ => ?_)).trans hvr.symm
      try simp only [Nat.add_zero]
      rw [up2_n (by omega), up2_n (by omega), up2_n (by omega), up2_n (by omega), g3, g3, g3, g3, if_neg (by omega), if_neg (by omega), if_neg (by omega), if_neg (by omega)]
      exact ⟨rfl, rfl, rfl, rfl⟩
theorem M_removeRequest {V : VV} {P : Pl} (h : rpM V 0 P) {i : Nat} (hi : i < P.2.2.2.2.2.2.length) (hn : P.2.2.2.2.2.1.length ≤ 20) (hn2 : P.2.2.2.2.2.2.length ≤ 8) :
    ∃ V' : VV, f6_removeRequest V (i : Int) = some V' ∧ frM V V' ∧ rpM V' 0 (P.1, P.2.1, P.2.2.1, P.2.2.2.1, P.2.2.2.2.1, P.2.2.2.2.2.1, P.2.2.2.2.2.2.eraseIdx i) := by
  obtain ⟨s0, s1, s2, s3, s4, s5, s6⟩ := rpM_s h
  have hvb := rpM_b h
  have hvr := rpM_r h
  obtain ⟨m, hm⟩ : ∃ m, P.2.2.2.2.2.2.length = m + 1 := ⟨P.2.2.2.2.2.2.length - 1, by omega⟩
  obtain ⟨V1, g1, g2, g3⟩ := M_removeRequestL (4 * m - 4 * i) FU (4 * i) V (by have := FU_ge; omega) (by rw [s6]; omega) (by omega)
  have e4 : ((4 * i : Nat) : Int) = (i : Int) * 4 := by omega
  rw [e4] at g1
  refine ⟨up2 V1 149 6 (V 149 6 - 1), ?_, ⟨fun k hk => ?_, fun t ht => ?_⟩, ?_⟩
  · unfold f6_removeRequest
    rw [g1]
    simp only [bd_s]
    rw [g3, if_neg (by omega)]
  · rw [up2_r hk, g2 k hk]
  · rw [up2_n (by omega), g3, if_neg (by omega)]
  · have hl : (P.2.2.2.2.2.2.eraseIdx i).length = m := by rw [List.length_eraseIdx_of_lt hi]; omega
    refine rpM_mk ?_ ?_ ?_ ?_ ?_ ?_ ?_ ?_ ?_
    · rw [up2_n (by omega), g3, if_neg (by omega), s0]
    · rw [up2_n (by omega), g3, if_neg (by omega), s1]
    · rw [up2_n (by omega), g3, if_neg (by omega), s2]
    · rw [up2_n (by omega), g3, if_neg (by omega), s3]
    · rw [up2_n (by omega), g3, if_neg (by omega), s4]
    · rw [up2_n (by omega), g3, if_neg (by omega), s5]
    · rw [up2_s, s6, hl]; omega
    · refine (vw_congr (fun t _ => ?_)).trans hvb.symm
      try simp only [Nat.add_zero]
      rw [up2_n (by omega), up2_n (by omega), up2_n (by omega), up2_n (by omega), g3, g3, g3, g3, if_neg (by omega), if_neg (by omega), if_neg (by omega), if_neg (by omega)]
      exact ⟨rfl, rfl, rfl, rfl⟩
    · rw [hl]
      rw [hm] at hvr
      have hr := vw_rem (F := fun j i => V 149 (194 + 4 * i + j)) (F' := fun j i => up2 V1 149 6 (V 149 6 - 1) 149 (194 + 4 * i + j)) (n := m) (p := i) (by omega) (fun t ht => ?_) (fun t h1 h2 => ?_)
      · rw [← hvr] at hr
        exact hr
      · try simp only [Nat.add_zero]
        rw [up2_n (by omega), up2_n (by omega), up2_n (by omega), up2_n (by omega), g3, g3, g3, g3, if_neg (by omega), if_neg (by omega), if_neg (by omega), if_neg (by omega)]
        exact ⟨rfl, rfl, rfl, rfl⟩
      · try simp only [Nat.add_zero]
        rw [up2_n (by omega), up2_n (by omega), up2_n (by omega), up2_n (by omega), g3, g3, g3, g3, if_pos (by omega), if_pos (by omega), if_pos (by omega), if_pos (by omega)]
        refine ⟨?_, ?_, ?_, ?_⟩ <;> congr 1 <;> omega
theorem M_addR {V : VV} {P : Pl} (h : rpM V 0 P) {sh y e la : Int} (hn : P.2.2.2.2.2.1.length ≤ 20) (hn2 : P.2.2.2.2.2.2.length < 8) : frM V (up2 (qB V 194 P.2.2.2.2.2.2.length sh y e la) 149 6 (V 149 6 + 1)) ∧ rpM (up2 (qB V 194 P.2.2.2.2.2.2.length sh y e la) 149 6 (V 149 6 + 1)) 0 (P.1, P.2.1, P.2.2.1, P.2.2.2.1, P.2.2.2.2.1, P.2.2.2.2.2.1, P.2.2.2.2.2.2 ++ [(sh, y, e, la)]) := by
  obtain ⟨s0, s1, s2, s3, s4, s5, s6⟩ := rpM_s h
  have hvb := rpM_b h
  have hvr := rpM_r h
  refine ⟨⟨fun k hk => by rw [up2_r hk, qB_k hk], fun t ht => by rw [up2_n (by omega), qB_n (by omega)]⟩, ?_⟩
  have hl : (P.2.2.2.2.2.2 ++ [(sh, y, e, la)]).length = P.2.2.2.2.2.2.length + 1 := by simp
  refine rpM_mk ?_ ?_ ?_ ?_ ?_ ?_ ?_ ?_ ?_
  · rw [up2_n (by omega), qB_n (by omega), s0]
  · rw [up2_n (by omega), qB_n (by omega), s1]
  · rw [up2_n (by omega), qB_n (by omega), s2]
  · rw [up2_n (by omega), qB_n (by omega), s3]
  · rw [up2_n (by omega), qB_n (by omega), s4]
  · rw [up2_n (by omega), qB_n (by omega), s5]
  · rw [up2_s, s6, hl]; omega
  · refine (vw_congr (fun t _ => ?_)).trans hvb.symm
    try simp only [Nat.add_zero]
    rw [up2_n (by omega), up2_n (by omega), up2_n (by omega), up2_n (by omega), qB_n (by omega), qB_n (by omega), qB_n (by omega), qB_n (by omega)]
    exact ⟨rfl, rfl, rfl, rfl⟩
  · rw [hl]
    have ha := vw_add (F := fun j i => V 149 (194 + 4 * i + j)) (F' := fun j i => up2 (qB V 194 P.2.2.2.2.2.2.length sh y e la) 149 6 (V 149 6 + 1) 149 (194 + 4 * i + j)) (n := P.2.2.2.2.2.2.length) (b := (sh, y, e, la)) (fun i hi => ?_) ?_
    · rw [← hvr] at ha
      exact ha
    · try simp only [Nat.add_zero]
      rw [up2_n (by omega), up2_n (by omega), up2_n (by omega), up2_n (by omega), qB_n (by omega), qB_n (by omega), qB_n (by omega), qB_n (by omega)]
      exact ⟨rfl, rfl, rfl, rfl⟩
    · try simp only [Nat.add_zero]
      rw [up2_n (by omega), up2_n (by omega), up2_n (by omega), up2_n (by omega)]
      exact ⟨qB_0, qB_1, qB_2, qB_3⟩
theorem M_setF {V : VV} {P : Pl} (h : rpM V 0 P) (z : Int) : (rpM (up2 V 149 2 z) 0 (z, P.2.1, P.2.2.1, P.2.2.2.1, P.2.2.2.2.1, P.2.2.2.2.2.1, P.2.2.2.2.2.2)) ∧ (rpM (up2 V 149 3 z) 0 (P.1, z, P.2.2.1, P.2.2.2.1, P.2.2.2.2.1, P.2.2.2.2.2.1, P.2.2.2.2.2.2)) ∧ (rpM (up2 V 149 7 z) 0 (P.1, P.2.1, z, P.2.2.2.1, P.2.2.2.2.1, P.2.2.2.2.2.1, P.2.2.2.2.2.2)) ∧ (rpM (up2 V 149 8 z) 0 (P.1, P.2.1, P.2.2.1, z, P.2.2.2.2.1, P.2.2.2.2.2.1, P.2.2.2.2.2.2)) ∧ (rpM (up2 V 149 9 z) 0 (P.1, P.2.1, P.2.2.1, P.2.2.2.1, z, P.2.2.2.2.2.1, P.2.2.2.2.2.2)) := by
  obtain ⟨s0, s1, s2, s3, s4, s5, s6⟩ := rpM_s h
  have hvb := rpM_b h
  have hvr := rpM_r h
  have hb : ∀ i, i < 10 → vw (fun j t => up2 V 149 i z 149 (110 + 4 * t + j)) P.2.2.2.2.2.1.length = P.2.2.2.2.2.1 := fun i hi => by
    refine (vw_congr (fun t _ => ?_)).trans hvb.symm
    try simp only [Nat.add_zero]
    rw [up2_n (by omega), up2_n (by omega), up2_n (by omega), up2_n (by omega)]
    exact ⟨rfl, rfl, rfl, rfl⟩
  have hr : ∀ i, i < 10 → vw (fun j t => up2 V 149 i z 149 (194 + 4 * t + j)) P.2.2.2.2.2.2.length = P.2.2.2.2.2.2 := fun i hi => by
    refine (vw_congr (fun t _ => ?_)).trans hvr.symm
    try simp only [Nat.add_zero]
    rw [up2_n (by omega), up2_n (by omega), up2_n (by omega), up2_n (by omega)]
    exact ⟨rfl, rfl, rfl, rfl⟩
  refine ⟨rpM_mk ?_ ?_ ?_ ?_ ?_ ?_ ?_ (hb _ (by omega)) (hr _ (by omega)), rpM_mk ?_ ?_ ?_ ?_ ?_ ?_ ?_ (hb _ (by omega)) (hr _ (by omega)), rpM_mk ?_ ?_ ?_ ?_ ?_ ?_ ?_ (hb _ (by omega)) (hr _ (by omega)), rpM_mk ?_ ?_ ?_ ?_ ?_ ?_ ?_ (hb _ (by omega)) (hr _ (by omega)), rpM_mk ?_ ?_ ?_ ?_ ?_ ?_ ?_ (hb _ (by omega)) (hr _ (by omega))⟩ <;> first | exact up2_s _ _ _ _ | (rw [up2_n (by omega)]; assumption)
theorem frM_up {V : VV} {i : Nat} {z : Int} (hi : i = 2 ∨ i = 3 ∨ (5 ≤ i ∧ i < 10)) : frM V (up2 V 149 i z) := ⟨fun k hk => up2_r hk, fun t ht => up2_n (by omega)⟩
theorem M_addBooking {V : VV} {S : Su} {P : Pl} (h : MK V S P) {x y s : Int} (hn : P.2.2.2.2.2.1.length < 20) (hx : 0 ≤ x ∧ x < (S.2.2.length : Int)) (hy : y = 0 ∨ y = 1) (hs : 0 ≤ s ∧ s ≤ 999) (hf : frB S P.2.2.2.2.2.1 y (tr S P.1 x) (-1) s = true) : ∃ V' : VV, f6_addBooking V x y s = some V' ∧ frM V V' ∧ MK V' S (bookP S P x y s) := by
  obtain ⟨t1, t2, t3⟩ := M_transit h hx
  obtain ⟨V1, g1, g2, g3⟩ := M_insert h.1 (sh := x) (y := y) (s := s) (e := s + tr S P.1 x) hn (by omega) h.ok.bz
  refine ⟨up2 V1 149 7 (V1 149 7 + 1), ?_, g2.tr (frM_up (by omega)), ?_⟩
  · unfold f6_addBooking
    rw [t1]
    simp only [bd_s]
    rw [g1]
    rfl
  · have e2 := (rpM_s g3).2.2.1
    have h1 := (M_setF g3 (V1 149 7 + 1)).2.2.1
    rw [e2] at h1 ⊢
    exact h.mut (g2.tr (frM_up (by omega))) h1 (okP_book h.2.2.1 h.ok hn hx hy hs hf)
theorem M_processL {S : Su} : ∀ (k n i : Nat) (sv : Int) (V : VV) (P : Pl), k + 1 ≤ n → MK V S P → P.2.2.2.2.2.2.length = i + k → ∃ V' : VV, f6_process_L4 n sv (i : Int) V = some ((proc S k i sv P).1, V') ∧ frM V V' ∧ MK V' S (proc S k i sv P).2 := by
  intro k
  induction k with
  | zero =>
    intro n i sv V P hn h hl
    obtain ⟨n, rfl⟩ : ∃ m, n = m + 1 := ⟨n - 1, by omega⟩
    have hr := h.ok.rg
    have hp := h.pl
    refine ⟨V, ?_, frM.rf, h⟩
    rw [f6_process_L4]
    simp (disch := omega) only [ck_t, nrm_of, bd_s, bd2_s, bd3_s, bd4_s, Int.toNat_natCast, aP0, Nat.reduceAdd, Nat.zero_add, hp.2.2.2.2.2.2]
    rw [if_pos (by omega)]
    rfl
  | succ k ih =>
    intro n i sv V P hn h hl
    obtain ⟨n, rfl⟩ : ∃ m, n = m + 1 := ⟨n - 1, by omega⟩
    have hr := h.ok.rg
    have hp := h.pl
    have hi : i < P.2.2.2.2.2.2.length := by omega
    obtain ⟨-, r2, r3⟩ := h.r hi
    unfold okR at r3
    simp only at r3
    obtain ⟨u1, u2, u3, u4, u5, u6⟩ := r3
    have hst := M_servingMinute h (x := V 149 (194 + 4 * i)) (y := V 149 (194 + 4 * i + 1)) (e := V 149 (194 + 4 * i + 2)) (la := V 149 (194 + 4 * i + 3)) ⟨u1, u2⟩ u3 (by omega) (by omega)
    have hsr := sts_rg (x := V 149 (194 + 4 * i)) (y := V 149 (194 + 4 * i + 1)) h.ok (show 0 ≤ V 149 (194 + 4 * i + 2) ∧ V 149 (194 + 4 * i + 2) ≤ 999 by omega) u6
    rw [f6_process_L4, proc, r2, M_ofRequest (i := i) (y := 0) (j := 0) rfl rfl (by omega) (by omega), M_ofRequest (i := i) (y := 1) (j := 1) rfl rfl (by omega) (by omega), M_ofRequest (i := i) (y := 2) (j := 2) rfl rfl (by omega) (by omega), M_ofRequest (i := i) (y := 3) (j := 3) rfl rfl (by omega) (by omega)]
    simp only [bd_s, Nat.add_zero]
    rw [hst]
    simp (disch := omega) only [ck_t, nrm_of, bd_s, bd2_s, bd3_s, bd4_s, Int.toNat_natCast, aP0, Nat.reduceAdd, Nat.zero_add, hp.2.2.2.2.2.2]
    rw [if_neg (by omega)]
    by_cases c : sts S P (V 149 (194 + 4 * i)) (V 149 (194 + 4 * i + 1)) (V 149 (194 + 4 * i + 2)) (V 149 (194 + 4 * i + 3)) = -1
    · rw [if_pos c, if_pos c]
      obtain ⟨V', g1, g2, g3⟩ := ih n (i + 1) sv V P (by omega) h (by omega)
      rw [Int.natCast_add, Int.natCast_one] at g1
      exact ⟨V', g1, g2, g3⟩
    · rw [if_neg c, if_neg c]
      rcases hsr with z | ⟨z1, z2, z3, z4, z5⟩
      · exact absurd z c
      · obtain ⟨V1, k1, k2, k3⟩ := M_addBooking h (x := V 149 (194 + 4 * i)) (y := V 149 (194 + 4 * i + 1)) (s := sts S P (V 149 (194 + 4 * i)) (V 149 (194 + 4 * i + 1)) (V 149 (194 + 4 * i + 2)) (V 149 (194 + 4 * i + 3))) z3 ⟨u1, u2⟩ u3 ⟨z1, z2⟩ z4
        obtain ⟨V2, g1, g2, g3⟩ := M_removeRequest k3.1 (i := i) hi k3.ok.rg.2.2.1 k3.ok.rg.2.2.2
        rw [k1]
        simp only [bd_s]
        rw [g1]
        simp only [bd_s]
        obtain ⟨V', q1, q2, q3⟩ := ih n i (sv + 1) V2 _ (by omega) (k3.mut g2 g3 (okP_remR k3.ok i)) (by
          show (P.2.2.2.2.2.2.eraseIdx i).length = i + k
          rw [List.length_eraseIdx_of_lt hi]
          omega)
        exact ⟨V', q1, (k2.tr g2).tr q2, q3⟩
theorem M_process {V : VV} {S : Su} {P : Pl} (h : MK V S P) : ∃ V' : VV, f6_process V = some ((serveP S P).1, V') ∧ frM V V' ∧ MK V' S (serveP S P).2 := by
  have hr := h.ok.rg
  obtain ⟨V1, g1, g2, g3⟩ := M_processL P.2.2.2.2.2.2.length FU 0 0 V P (by have := FU_ge; omega) h (by omega)
  rw [nc0] at g1
  refine ⟨up2 V1 149 9 (V1 149 9 + (proc S P.2.2.2.2.2.2.length 0 0 P).1), ?_, g2.tr (frM_up (by omega)), ?_⟩
  · unfold f6_process
    rw [g1]
    rfl
  · have h4 := g3.pl.2.2.2.2.1
    have hs := (M_setF g3.1 (V1 149 9 + (proc S P.2.2.2.2.2.2.length 0 0 P).1)).2.2.2.2
    rw [h4] at hs ⊢
    exact g3.mut (frM_up (by omega)) hs (okP_sv g3.ok)
