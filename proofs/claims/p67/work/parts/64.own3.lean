/-! the schedule of the law: serving the waiting list, agreement -/
theorem insB_perm {b : Bk} {l : List Bk} : (insB b l).Perm (l ++ [b]) := by
  unfold insB insAt
  refine List.perm_middle.trans ?_
  rw [List.take_append_drop]
  exact (List.perm_append_comm (l₁ := [b]) (l₂ := l))
theorem proc_pl {S : Su} : ∀ (k i : Nat) (sv : Int) (P : Pl), (proc S k i sv P).2.1 = P.1 ∧ (proc S k i sv P).2.2.1 = P.2.1 ∧ (proc S k i sv P).2.2.2.2.2.1 = P.2.2.2.2.1
  | 0, _, _, _ => ⟨rfl, rfl, rfl⟩
  | k + 1, i, sv, P => by
    rw [proc]
    split
    · exact ⟨rfl, rfl, rfl⟩
    · split
      · exact proc_pl k (i + 1) sv P
      · exact proc_pl k i (sv + 1) _
theorem O_procL {S : Su} {P : Pl} (hS : okS S) : ∀ (rest : List Bk) (n : Nat) (K B : List Bk) (now : Int) (V : VV) (P1 : Pl) (k : Nat), rest.length + 1 ≤ n → CK V S P → P1.1 = P.1 ∧ P1.2.1 = P.2.1 → B.Perm P1.2.2.2.2.2.1 → P1.2.2.2.2.2.2 = K ++ rest → okP S P1 → vw (col V 149) B.length = B → V 148 5 = (B.length : Int) → V 148 10 = ((k + rest.length : Nat) : Int) → K.length ≤ k → k + rest.length ≤ 8 → (∀ t, t < K.length → K[t]? = some (V 153 t, V 154 t, V 155 t, V 156 t)) → (∀ t, t < rest.length → rest[t]? = some (V 153 (k + t), V 154 (k + t), V 155 (k + t), V 156 (k + t))) →
    ∃ (V' : VV) (B' K' : List Bk) (now' : Int) (P2 : Pl), f6_process_L6 n now (K.length : Int) (k : Int) V = some (now', (K'.length : Int), V') ∧ proc S rest.length K.length now P1 = (now', P2) ∧ (∀ q, q < 148 → V' q = V q) ∧ (∀ i, i ≠ 5 → V' 148 i = V 148 i) ∧ B'.Perm P2.2.2.2.2.2.1 ∧ P2.2.2.2.2.2.2 = K' ∧ okP S P2 ∧ vw (col V' 149) B'.length = B' ∧ V' 148 5 = (B'.length : Int) ∧ ∀ t, t < K'.length → K'[t]? = some (V' 153 t, V' 154 t, V' 155 t, V' 156 t) := by
  intro rest
  induction rest with
  | nil =>
    intro n K B now V P1 k hn h hp hB hR hok w1 w2 w3 hk hk8 hK hr
    obtain ⟨n, rfl⟩ : ∃ m, n = m + 1 := ⟨n - 1, by omega⟩
    refine ⟨V, B, K, now, P1, ?_, rfl, fun _ _ => rfl, fun _ _ => rfl, hB, by rw [hR, List.append_nil], hok, w1, w2, hK⟩
    rw [f6_process_L6, w3, nrm_of (by omega) (by omega), nrm_of (by omega) (by omega), if_pos (by simp)]
  | cons r rest ih =>
    intro n K B now V P1 k hn h hp hB hR hok w1 w2 w3 hk hk8 hK hr
    obtain ⟨n, rfl⟩ : ∃ m, n = m + 1 := ⟨n - 1, by omega⟩
    rw [List.length_cons] at hn hk8 w3
    have hB20 : B.length ≤ 20 := by rw [hB.length_eq]; exact hok.2.2.1.1
    have hSl : (S.2.2.length : Int) ≤ 10 := by have := hS.2.2.1.2; omega
    have hbB : ∀ b ∈ B, rgB b := fun b hb => (hok.2.2.2.1 b (hB.mem_iff.mp hb)).rg hSl
    have hr0 : r = (V 153 k, V 154 k, V 155 k, V 156 k) := by
      have := hr 0 (by simp)
      simpa using this
    have hrm : r ∈ P1.2.2.2.2.2.2 := by rw [hR]; exact List.mem_append_right _ List.mem_cons_self
    obtain ⟨o1, o2, o3, o4, o5, o6⟩ := hok.2.2.2.2.1 r hrm
    have w : OW V B (vw (col V 153) (k + (rest.length + 1))) (V 148 11) := ⟨⟨w1, w2⟩, ⟨by rw [vw_len], by rw [vw_len]; exact w3⟩, rfl⟩
    have hf := O_find h w hB20 hbB (x := r.1) (y := r.2.1) (e := r.2.2.1) (la := r.2.2.2) ⟨o1, o2⟩ o3 (by omega) (by omega)
    have hst : sts S P1 r.1 r.2.1 r.2.2.1 r.2.2.2 = fnd S P.1 P.2.1 B r.1 r.2.1 r.2.2.1 r.2.2.2 := by rw [sts_fnd, hp.1, hp.2, fnd_perm hB]
    have hget : P1.2.2.2.2.2.2[K.length]? = some r := by rw [hR, List.getElem?_append_right (Nat.le_refl _), Nat.sub_self]; rfl
    have hmi := h.ok.rg.2.1
    have hfr := fnd_rg (S := S) (th := P.1) (mi := P.2.1) (B := B) (x := r.1) (y := r.2.1) (e := r.2.2.1) (la := r.2.2.2) hmi.1 (by omega)
    have hproc : proc S (rest.length + 1) K.length now P1 = if fnd S P.1 P.2.1 B r.1 r.2.1 r.2.2.1 r.2.2.2 = -1 then proc S rest.length (K.length + 1) now P1 else proc S rest.length K.length (now + 1) (bookP S (remRP P1 K.length) r.1 r.2.1 (fnd S P.1 P.2.1 B r.1 r.2.1 r.2.2.1 r.2.2.2)) := by
      rw [proc, hget]
      show (if sts S P1 r.1 r.2.1 r.2.2.1 r.2.2.2 = -1 then _ else _) = _
      rw [hst]
    have hL : ∀ (o : Option (Int × Int × VV)), (if fnd S P.1 P.2.1 B r.1 r.2.1 r.2.2.1 r.2.2.2 = -1 then f6_process_L6 n now ((K.length + 1 : Nat) : Int) ((k + 1 : Nat) : Int) (pB V 153 K.length r.1 r.2.1 r.2.2.1 r.2.2.2) else bd (f6_add V r.1 r.2.1 (fnd S P.1 P.2.1 B r.1 r.2.1 r.2.2.1 r.2.2.2)) (fun W => f6_process_L6 n (now + 1) (K.length : Int) ((k + 1 : Nat) : Int) W)) = o → f6_process_L6 (n + 1) now (K.length : Int) (k : Int) V = o := by
      intro o ho
      rw [← ho, f6_process_L6, w3, nrm_of (by omega) (by omega), nrm_of (by omega) (by omega), if_neg (by omega), ck_t (by omega), Int.toNat_natCast]
      rw [hr0] at hf o3 o6 hfr ⊢
      simp only at hf o3 o6 hfr ⊢
      rw [hf, bd_q]
      rcases hfr with q | ⟨q, -⟩
      · rw [q, if_pos (by decide +kernel), if_pos rfl]
        simp only [Int.toNat_natCast, frk (show (154 : Nat) ≠ 153 by decide), frk (show (155 : Nat) ≠ 154 by decide), frk (show (155 : Nat) ≠ 153 by decide), frk (show (156 : Nat) ≠ 155 by decide), frk (show (156 : Nat) ≠ 154 by decide), frk (show (156 : Nat) ≠ 153 by decide)]
        rw [ck_t (by omega), ck_t o3]
        rfl
      · generalize fnd S P.1 P.2.1 B (V 153 k) (V 154 k) (V 155 k) (V 156 k) = z at q ⊢
        rw [nrm_of (by omega) (by omega), if_neg (by omega), if_neg (by omega)]
        rfl
    rcases hfr with q | ⟨q, qn, qf⟩
    · rw [if_pos q] at hproc
      obtain ⟨V1, eV1⟩ : ∃ V1 : VV, V1 = pB V 153 K.length r.1 r.2.1 r.2.2.1 r.2.2.2 := ⟨_, rfl⟩
      have k1 : ∀ x, ¬ (153 ≤ x ∧ x < 157) → V1 x = V x := fun x hx => by rw [eV1]; exact pB_k (by omega)
      have kn : ∀ x t, t ≠ K.length → V1 x t = V x t := fun x t ht => by rw [eV1]; exact pB_n ht
      obtain ⟨V', B', K', now', P2, g1, g2, g3, g4, g5, g6, g7, g8, g9, g10⟩ := ih n (K ++ [r]) B now V1 P1 (k + 1) (by omega) (h.up (fun x hx => k1 x (by omega))) hp hB (by rw [hR, List.append_assoc]; rfl) hok (by
          rw [← w1, vw_len]
          exact vw_congr (fun i _ => by unfold col; rw [k1 _ (by omega), k1 _ (by omega), k1 _ (by omega), k1 _ (by omega)]; exact ⟨rfl, rfl, rfl, rfl⟩)) (by rw [k1 148 (by omega)]; exact w2) (by rw [k1 148 (by omega), w3]; omega) (by rw [List.length_append]; show K.length + 1 ≤ k + 1; omega) (by omega) (fun t ht => by
          rw [List.length_append] at ht
          replace ht : t < K.length + 1 := ht
          by_cases e : t = K.length
          · subst e
            rw [List.getElem?_append_right (Nat.le_refl _), Nat.sub_self, eV1]
            show some r = _
            rw [pB_0, show (154 : Nat) = 153 + 1 from rfl, pB_1, show (155 : Nat) = 153 + 2 from rfl, pB_2, show (156 : Nat) = 153 + 3 from rfl, pB_3]
          · rw [List.getElem?_append_left (by omega), hK t (by omega), kn _ _ e, kn _ _ e, kn _ _ e, kn _ _ e]) (fun t ht => by
          have := hr (t + 1) (by simp; omega)
          rw [List.getElem?_cons_succ, show k + (t + 1) = k + 1 + t by omega] at this
          rw [this, kn _ _ (by omega), kn _ _ (by omega), kn _ _ (by omega), kn _ _ (by omega)])
      rw [List.length_append] at g1 g2
      refine ⟨V', B', K', now', P2, hL _ ?_, by rw [List.length_cons, hproc]; exact g2, fun x hx => by rw [g3 x hx, k1 x (by omega)], fun i hi => by rw [g4 i hi, k1 148 (by omega)], g5, g6, g7, g8, g9, g10⟩
      rw [if_pos q, ← eV1]
      exact g1
    · have q1 : ¬ fnd S P.1 P.2.1 B r.1 r.2.1 r.2.2.1 r.2.2.2 = -1 := by omega
      rw [if_neg q1] at hproc
      obtain ⟨s, hs⟩ : ∃ s, s = fnd S P.1 P.2.1 B r.1 r.2.1 r.2.2.1 r.2.2.2 := ⟨_, rfl⟩
      rw [← hs] at hproc hL q qf q1
      obtain ⟨V1, a1, a2, a3, a4, a5⟩ := O_add h w (by omega) (x := r.1) (y := r.2.1) (s := s) ⟨o1, o2⟩ o3
      have htr : tr S P1.1 r.1 = tr S P.1 r.1 := by rw [hp.1]
      have hfrP : frB S P1.2.2.2.2.2.1 r.2.1 (tr S P1.1 r.1) (-1) s = true := by rw [htr, ← frB_perm hB]; exact qf
      have hok1 : okP S (bookP S (remRP P1 K.length) r.1 r.2.1 s) := okP_book hS (okP_remR hok K.length) (by show P1.2.2.2.2.2.1.length < 20; rw [← hB.length_eq]; omega) ⟨o1, o2⟩ o3 ⟨by omega, by omega⟩ hfrP
      obtain ⟨V', B', K', now', P2, g1, g2, g3, g4, g5, g6, g7, g8, g9, g10⟩ := ih n K (B ++ [(r.1, r.2.1, s, s + tr S P.1 r.1)]) (now + 1) V1 (bookP S (remRP P1 K.length) r.1 r.2.1 s) (k + 1) (by omega) (h.up a2) hp (by
          show (B ++ [(r.1, r.2.1, s, s + tr S P.1 r.1)]).Perm (insB (r.1, r.2.1, s, s + tr S P1.1 r.1) P1.2.2.2.2.2.1)
          rw [htr]
          exact (hB.append_right _).trans insB_perm.symm) (by
          show (P1.2.2.2.2.2.2).eraseIdx K.length = K ++ rest
          rw [hR, List.eraseIdx_append_of_length_le (Nat.le_refl _), Nat.sub_self]
          rfl) hok1 a5.1.1 a5.1.2 (by rw [a4 10 (by omega), w3]; omega) (by omega) (by omega) (fun t ht => by rw [a3 153 (by omega), a3 154 (by omega), a3 155 (by omega), a3 156 (by omega)]; exact hK t ht) (fun t ht => by
          have := hr (t + 1) (by simp; omega)
          rw [List.getElem?_cons_succ, show k + (t + 1) = k + 1 + t by omega] at this
          rw [this, a3 153 (by omega), a3 154 (by omega), a3 155 (by omega), a3 156 (by omega)])
      refine ⟨V', B', K', now', P2, hL _ ?_, by rw [List.length_cons, hproc]; exact g2, fun x hx => by rw [g3 x hx, a2 x hx], fun i hi => by rw [g4 i hi, a4 i hi], g5, g6, g7, g8, g9, g10⟩
      rw [if_neg q1, a1, bd_q]
      exact g1
/-- the waiting list is served as the class serves it -/
theorem O_process {V : VV} {S : Su} {P P1 : Pl} {B : List Bk} (hS : okS S) (h : CK V S P) (hp : P1.1 = P.1 ∧ P1.2.1 = P.2.1) (hB : B.Perm P1.2.2.2.2.2.1) (hok : okP S P1) (w : OW V B P1.2.2.2.2.2.2 P1.2.2.2.2.1) : ∃ (V' : VV) (B' : List Bk), f6_process V = some ((serveP S P1).1, V') ∧ (∀ q, q < 148 → V' q = V q) ∧ B'.Perm (serveP S P1).2.2.2.2.2.2.1 ∧ OW V' B' (serveP S P1).2.2.2.2.2.2.2 (serveP S P1).2.2.2.2.2.1 := by
  have hr8 := hok.2.2.1.2
  obtain ⟨V', B', K', now', P2, g1, g2, g3, g4, g5, g6, g7, g8, g9, g10⟩ := O_procL hS P1.2.2.2.2.2.2 FU [] B 0 V P1 0 (by have := FU_ge; omega) h hp hB rfl hok w.1.1 w.1.2 (by rw [w.2.1.2, Nat.zero_add]) (Nat.le_refl _) (by omega) (fun t ht => absurd ht (Nat.not_lt_zero t)) (fun t ht => by rw [Nat.zero_add]; exact w.r ht)
  have hsv := (proc_pl (S := S) P1.2.2.2.2.2.2.length 0 0 P1).2.2
  have g2' : proc S P1.2.2.2.2.2.2.length 0 0 P1 = (now', P2) := g2
  have hs1 : serveP S P1 = addSv (now', P2) := by unfold serveP; rw [g2']
  rw [g2'] at hsv
  rw [hs1]
  refine ⟨up2 (up2 V' 148 10 (K'.length : Int)) 148 11 (P2.2.2.2.2.1 + now'), B', ?_, fun q hq => by rw [up2_r (by omega), up2_r (by omega), g3 q hq], g5, ⟨?_, ?_⟩, ⟨?_, ?_⟩, ?_⟩
  · unfold f6_process
    rw [show f6_process_L6 FU 0 0 0 V = f6_process_L6 FU 0 (([] : List Bk).length : Int) ((0 : Nat) : Int) V from rfl, g1]
    show some (now', up2 (up2 V' 148 10 (K'.length : Int)) 148 11 ((up2 V' 148 10 (K'.length : Int)) 148 11 + now')) = _
    rw [up2_n (show (148 : Nat) ≠ 148 ∨ (11 : Nat) ≠ 10 by omega), g4 11 (by omega), w.2.2, ← hsv]
    rfl
  · refine Eq.trans (vw_congr (fun i _ => ?_)) g8
    unfold col
    rw [up2_r (by omega), up2_r (by omega), up2_r (by omega), up2_r (by omega), up2_r (by omega), up2_r (by omega), up2_r (by omega), up2_r (by omega)]
    exact ⟨rfl, rfl, rfl, rfl⟩
  · rw [up2_n (by omega), up2_n (by omega), g9]
  · show vw _ P2.2.2.2.2.2.2.length = P2.2.2.2.2.2.2
    rw [g6]
    refine vw_ext rfl (fun i hi => ?_)
    rw [g10 i hi]
    unfold col
    rw [up2_r (by omega), up2_r (by omega), up2_r (by omega), up2_r (by omega), up2_r (by omega), up2_r (by omega), up2_r (by omega), up2_r (by omega)]
  · rw [up2_n (by omega), up2_s, ← g6]
    rfl
  · rw [up2_s]
    rfl
