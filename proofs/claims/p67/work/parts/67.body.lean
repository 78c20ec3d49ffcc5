/-- one round -/
theorem O_body {V : VV} {S : Su} {P : Pl} (h0 : CI V S P) (hm : mc P) (hmin : P.2.1 ≤ 1000) {z : Nat} (hz : z < 268435456) : AO S P (fL_body V (S.2.2.length : Int) (z : Int)) := by
  obtain ⟨W, w1, w2, w⟩ := O_read h0.1
  have h : CI W S P := h0.up w2
  have hag := O_agrees h.1 hm w (List.Perm.refl _)
  obtain ⟨n1, n2, n3, n4, n5, n6, n7⟩ := Q_n h.1
  have hr := h.1.ok.rg
  have hs := h.1.su
  have hS := h.1.2.2.2.1
  have hS10 := hs.2.2.2.2.2
  have hSl : (S.2.2.length : Int) ≤ 10 := by omega
  have hbB : ∀ b ∈ P.2.2.2.2.2.1, rgB b := fun b hb => (h.1.ok.2.2.2.1 b hb).rg hSl
  have hu : z / 8 % S.2.2.length < S.2.2.length := Nat.mod_lt _ (by omega)
  have hx : isSp S ((z / 8 % S.2.2.length : Nat) : Int) := ⟨by omega, by omega⟩
  obtain ⟨-, q2, q3⟩ := X_transitOf h.1 hx
  have qt := Q_tt h.1 hx
  have self : AO S P (some W) := ⟨W, P, rfl, h, hm, by omega⟩
  have hact : AO S P (bd (fL_act W ((z / 8 : Nat) : Int)) (fun W26 => some W26)) := by
    obtain ⟨V', P', g1, g2⟩ := O_act h hm hmin (z := z / 8) (by omega)
    exact ⟨V', P', by rw [g1]; rfl, g2⟩
  have d8 : (nrm (z : Int)).tdiv (nrm 8) = ((z / 8 : Nat) : Int) := td_n (c := 8) (by omega) (by omega)
  have m8 : (nrm (z : Int)).tmod (nrm 8) = ((z % 8 : Nat) : Int) := tm_n (c := 8) (by omega) (by omega)
  have d64 : (nrm (z : Int)).tdiv (nrm 64) = ((z / 64 : Nat) : Int) := td_n (c := 64) (by omega) (by omega)
  have d128 : (nrm (z : Int)).tdiv (nrm 128) = ((z / 128 : Nat) : Int) := td_n (c := 128) (by omega) (by omega)
  have d15 : (nrm (z : Int)).tdiv (nrm 32768) = ((z / 32768 : Nat) : Int) := td_n (c := 32768) (by omega) (by omega)
  have d20 : (nrm (z : Int)).tdiv (nrm 1048576) = ((z / 1048576 : Nat) : Int) := td_n (c := 1048576) (by omega) (by omega)
  have ts : (nrm ((z / 8 : Nat) : Int)).tmod (nrm (S.2.2.length : Int)) = ((z / 8 % S.2.2.length : Nat) : Int) := tm_n (by omega) (by omega)
  have t2 : (nrm ((z / 64 : Nat) : Int)).tmod (nrm 2) = ((z / 64 % 2 : Nat) : Int) := tm_n (c := 2) (by omega) (by omega)
  have t140 : (nrm ((z / 128 : Nat) : Int)).tmod (nrm 140) = ((z / 128 % 140 : Nat) : Int) := tm_n (c := 140) (by omega) (by omega)
  have t30 : (nrm ((z / 32768 : Nat) : Int)).tmod (nrm 30) = ((z / 32768 % 30 : Nat) : Int) := tm_n (c := 30) (by omega) (by omega)
  have tb : (nrm ((z / 1048576 : Nat) : Int)).tmod (nrm (P.2.2.2.2.2.1.length : Int)) = ((z / 1048576 % P.2.2.2.2.2.1.length : Nat) : Int) := tm_n (by omega) (by omega)
  have u2 : nrm ((z / 64 % 2 : Nat) : Int) = ((z / 64 % 2 : Nat) : Int) := nr_n (by omega)
  have u8 : nrm ((z % 8 : Nat) : Int) = ((z % 8 : Nat) : Int) := nr_n (by omega)
  have u140 : nrm ((z / 128 % 140 : Nat) : Int) = ((z / 128 % 140 : Nat) : Int) := nr_n (by omega)
  have k4 : nrm 4 = 4 := by decide +kernel
  have k5 : nrm 5 = 5 := by decide +kernel
  have k8 : nrm 8 = 8 := by decide +kernel
  have k20 : nrm 20 = 20 := by decide +kernel
  have um : nrm P.2.1 = P.2.1 := nrm_of (by omega) (by omega)
  have ub : nrm (P.2.2.2.2.2.1.length : Int) = (P.2.2.2.2.2.1.length : Int) := nr_n (by omega)
  have ur : nrm (P.2.2.2.2.2.2.length : Int) = (P.2.2.2.2.2.2.length : Int) := nr_n (by omega)
  have w5 := w.1.2
  have w10 := w.2.1.2
  obtain ⟨y, hy, ey⟩ : ∃ y : Int, (y = 0 ∨ y = 1) ∧ (if ((z / 64 % 2 : Nat) : Int) = 0 then some (1 : Int) else some 0) = some y := by
    split
    · exact ⟨1, Or.inr rfl, rfl⟩
    · exact ⟨0, Or.inl rfl, rfl⟩
  obtain ⟨u, hu9⟩ : ∃ u : Int, u = ((z / 8 % S.2.2.length : Nat) : Int) := ⟨_, rfl⟩
  obtain ⟨fr, hfr⟩ : ∃ fr : Int, fr = ((z / 128 % 140 : Nat) : Int) := ⟨_, rfl⟩
  obtain ⟨to, hto⟩ : ∃ to : Int, to = ((z / 32768 % 30 : Nat) : Int) := ⟨_, rfl⟩
  have hfr9 : 0 ≤ fr ∧ fr ≤ 139 := by omega
  have hto9 : 0 ≤ to ∧ to ≤ 29 := by omega
  have ufr : nrm fr = fr := nrm_of (by omega) (by omega)
  rw [← hu9] at ts hx q2 q3 qt
  rw [← hfr] at t140 u140
  rw [← hto] at t30
  unfold fL_body
  rw [w1, bd_q, hag, bd_q, if_neg (by decide +kernel), ck_t (by decide +kernel), ck_t (by rw [nr_n (by omega)]; omega), ck_t (by decide +kernel), ck_t (by decide +kernel)]
  simp (config := { maxSteps := 10000000 }) only [d8, m8, d64, d128, d15, d20, ts, t2, t140, t30, u2, u8, ufr, w5, w10, tb]
  rw [ey, bd_q, ck_t (by decide +kernel), ck_t (by decide +kernel), ck_t (by decide +kernel), ck_t (by decide +kernel)]
  simp (config := { maxSteps := 10000000 }) only [ub, ur, n4, bd_q, um, k4, k5, k8, k20]
  by_cases c4 : (4 : Int) ≤ ((z % 8 : Nat) : Int)
  · rw [if_pos c4]
    by_cases e4 : ((z % 8 : Nat) : Int) = 4
    · have e5 : ¬ ((z % 8 : Nat) : Int) = 5 := by omega
      rw [if_pos e4]
      simp (config := { maxSteps := 10000000 }) only [e5, if_false]
      by_cases b0 : (P.2.2.2.2.2.1.length : Int) ≤ 0
      · rw [if_pos b0]; exact hact
      · have hi : z / 1048576 % P.2.2.2.2.2.1.length < P.2.2.2.2.2.1.length := Nat.mod_lt _ (by omega)
        obtain ⟨i, hi9⟩ : ∃ i, i = z / 1048576 % P.2.2.2.2.2.1.length := ⟨_, rfl⟩
        rw [← hi9] at hi tb ⊢
        obtain ⟨-, -, b⟩ := h.1.b hi
        obtain ⟨o1, o2, o3, o4, o5, o6, o7⟩ := b
        simp only at o4 o5
        rw [if_neg b0, ck_t (by decide +kernel), ck_t (by omega), (Q_bk h.1 hi).2.2.1, bd_q, nrm_of (z := W 56 i) (by omega) (by omega)]
        by_cases c5 : W 56 i ≤ P.2.1
        · rw [if_pos c5]; exact hact
        · rw [if_neg c5]
          obtain ⟨V1, r1, r2, r3⟩ := O_remove w (by omega) hbB hi
          have hok1 : okP S (remBP P i) := okP_remB h.1.ok i
          have hok2 : okP S (setC (remBP P i) (P.2.2.2.1 + 1)) := ⟨hok1.1, hok1.2.1, hok1.2.2.1, hok1.2.2.2.1, hok1.2.2.2.2.1, hok1.2.2.2.2.2⟩
          obtain ⟨V2, B2, s1, s2, s3, s4⟩ := O_process (P1 := setC (remBP P i) (P.2.2.2.1 + 1)) hS (h.1.up r2) ⟨rfl, rfl⟩ (List.Perm.refl _) hok2 r3
          have hV2 : CI V2 S P := (h.up r2).up s2
          obtain ⟨V3, v1, v2, v3⟩ := O_cancel hV2 hi (by rw [s2 56 (by omega), r2 56 (by omega)]; omega)
          have hm3 := mc_cancel (S := S) hi hm
          have hag3 := O_agrees v2.1 hm3 (s4.of v3) s3
          rw [r1, bd_q, s1, bd2_s, (Q_n hV2.1).1, bd_q, ck_t (by rw [ub]; omega), tb, v1, bd2_s]
          refine ⟨V3, (cancelP S P i).2, ?_, v2, hm3, ?_⟩
          · rw [if_pos (show nrm (cancelP S P i).1 = nrm (serveP S (setC (remBP P i) (P.2.2.2.1 + 1))).1 from rfl), hag3, bd_q, if_neg (by decide +kernel)]
          · have e9 : (cancelP S P i).2.2.1 = P.2.1 := (mi_serve (S := S) (P := setC (remBP P i) (P.2.2.2.1 + 1))).1
            omega
    · rw [if_neg e4]
      by_cases e5 : ((z % 8 : Nat) : Int) = 5
      · rw [if_pos e5]
        by_cases c1 : fr < P.2.1
        · rw [if_pos c1]; exact hact
        · rw [if_neg c1]
          by_cases c2 : 20 ≤ (P.2.2.2.2.2.1.length : Int)
          · rw [if_pos c2]; exact hact
          · rw [if_neg c2, qt, bd_q]
            have hfree := O_isFree h.1 w (by omega) hbB hy (s := fr) (e := fr + tr S P.1 u) (by omega) (by omega)
            have hc0 := cnf_0 (S := S) (y := y) (s := fr) (e := fr + tr S P.1 u) (l := P.2.2.2.2.2.1)
            rw [hfree, bd_q, Q_cc h.1 hx hy (by omega), bd_q, nrm_of (z := cnf S y fr (fr + tr S P.1 u) P.2.2.2.2.2.1) (by omega) (by omega)]
            by_cases c3 : ∀ b ∈ P.2.2.2.2.2.1, cf S b y fr (fr + tr S P.1 u) = false
            · rw [if_pos c3, if_pos (hc0.2.2.mpr c3), bd_q, if_pos rfl, bd_q, hfree, if_pos c3, bd_q, if_neg (by decide +kernel)]
              obtain ⟨V1, a1, a2, a3, a4, a5⟩ := O_add h.1 w (by omega) (x := u) (y := y) (s := fr) hx hy
              obtain ⟨V2, v1, v2, v3⟩ := O_book (h.up a2) hx hy (s := fr) (by omega) (bkC_of (by omega) (by omega) (hc0.2.2.mpr c3))
              have hm2 := mc_book (S := S) (x := u) (y := y) (s := fr) hm
              have hag2 := O_agrees v2.1 hm2 (a5.of v3) insB_perm.symm
              rw [a1, bd_q, v1, bd2_s]
              have qt2 : f5_transitTime V2 u = some (tr S P.1 u) := Q_tt v2.1 hx
              rw [qt2, bd_q, if_pos rfl, hag2, bd_q, if_neg (by decide +kernel)]
              exact ⟨V2, _, rfl, v2, hm2, by show P.2.1 ≤ _; omega⟩
            · rw [if_neg c3, if_neg (fun q => c3 (hc0.2.2.mp q)), bd_q, if_pos rfl, bd_q, hfree, if_neg c3, bd_q, if_pos (by decide +kernel)]
              exact self
      · rw [if_neg e5]; exact hact
  · rw [if_neg c4]
    have e4 : ¬ ((z % 8 : Nat) : Int) = 4 := by omega
    have e5 : ¬ ((z % 8 : Nat) : Int) = 5 := by omega
    by_cases cw : (8 : Int) ≤ (P.2.2.2.2.2.2.length : Int)
    · rw [if_pos cw, if_neg e4, if_neg e5]; exact hact
    · rw [if_neg cw]
      have hfd := O_find h.1 w (by omega) hbB hx hy (e := fr) (la := fr + to) (by omega) (by omega)
      have hst : sts S P u y fr (fr + to) = fnd S P.1 P.2.1 P.2.2.2.2.2.1 u y fr (fr + to) := sts_fnd
      have hfg := fnd_rg (S := S) (th := P.1) (mi := P.2.1) (B := P.2.2.2.2.2.1) (x := u) (y := y) (e := fr) (la := fr + to) hr.2.1.1 (by omega)
      rw [hfd, bd_q]
      rcases hfg with q | ⟨q, qn, qf⟩
      · -- none: the request waits
        rw [q, if_pos (by decide +kernel)]
        obtain ⟨V1, eV1⟩ : ∃ V1 : VV, V1 = up2 (pB W 153 P.2.2.2.2.2.2.length u y fr (fr + to)) 148 10 ((P.2.2.2.2.2.2.length : Int) + 1) := ⟨_, rfl⟩
        have k1 : ∀ k, k < 148 → V1 k = W k := fun k hk => by rw [eV1, up2_r (by omega), pB_k (by omega)]
        have hV1 : CI V1 S P := h.up k1
        have hw1 : OW V1 P.2.2.2.2.2.1 (P.2.2.2.2.2.2 ++ [(u, y, fr, fr + to)]) P.2.2.2.2.1 := by
          refine ⟨⟨?_, ?_⟩, ⟨?_, ?_⟩, ?_⟩
          · refine Eq.trans (vw_congr (fun i _ => ?_)) w.1.1
            unfold col
            rw [eV1, up2_r (by omega), up2_r (by omega), up2_r (by omega), up2_r (by omega), pB_k (by omega), pB_k (by omega), pB_k (by omega), pB_k (by omega)]
            exact ⟨rfl, rfl, rfl, rfl⟩
          · rw [eV1, up2_n (by omega), pB_k (by omega)]
            exact w5
          · rw [List.length_append]
            show vw (col _ 153) (P.2.2.2.2.2.2.length + 1) = _
            rw [vw_add (F := col W 153) (b := (u, y, fr, fr + to)) (fun i hi => ?_) ?_, w.2.1.1]
            · unfold col
              rw [eV1]
              refine ⟨?_, ?_, ?_, ?_⟩ <;> rw [up2_r (by omega)]
              · exact pB_0
              · exact pB_1
              · exact pB_2
              · exact pB_3
            · unfold col
              rw [eV1]
              refine ⟨?_, ?_, ?_, ?_⟩ <;> rw [up2_r (by omega), pB_n (by omega)]
          · rw [eV1, up2_s, List.length_append]
            rfl
          · rw [eV1, up2_n (by omega), pB_k (by omega)]
            exact w.2.2
        obtain ⟨V2, v1, v2, v3⟩ := O_request hV1 hx hy (e := fr) (la := fr + to) ⟨⟨by omega, by omega⟩, ⟨by omega, by omega⟩⟩ (Or.inl (by omega))
        have hre : reqP S P u y fr (fr + to) = (-1, (P.1, P.2.1, P.2.2.1, P.2.2.2.1, P.2.2.2.2.1, P.2.2.2.2.2.1, P.2.2.2.2.2.2 ++ [(u, y, fr, fr + to)])) := by
          unfold reqP
          rw [hst, q, if_pos rfl]
        rw [hre] at v1 v2
        have hag2 := O_agrees v2.1 hm (hw1.of v3) (List.Perm.refl _)
        have g1 : ∀ (X : VV) (i : Nat) (t : Int), up2 X 153 i t 148 10 = X 148 10 := fun _ _ _ => up2_n (by omega)
        have g2 : ∀ (X : VV) (i : Nat) (t : Int), up2 X 154 i t 148 10 = X 148 10 := fun _ _ _ => up2_n (by omega)
        have g3 : ∀ (X : VV) (i : Nat) (t : Int), up2 X 155 i t 148 10 = X 148 10 := fun _ _ _ => up2_n (by omega)
        have g4 : ∀ (X : VV) (i : Nat) (t : Int), up2 X 156 i t 148 10 = X 148 10 := fun _ _ _ => up2_n (by omega)
        simp only [g1, g2, g3, g4, w10, Int.toNat_natCast]
        rw [ck_t (by omega), ck_t (by omega), ck_t hy, ck_t (by omega), ck_t (by omega), bd_q]
        unfold pB at eV1
        rw [← eV1, v1, bd2_s]
        rw [if_pos rfl, hag2, bd_q, if_neg (by decide +kernel)]
        exact ⟨V2, _, rfl, v2, hm, by show P.2.1 ≤ _; omega⟩
      · -- a start: the passage is made
        obtain ⟨s, hs9⟩ : ∃ s, s = fnd S P.1 P.2.1 P.2.2.2.2.2.1 u y fr (fr + to) := ⟨_, rfl⟩
        rw [← hs9] at q qf hst ⊢
        rw [nrm_of (z := s) (by omega) (by omega), if_neg (by omega)]
        obtain ⟨V1, a1, a2, a3, a4, a5⟩ := O_add h.1 w (by omega) (x := u) (y := y) (s := s) hx hy
        have hV1 : CI V1 S P := h.up a2
        obtain ⟨V2, v1, v2, v3⟩ := O_request hV1 hx hy (e := fr) (la := fr + to) ⟨⟨by omega, by omega⟩, ⟨by omega, by omega⟩⟩ (Or.inl (by omega))
        have hre : reqP S P u y fr (fr + to) = (s, bookP S P u y s) := by
          unfold reqP
          rw [hst, if_neg (by omega)]
        rw [hre] at v1 v2
        have hm2 := mc_book (S := S) (x := u) (y := y) (s := s) hm
        have hag2 := O_agrees v2.1 hm2 (a5.of v3) insB_perm.symm
        rw [a1, bd_q, bd_q, v1, bd2_s]
        have us : nrm s = s := nrm_of (by omega) (by omega)
        rw [if_pos (show nrm s = s from us), hag2, bd_q, if_neg (by decide +kernel)]
        exact ⟨V2, _, rfl, v2, hm2, by show P.2.1 ≤ _; omega⟩
