/-! undo, saved states, what a cancellation would serve -/
theorem cod_ok {l : List String} {r : Int} : cod l (.ok r) = 0 := rfl
theorem op_undo : Op1 [eS] (fun V => f5_undo V) (fun V => f6_undo V) := by
  intro V S P h
  have hS := h.ck.2.2.2.1
  obtain ⟨⟨p1, p2⟩, p3, ⟨p4, p5⟩, p6⟩ := h.2.2.2.1
  by_cases c : V 0 8 ≤ 0
  · have c0 : V 148 2 = 0 := by omega
    refine ⟨.error eS, V, 0, up2 V 148 9 1, ?_, ?_, (up2_s _ _ _ _).trans cod_1.symm, fun r hr => ner hr, S, P, h.thr 1⟩
    · show f5_undo V = _
      unfold f5_undo
      simp (disch := omega) only [nrm_of]
      rw [if_pos c]
      simp only [bd_s, i00, n00, if_true]
    · show f6_undo V = _
      unfold f6_undo
      rw [c0]
      simp only [n00, if_true, bd_s]
      rw [M_fails1 (Or.inl rfl) (Or.inl rfl)]
      simp only [bd2_s, n10, if_false]
  · obtain ⟨n, hn⟩ : ∃ n : Nat, V 0 8 = (n : Int) := ⟨(V 0 8).toNat, by omega⟩
    obtain ⟨L, hL⟩ : ∃ L : Nat, V 0 7 = (L : Int) := ⟨(V 0 7).toNat, by omega⟩
    obtain ⟨Q, q1, q2, q3, q4⟩ := p6 0 (by omega)
    rw [hn, Int.toNat_natCast, Nat.sub_zero] at q3 q4
    rw [hL, Int.toNat_natCast] at q2
    have hpx : pix L 0 = L := by unfold pix; rw [if_pos (by omega)]; omega
    rw [hpx] at q2
    obtain ⟨W, g1, g2, g3⟩ := X_copyP (V := V) (p := 0) (q := L + 2) (by omega) (by omega) (by omega) q2 q1
    rw [aP0] at g2 g3
    have w0 : W 0 = V 0 := g2 0 (by omega)
    obtain ⟨M, hM⟩ : ∃ M : Nat, (if L = 0 then (5 : Int) else (L : Int) - 1) = (M : Int) := by
      by_cases z : L = 0
      · exact ⟨5, by rw [if_pos z]; rfl⟩
      · exact ⟨L - 1, by rw [if_neg z]; omega⟩
    have hM2 : M = if L = 0 then 5 else L - 1 := by split at hM <;> split <;> omega
    have hV1 : f5_undo V = some (.ok ((n : Int) - 1), up2 (up2 W 0 7 (M : Int)) 0 8 ((n : Int) - 1)) := by
      unfold f5_undo
      have e7 : (if nrm (W 0 7) = 0 then some (5 : Int) else some (W 0 7 - 1)) = some (M : Int) := by
        rw [w0, hL, nrm_of (by omega) (by omega), ← hM]
        by_cases z : L = 0
        · rw [if_pos (by omega), if_pos z]
        · rw [if_neg (by omega), if_neg z]
      simp (disch := omega) only [nrm_of, hn]
      rw [if_neg (by omega)]
      simp only [bd_s, i10, n10, if_false]
      rw [ck_t (by omega), hL, Int.toNat_natCast, g1]
      simp (disch := omega) only [bd_s, up2_s]
      rw [nrm_of (by rw [w0]; omega) (by rw [w0]; omega)] at e7
      rw [show (if nrm (W 0 7) = 0 then some (5 : Int) else some (W 0 7 - 1)) = some (M : Int) by rw [nrm_of (by rw [w0]; omega) (by rw [w0]; omega)]; exact e7]
      simp only [bd_s, up2_s]
      rw [show (up2 W 0 7 (M : Int)) 0 8 = (n : Int) by rw [up2_n (by omega), w0, hn]]
    obtain ⟨V1, eV1⟩ : ∃ V1 : VV, V1 = up2 (up2 W 0 7 (M : Int)) 0 8 ((n : Int) - 1) := ⟨_, rfl⟩
    rw [← eV1] at hV1
    have v0 : ∀ i, i ≠ 7 → i ≠ 8 → V1 0 i = V 0 i := fun i i1 i2 => by rw [eV1, up2_n (by omega), up2_n (by omega), w0]
    have v7 : V1 0 7 = (M : Int) := by rw [eV1, up2_n (by omega), up2_s]
    have v8 : V1 0 8 = (n : Int) - 1 := by rw [eV1, up2_s]
    have vk : ∀ k, k ≠ 0 → ¬ (53 ≤ k ∧ k < 62) → V1 k = V k := fun k k1 k2 => by rw [eV1, up2_r k1, up2_r k1, g2 k (by omega)]
    have vr : rpC V1 53 Q := rpC_of g3 (fun k k1 k2 => by rw [eV1, up2_r (by omega), up2_r (by omega)])
    obtain ⟨W2, m1, m2, m3⟩ := M_copyBlock (V := up2 V1 148 9 0) (x := (n : Int)) (y := 0) (a := n) (b := 0) rfl rfl (by omega) (by omega) (by omega)
    have u2 : (up2 V1 148 9 0) 148 2 = (n : Int) := by rw [up2_n (by omega), vk 148 (by omega) (by omega), ← p3, hn]
    have w2 : W2 148 2 = (n : Int) := by rw [m2 148 (by omega), u2]
    have b149 : ∀ t, (up2 V1 148 9 0) 149 t = V 149 t := fun t => by rw [up2_r (by omega), vk 149 (by omega) (by omega)]
    have hV2 : f6_undo V1 = some ((n : Int) - 1, up2 W2 148 2 ((n : Int) - 1)) := by
      unfold f6_undo
      rw [show V1 148 2 = (n : Int) by rw [vk 148 (by omega) (by omega), ← p3, hn], nrm_of (by omega) (by omega), if_neg (by omega)]
      simp only [bd_s]
      rw [M_fails0]
      simp only [bd2_s, n00, if_true]
      rw [u2, m1]
      simp only [bd_s, up2_s, w2]
    have he : ∀ t, t < 230 → up2 W2 148 2 ((n : Int) - 1) 149 (0 + t) = V 149 (230 * n + t) := fun t ht => by
      rw [up2_r (by omega), m3, if_pos (by omega), b149]
      exact at149 (by omega)
    have hn6 : 1 ≤ n ∧ n ≤ 6 := by omega
    have x148 : ∀ i, i ≠ 2 → i ≠ 9 → up2 W2 148 2 ((n : Int) - 1) 148 i = V 148 i := fun i i1 i2 => by rw [up2_n (by omega), m2 148 (by omega), up2_n (by omega), vk 148 (by omega) (by omega)]
    have xk : ∀ k, k ≠ 148 → k ≠ 149 → up2 W2 148 2 ((n : Int) - 1) k = V1 k := fun k k1 k2 => by rw [up2_r k1, m2 k k2, up2_r k1]
    have xt : ∀ t, 230 ≤ t → up2 W2 148 2 ((n : Int) - 1) 149 t = V 149 t := fun t ht => by rw [up2_r (by omega), m3, if_neg (by omega), b149]
    refine ⟨.ok ((n : Int) - 1), V1, _, _, hV1, hV2, by rw [up2_n (by omega), m2 148 (by omega), up2_s]; rfl, fun r hr => okr hr rfl, S, Q, ?_, ?_, ?_, ?_, ?_, ?_, ?_⟩
    · refine ⟨rpC_of vr (fun k k1 k2 => xk k (by omega) (by omega)), ?_, ?_, hS, q1⟩
      · rw [xk 0 (by omega) (by omega), v0 2 (by omega) (by omega)]
        have hq := h.ck.2.2.1
        exact rpS_of hS h.ck.2.1 (fun k k1 k2 => by rw [xk k (by unfold aS at k2; omega) (by unfold aS at k2; omega), vk k (by unfold aS at k1; omega) (by unfold aS at k2; omega)])
      · rw [xk 0 (by omega) (by omega), v0 2 (by omega) (by omega)]
        exact h.ck.2.2.1
    · exact ⟨rpM_cp q3 q1.rg.2.2.1 q1.rg.2.2.2 he, rpN_cp q4 hS he, hS, q1⟩
    · rw [xk 0 (by omega) (by omega), v0 2 (by omega) (by omega), v0 3 (by omega) (by omega)]
      exact h.2.2.1
    · unfold RPast
      rw [xk 0 (by omega) (by omega), v7, v8, up2_s]
      refine ⟨by rw [hM2]; split <;> omega, rfl, by omega, fun k hk => ?_⟩
      have hpx2 : pix M k = pix L (k + 1) ∧ pix L (k + 1) < 6 := by
        unfold pix
        rw [hM2]
        by_cases z : L = 0
        · rw [if_pos z, if_pos (by omega), if_neg (by omega)]
          omega
        · rw [if_neg z]
          split <;> split <;> omega
      have h9 := p6 (k + 1) (by omega)
      rw [hL, hn, Int.toNat_natCast, Int.toNat_natCast] at h9
      rw [Int.toNat_natCast]
      refine kpt_cp h9 hS (by rw [hpx2.1]) (fun c c1 c2 => ?_) (fun t ht => ?_)
      · rw [aPq (by omega)] at c1 c2
        rw [xk c (by omega) (by omega), vk c (by omega) (by omega)]
      · rw [show ((n : Int) - 1).toNat - k = n - (k + 1) by omega, xt _ (by omega)]
    · exact h.2.2.2.2.1.of hS (by rw [xk 73 (by omega) (by omega), vk 73 (by omega) (by omega)]) (by rw [xk 150 (by omega) (by omega), vk 150 (by omega) (by omega)]) (fun c k1 k2 => by rw [xk c (by omega) (by omega), vk c (by omega) (by omega)]) (fun t t1 t2 => xt t (by omega))
    · exact h.2.2.2.2.2.1.of (by rw [xk 1 (by omega) (by omega), vk 1 (by omega) (by omega)]) (by rw [xk 2 (by omega) (by omega), vk 2 (by omega) (by omega)]) (x148 4 (by omega) (by omega)) (x148 5 (by omega) (by omega)) (x148 6 (by omega) (by omega)) (by rw [xk 151 (by omega) (by omega), vk 151 (by omega) (by omega)])
    · exact h.2.2.2.2.2.2.of (by rw [xk 0 (by omega) (by omega), v0 13 (by omega) (by omega)]) (by rw [xk 75 (by omega) (by omega), vk 75 (by omega) (by omega)]) (x148 8 (by omega) (by omega)) (by rw [xk 152 (by omega) (by omega), vk 152 (by omega) (by omega)])
theorem op_save {x : Int} (hx : rgI x) : Op1 [eI] (fun V => f5_save V x) (fun V => f6_save V x) := by
  intro V S P h
  have hS := h.ck.2.2.2.1
  have hp := h.ck.pl
  have hr := h.ck.ok.rg
  by_cases c : 0 ≤ x ∧ x < 2
  · obtain ⟨i, rfl⟩ : ∃ i : Nat, x = (i : Int) := ⟨x.toNat, by omega⟩
    have hi : i < 2 := by omega
    obtain ⟨W, g1, g2, g3⟩ := X_copyP (V := V) (p := i + 8) (q := 0) (by omega) (by omega) (by omega) h.ck.1 h.ck.ok
    rw [aPq (by omega)] at g2
    obtain ⟨V1, eV1⟩ : ∃ V1 : VV, V1 = up2 W 73 i 1 := ⟨_, rfl⟩
    have v53 : V1 53 = V 53 := by rw [eV1, up2_r (by omega), g2 53 (by omega)]
    have vk : ∀ k, k ≠ 73 → ¬ (58 + 9 * (i + 8) ≤ k ∧ k < 58 + 9 * (i + 8) + 9) → V1 k = V k := fun k k1 k2 => by rw [eV1, up2_r k1, g2 k k2]
    have hV1 : f5_save V (i : Int) = some (.ok (P.2.2.2.2.2.1.length : Int), V1) := by
      unfold f5_save
      rw [X_isNumberBelow hx (by constructor <;> omega), if_pos c]
      simp only [bd_s, n10, if_false]
      rw [ck_t c, Int.toNat_natCast, g1]
      simp only [bd_s]
      rw [← eV1, aP0, v53, hp.2.2.2.2.2.1]
    obtain ⟨W2, m1, m2, m3⟩ := M_copyBlock (V := up2 V1 148 9 0) (x := 0) (y := 7 + (i : Int)) (a := 0) (b := 7 + i) rfl (by omega) (by omega) (by omega) (by omega)
    have b149 : ∀ t, (up2 V1 148 9 0) 149 t = V 149 t := fun t => by rw [up2_r (by omega), vk 149 (by omega) (by omega)]
    obtain ⟨V2, eV2⟩ : ∃ V2 : VV, V2 = up2 W2 150 i 1 := ⟨_, rfl⟩
    have xk : ∀ k, k ≠ 148 → k ≠ 149 → k ≠ 150 → V2 k = V1 k := fun k k1 k2 k3 => by rw [eV2, up2_r k3, m2 k k2, up2_r k1]
    have x148 : ∀ i, i ≠ 9 → V2 148 i = V 148 i := fun i i1 => by rw [eV2, up2_r (by omega), m2 148 (by omega), up2_n (by omega), vk 148 (by omega) (by omega)]
    have xt : ∀ t, t < 230 * (7 + i) ∨ 230 * (7 + i) + 230 ≤ t → V2 149 t = V 149 t := fun t ht => by rw [eV2, up2_r (by omega), m3, if_neg (by omega), b149]
    have he : ∀ t, t < 230 → V2 149 (230 * (7 + i) + t) = V 149 (0 + t) := fun t ht => by
      rw [eV2, up2_r (by omega), m3, if_pos (by omega), b149]
      exact at149 (by omega)
    have e0 : ∀ t, t < 230 → V2 149 (0 + t) = V 149 (0 + t) := fun t ht => xt _ (by omega)
    have hmk : MK V2 S P := ⟨rpM_cp h.mk.1 hr.2.2.1 hr.2.2.2 e0, rpN_cp h.mk.2.1 hS e0, hS, h.ck.ok⟩
    have hV2 : f6_save V1 (i : Int) = some ((P.2.2.2.2.2.1.length : Int), V2) := by
      unfold f6_save
      rw [M_in hx (by constructor <;> omega) (by constructor <;> omega), if_pos (by omega)]
      simp only [bd_s, n10, if_false]
      rw [M_fails0]
      simp only [bd2_s, n00, if_true]
      rw [m1]
      simp only [bd_s]
      rw [ck_t c, Int.toNat_natCast, ← eV2, hmk.pl.2.2.2.2.2.1]
    refine ⟨_, V1, _, V2, hV1, hV2, by rw [eV2, up2_r (by omega), m2 148 (by omega), up2_s]; rfl, fun r hr => okr hr rfl, S, P, ?_, hmk, ?_, ?_, ?_, ?_, ?_⟩
    · exact h.ck.of (by rw [xk 0 (by omega) (by omega) (by omega), vk 0 (by omega) (by omega)]) (fun k k1 k2 => by rw [xk k (by omega) (by omega) (by omega), vk k (by omega) (by omega)])
    · rw [xk 0 (by omega) (by omega) (by omega), vk 0 (by omega) (by omega)]
      exact h.2.2.1
    · have e00 : V2 0 = V 0 := by rw [xk 0 (by omega) (by omega) (by omega), vk 0 (by omega) (by omega)]
      exact h.2.2.2.1.of hS (by rw [e00]) (by rw [e00]) (x148 2 (by omega)) (fun c c1 c2 => by rw [xk c (by omega) (by omega) (by omega), vk c (by omega) (by omega)]) (fun t t1 t2 => xt t (by omega))
    · intro s hs
      have e73 : V2 73 = up2 V 73 i 1 73 := by
        rw [xk 73 (by omega) (by omega) (by omega), eV1]
        funext t
        unfold up2
        rw [if_pos rfl, if_pos rfl, g2 73 (by omega)]
      have e150 : V2 150 = up2 V 150 i 1 150 := by
        rw [eV2]
        funext t
        unfold up2
        rw [if_pos rfl, if_pos rfl, m2 150 (by omega), up2_r (by omega), vk 150 (by omega) (by omega)]
      rw [e73, e150]
      by_cases z : s = i
      · subst z
        rw [up2_s, up2_s]
        refine ⟨rfl, Or.inr ⟨rfl, P, h.ck.ok, rpC_of g3 (fun c c1 c2 => ?_), rpM_cp h.mk.1 hr.2.2.1 hr.2.2.2 he, rpN_cp h.mk.2.1 hS he⟩⟩
        rw [aPq (by omega)] at c1 c2
        rw [xk c (by omega) (by omega) (by omega), eV1, up2_r (by omega)]
      · rw [up2_n (by omega), up2_n (by omega)]
        refine ⟨(h.2.2.2.2.1 s hs).1, ?_⟩
        rcases (h.2.2.2.2.1 s hs).2 with q | ⟨q, q2⟩
        · exact Or.inl q
        · refine Or.inr ⟨q, kpt_cp q2 hS rfl (fun c c1 c2 => ?_) (fun t ht => xt _ (by omega))⟩
          rw [aPq (by omega)] at c1 c2
          rw [xk c (by omega) (by omega) (by omega), vk c (by omega) (by omega)]
    · exact h.2.2.2.2.2.1.of (by rw [xk 1 (by omega) (by omega) (by omega), vk 1 (by omega) (by omega)]) (by rw [xk 2 (by omega) (by omega) (by omega), vk 2 (by omega) (by omega)]) (x148 4 (by omega)) (x148 5 (by omega)) (x148 6 (by omega)) (by rw [xk 151 (by omega) (by omega) (by omega), vk 151 (by omega) (by omega)])
    · exact h.2.2.2.2.2.2.of (by rw [xk 0 (by omega) (by omega) (by omega), vk 0 (by omega) (by omega)]) (by rw [xk 75 (by omega) (by omega) (by omega), vk 75 (by omega) (by omega)]) (x148 8 (by omega)) (by rw [xk 152 (by omega) (by omega) (by omega), vk 152 (by omega) (by omega)])
  · refine ⟨.error eI, V, 0, up2 V 148 9 1, ?_, ?_, (up2_s _ _ _ _).trans cod_1.symm, fun r hr => ner hr, S, P, h.thr 1⟩
    · show f5_save V x = _
      unfold f5_save
      rw [X_isNumberBelow hx (by constructor <;> omega), if_neg c]
      simp only [bd_s, n00, if_true]
    · show f6_save V x = _
      unfold f6_save
      rw [M_in hx (by constructor <;> omega) (by constructor <;> omega), if_neg (by omega)]
      simp only [bd_s, n00, if_true]
      rw [M_fails1 (Or.inl rfl) (Or.inl rfl)]
      simp only [bd2_s, n10, if_false]
theorem op_restore {x : Int} (hx : rgI x) : Op1 [eI, eS] (fun V => f5_restore V x) (fun V => f6_restore V x) := by
  intro V S P h
  have hS := h.ck.2.2.2.1
  by_cases c : 0 ≤ x ∧ x < 2
  · obtain ⟨i, rfl⟩ : ∃ i : Nat, x = (i : Int) := ⟨x.toNat, by omega⟩
    have hi : i < 2 := by omega
    obtain ⟨s1, s2⟩ := h.2.2.2.2.1 i hi
    rcases s2 with z | ⟨z, Q, q1, q2, q3, q4⟩
    · refine ⟨.error eS, V, 0, up2 V 148 9 2, ?_, ?_, (up2_s _ _ _ _).trans (cod_2 eIS).symm, fun r hr => ner hr, S, P, h.thr 2⟩
      · show f5_restore V (i : Int) = _
        unfold f5_restore
        rw [X_isNumberBelow hx (by constructor <;> omega), if_pos c]
        simp only [bd_s, n10, if_false]
        rw [ck_t c, Int.toNat_natCast, z]
        simp only [n00, if_true]
      · show f6_restore V (i : Int) = _
        unfold f6_restore
        rw [M_in hx (by constructor <;> omega) (by constructor <;> omega), if_pos (by omega)]
        simp only [bd_s, n10, if_false]
        rw [ck_t c, Int.toNat_natCast, ← s1, z]
        simp only [n00, if_true, bd_s]
        rw [M_fails2 (Or.inl rfl)]
        simp only [bd2_s, n10, if_false]
    · obtain ⟨W, g1, g2, g3⟩ := X_copyP (V := V) (p := 0) (q := i + 8) (by omega) (by omega) (by omega) q2 q1
      rw [aP0] at g2 g3
      obtain ⟨V1, eV1⟩ : ∃ V1 : VV, V1 = up2 W 0 8 0 := ⟨_, rfl⟩
      have vk : ∀ k, k ≠ 0 → ¬ (53 ≤ k ∧ k < 62) → V1 k = V k := fun k k1 k2 => by rw [eV1, up2_r k1, g2 k k2]
      have v0 : ∀ i, i ≠ 8 → V1 0 i = V 0 i := fun i i2 => by rw [eV1, up2_n (by omega), g2 0 (by omega)]
      have vr : rpC V1 53 Q := rpC_of g3 (fun k k1 k2 => by rw [eV1, up2_r (by omega)])
      have hV1 : f5_restore V (i : Int) = some (.ok (Q.2.2.2.2.2.1.length : Int), V1) := by
        unfold f5_restore
        rw [X_isNumberBelow hx (by constructor <;> omega), if_pos c]
        simp only [bd_s, n10, if_false]
        rw [ck_t c, Int.toNat_natCast, z]
        simp only [n10, if_false]
        rw [g1]
        simp only [bd_s]
        rw [← eV1, aP0, vr.2.1]
      obtain ⟨W2, m1, m2, m3⟩ := M_copyBlock (V := up2 V1 148 9 0) (x := 7 + (i : Int)) (y := 0) (a := 7 + i) (b := 0) (by omega) rfl (by omega) (by omega) (by omega)
      have b149 : ∀ t, (up2 V1 148 9 0) 149 t = V 149 t := fun t => by rw [up2_r (by omega), vk 149 (by omega) (by omega)]
      obtain ⟨V2, eV2⟩ : ∃ V2 : VV, V2 = up2 W2 148 2 0 := ⟨_, rfl⟩
      have xk : ∀ k, k ≠ 148 → k ≠ 149 → V2 k = V1 k := fun k k1 k2 => by rw [eV2, up2_r k1, m2 k k2, up2_r k1]
      have x148 : ∀ i, i ≠ 2 → i ≠ 9 → V2 148 i = V 148 i := fun i i0 i1 => by rw [eV2, up2_n (by omega), m2 148 (by omega), up2_n (by omega), vk 148 (by omega) (by omega)]
      have xt : ∀ t, 230 ≤ t → V2 149 t = V 149 t := fun t ht => by rw [eV2, up2_r (by omega), m3, if_neg (by omega), b149]
      have he : ∀ t, t < 230 → V2 149 (0 + t) = V 149 (230 * (7 + i) + t) := fun t ht => by
        rw [eV2, up2_r (by omega), m3, if_pos (by omega), b149]
        exact at149 (by omega)
      have hmk : MK V2 S Q := ⟨rpM_cp q3 q1.rg.2.2.1 q1.rg.2.2.2 he, rpN_cp q4 hS he, hS, q1⟩
      have hV2 : f6_restore V1 (i : Int) = some ((Q.2.2.2.2.2.1.length : Int), V2) := by
        unfold f6_restore
        rw [M_in hx (by constructor <;> omega) (by constructor <;> omega), if_pos (by omega)]
        simp only [bd_s, n10, if_false]
        rw [ck_t c, Int.toNat_natCast, vk 150 (by omega) (by omega), ← s1, z]
        simp only [n10, if_false, bd_s]
        rw [M_fails0]
        simp only [bd2_s, n00, if_true]
        rw [m1]
        simp only [bd_s]
        rw [← eV2, hmk.pl.2.2.2.2.2.1]
      refine ⟨_, V1, _, V2, hV1, hV2, by rw [eV2, up2_n (by omega), m2 148 (by omega), up2_s]; rfl, fun r hr => okr hr rfl, S, Q, ?_, hmk, ?_, ?_, ?_, ?_, ?_⟩
      · refine ⟨rpC_of vr (fun k k1 k2 => xk k (by omega) (by omega)), ?_, ?_, hS, q1⟩
        · rw [xk 0 (by omega) (by omega), v0 2 (by omega)]
          have hq := h.ck.2.2.1
          exact rpS_of hS h.ck.2.1 (fun k k1 k2 => by rw [xk k (by unfold aS at k2; omega) (by unfold aS at k2; omega), vk k (by unfold aS at k1; omega) (by unfold aS at k2; omega)])
        · rw [xk 0 (by omega) (by omega), v0 2 (by omega)]
          exact h.ck.2.2.1
      · rw [xk 0 (by omega) (by omega), v0 2 (by omega), v0 3 (by omega)]
        exact h.2.2.1
      · obtain ⟨p1, -, -, -⟩ := h.2.2.2.1
        unfold RPast
        rw [xk 0 (by omega) (by omega), v0 7 (by omega), show V1 0 8 = 0 by rw [eV1, up2_s], show V2 148 2 = 0 by rw [eV2, up2_s]]
        exact ⟨p1, rfl, by omega, fun k hk => absurd hk (by omega)⟩
      · exact h.2.2.2.2.1.of hS (by rw [xk 73 (by omega) (by omega), vk 73 (by omega) (by omega)]) (by rw [xk 150 (by omega) (by omega), vk 150 (by omega) (by omega)]) (fun c k1 k2 => by rw [xk c (by omega) (by omega), vk c (by omega) (by omega)]) (fun t t1 t2 => xt t (by omega))
      · exact h.2.2.2.2.2.1.of (by rw [xk 1 (by omega) (by omega), vk 1 (by omega) (by omega)]) (by rw [xk 2 (by omega) (by omega), vk 2 (by omega) (by omega)]) (x148 4 (by omega) (by omega)) (x148 5 (by omega) (by omega)) (x148 6 (by omega) (by omega)) (by rw [xk 151 (by omega) (by omega), vk 151 (by omega) (by omega)])
      · exact h.2.2.2.2.2.2.of (by rw [xk 0 (by omega) (by omega), v0 13 (by omega)]) (by rw [xk 75 (by omega) (by omega), vk 75 (by omega) (by omega)]) (x148 8 (by omega) (by omega)) (by rw [xk 152 (by omega) (by omega), vk 152 (by omega) (by omega)])
  · refine ⟨.error eI, V, 0, up2 V 148 9 1, ?_, ?_, (up2_s _ _ _ _).trans cod_1.symm, fun r hr => ner hr, S, P, h.thr 1⟩
    · show f5_restore V x = _
      unfold f5_restore
      rw [X_isNumberBelow hx (by constructor <;> omega), if_neg c]
      simp only [bd_s, n00, if_true]
    · show f6_restore V x = _
      unfold f6_restore
      rw [M_in hx (by constructor <;> omega) (by constructor <;> omega), if_neg (by omega)]
      simp only [bd_s, n00, if_true]
      rw [M_fails1 (Or.inl rfl) (Or.inl rfl)]
      simp only [bd2_s, n10, if_false]
theorem RV.upd {V V2 : VV} {S : Su} {P P' : Pl} (h : RV V S P) (hc : CK V2 S P') (hk : MK V2 S P') (e0 : V2 0 = V 0) (ec : ∀ k, k ≠ 0 → k < 148 → ¬ (53 ≤ k ∧ k < 71) → V2 k = V k) (e148 : ∀ i, i ≠ 9 → V2 148 i = V 148 i) (et : ∀ t, 230 ≤ t → t < 2070 → V2 149 t = V 149 t) (eg : ∀ k, 150 ≤ k → V2 k = V k) : RV V2 S P' := by
  have hS := h.ck.2.2.2.1
  refine ⟨hc, hk, by rw [e0]; exact h.2.2.1, ?_, ?_, ?_, ?_⟩
  · exact h.2.2.2.1.of hS (by rw [e0]) (by rw [e0]) (e148 2 (by omega)) (fun c c1 c2 => ec c (by omega) (by omega) (by omega)) (fun t t1 t2 => et t t1 (by omega))
  · exact h.2.2.2.2.1.of hS (ec 73 (by omega) (by omega) (by omega)) (eg 150 (by omega)) (fun c c1 c2 => ec c (by omega) (by omega) (by omega)) (fun t t1 t2 => et t (by omega) t2)
  · exact h.2.2.2.2.2.1.of (ec 1 (by omega) (by omega) (by omega)) (ec 2 (by omega) (by omega) (by omega)) (e148 4 (by omega)) (e148 5 (by omega)) (e148 6 (by omega)) (eg 151 (by omega))
  · exact h.2.2.2.2.2.2.of (by rw [e0]) (ec 75 (by omega) (by omega) (by omega)) (e148 8 (by omega)) (eg 152 (by omega))
theorem op_servedWithout {x : Int} (hx : rgI x) : Op1 [eI] (fun V => f5_servedWithout V x) (fun V => f6_servedWithout V x) := by
  intro V S P h
  have hS := h.ck.2.2.2.1
  have hr := h.ck.ok.rg
  by_cases c : isBk P x
  · obtain ⟨i, rfl⟩ : ∃ i : Nat, x = (i : Int) := ⟨x.toNat, by omega⟩
    have hi : i < P.2.2.2.2.2.1.length := by omega
    obtain ⟨W, g1, g2, g3⟩ := X_copyP (V := V) (p := 1) (q := 0) (by omega) (by omega) (by omega) h.ck.1 h.ck.ok
    have a1 : aP 1 = 62 := rfl
    rw [a1] at g2 g3
    have wc : CK W S P := h.ck.of (by rw [g2 0 (by omega)]) (fun k k1 k2 => g2 k (by omega))
    obtain ⟨W3, k1, k2, k3⟩ := X_cancelNow wc hi
    have r3 : rpC W3 (aP 1) P := rpC_of g3 (fun k q1 q2 => k2 k (by omega))
    obtain ⟨V1, v1, v2, v3⟩ := X_copyP (V := W3) (p := 0) (q := 1) (by omega) (by omega) (by omega) r3 h.ck.ok
    rw [aP0] at v2 v3
    have vk : ∀ k, ¬ (53 ≤ k ∧ k < 71) → V1 k = V k := fun k q => by rw [v2 k (by omega), k2 k (by omega), g2 k (by omega)]
    have hV1 : f5_servedWithout V (i : Int) = some (.ok (cancelP S P i).1, V1) := by
      unfold f5_servedWithout
      rw [X_isBooking h.ck hx, if_pos c]
      simp only [bd_s, n10, if_false]
      rw [g1, bd_s, k1, bd2_s, v1, bd_s]
    obtain ⟨W2, m1, m2, m3⟩ := M_copyBlock (V := up2 V1 148 9 0) (x := 0) (y := 9) (a := 0) (b := 9) rfl rfl (by omega) (by omega) (by omega)
    have b149 : ∀ t, (up2 V1 148 9 0) 149 t = V 149 t := fun t => by rw [up2_r (by omega), vk 149 (by omega)]
    have hmk1 : MK W2 S P := by
      have he : ∀ t, t < 230 → W2 149 (0 + t) = V 149 (0 + t) := fun t ht => by rw [m3, if_neg (by omega), b149]
      exact ⟨rpM_cp h.mk.1 hr.2.2.1 hr.2.2.2 he, rpN_cp h.mk.2.1 hS he, hS, h.ck.ok⟩
    obtain ⟨W4, n1, n2, n3⟩ := M_cancelIt hmk1 hi
    obtain ⟨V2, o1, o2, o3⟩ := M_copyBlock (V := W4) (x := 9) (y := 0) (a := 9) (b := 0) rfl rfl (by omega) (by omega) (by omega)
    have he : ∀ t, t < 230 → V2 149 (0 + t) = V 149 (0 + t) := fun t ht => by
      rw [o3, if_pos (by omega), n2.2 _ (by omega), m3, if_pos (by omega), b149]
      exact at149 (by omega)
    have hmk : MK V2 S P := ⟨rpM_cp h.mk.1 hr.2.2.1 hr.2.2.2 he, rpN_cp h.mk.2.1 hS he, hS, h.ck.ok⟩
    have hV2 : f6_servedWithout V1 (i : Int) = some ((cancelP S P i).1, V2) := by
      unfold f6_servedWithout
      rw [M_isBooking (h.mk.of (vk 149 (by omega))) hx, if_pos c]
      simp only [bd_s, n10, if_false]
      rw [M_fails0]
      simp only [bd2_s, n00, if_true]
      rw [m1, bd_s, n1]
      simp only [Option.bind, bd2]
      rw [o1, bd_s]
    have xk : ∀ k, k ≠ 148 → k ≠ 149 → V2 k = V1 k := fun k q1 q2 => by rw [o2 k q2, n2.1 k q2, m2 k q2, up2_r q1]
    have x148 : ∀ i, i ≠ 9 → V2 148 i = V 148 i := fun i q => by rw [o2 148 (by omega), n2.1 148 (by omega), m2 148 (by omega), up2_n (by omega), vk 148 (by omega)]
    refine ⟨_, V1, _, V2, hV1, hV2, by rw [o2 148 (by omega), n2.1 148 (by omega), m2 148 (by omega), up2_s]; rfl, fun r hr => okr hr rfl, S, P, h.upd ?_ hmk ?_ ?_ x148 ?_ ?_⟩
    · have hq := h.ck.2.2.1
      have e00 : V2 0 = V 0 := by rw [xk 0 (by omega) (by omega), vk 0 (by omega)]
      refine ⟨rpC_of v3 (fun k q1 q2 => xk k (by omega) (by omega)), ?_, by rw [e00]; exact hq, hS, h.ck.ok⟩
      rw [e00]
      exact rpS_of hS h.ck.2.1 (fun k q1 q2 => by rw [xk k (by unfold aS at q2; omega) (by unfold aS at q2; omega), vk k (by unfold aS at q1 q2; omega)])
    · rw [xk 0 (by omega) (by omega), vk 0 (by omega)]
    · exact fun k q0 q1 q2 => by rw [xk k (by omega) (by omega), vk k (by omega)]
    · exact fun t t1 t2 => by rw [o3, if_neg (by omega), n2.2 t (by omega), m3, if_neg (by omega), b149]
    · exact fun k q => by rw [xk k (by omega) (by omega), vk k (by omega)]
  · refine ⟨.error eI, V, 0, up2 V 148 9 1, ?_, ?_, (up2_s _ _ _ _).trans cod_1.symm, fun r hr => ner hr, S, P, h.thr 1⟩
    · show f5_servedWithout V x = _
      unfold f5_servedWithout
      rw [X_isBooking h.ck hx, if_neg c]
      simp only [bd_s, n00, if_true]
    · show f6_servedWithout V x = _
      unfold f6_servedWithout
      rw [M_isBooking h.mk hx, if_neg c]
      simp only [bd_s, n00, if_true]
      rw [M_fails1 (Or.inl rfl) (Or.inl rfl)]
      simp only [bd2_s, n10, if_false]
