/-! what is remembered, and the calls that change the plan -/
theorem at149 {V : VV} {a b : Nat} (h : a = b) : V 149 a = V 149 b := by rw [h]
theorem CK.of {V V' : VV} {S : Su} {P : Pl} (h : CK V S P) (e0 : V' 0 2 = V 0 2) (e : ∀ k, 9 ≤ k → k < 62 → V' k = V k) : CK V' S P := by
  have hq := h.2.2.1
  refine ⟨rpC_of h.1 (fun k k1 k2 => e k (by omega) (by omega)), ?_, by rw [e0]; exact hq, h.2.2.2⟩
  rw [e0]
  exact rpS_of h.2.2.2.1 h.2.1 (fun k k1 k2 => e k (by unfold aS at k1; omega) (by unfold aS at k2; omega))
theorem RIn.of {V V' : VV} (h : RIn V) (e1 : V' 1 = V 1) (e2 : V' 2 = V 2) (f4 : V' 148 4 = V 148 4) (f5 : V' 148 5 = V 148 5) (f6 : V' 148 6 = V 148 6) (g : V' 151 = V 151) : RIn V' := by
  unfold RIn at *
  rw [e1, e2, f4, f5, f6, g]; exact h
theorem ROut.of {V V' : VV} (h : ROut V) (e1 : V' 0 13 = V 0 13) (e2 : V' 75 = V 75) (f8 : V' 148 8 = V 148 8) (g : V' 152 = V 152) : ROut V' := by
  unfold ROut at *
  rw [e1, e2, f8, g]; exact h
theorem kpt_cp {V V' : VV} {S : Su} {p p' o o' : Nat} (h : kpt V S p o) (hS : okS S) (hp : p' = p) (hc : ∀ c, aP p ≤ c → c < aP p + 9 → V' c = V c) (he : ∀ t, t < 230 → V' 149 (o' + t) = V 149 (o + t)) : kpt V' S p' o' := by
  subst hp
  obtain ⟨Q, h1, h2, h3, h4⟩ := h
  exact ⟨Q, h1, rpC_of h2 hc, rpM_cp h3 h1.rg.2.2.1 h1.rg.2.2.2 he, rpN_cp h4 hS he⟩
theorem aPq {p : Nat} (h : 2 ≤ p) : aP p = 58 + 9 * p := if_neg (by omega)
/-- the saved plans stay -/
theorem RSav.of {V V' : VV} {S : Su} (h : RSav V S) (hS : okS S) (e73 : V' 73 = V 73) (e150 : V' 150 = V 150) (ec : ∀ c, 130 ≤ c → c < 148 → V' c = V c) (et : ∀ t, 1610 ≤ t → t < 2070 → V' 149 t = V 149 t) : RSav V' S := by
  intro s hs
  rw [e73, e150]
  refine ⟨(h s hs).1, ?_⟩
  rcases (h s hs).2 with q | ⟨q, q2⟩
  · exact Or.inl q
  · refine Or.inr ⟨q, kpt_cp q2 hS rfl (fun c c1 c2 => ?_) (fun t ht => et _ (by omega) (by omega))⟩
    rw [aPq (by omega)] at c1 c2
    exact ec c (by omega) (by omega)
theorem RPast.of {V V' : VV} {S : Su} (h : RPast V S) (hS : okS S) (e7 : V' 0 7 = V 0 7) (e8 : V' 0 8 = V 0 8) (f2 : V' 148 2 = V 148 2) (ec : ∀ c, 76 ≤ c → c < 130 → V' c = V c) (et : ∀ t, 230 ≤ t → t < 1610 → V' 149 t = V 149 t) : RPast V' S := by
  obtain ⟨h1, h2, h3, h4⟩ := h
  unfold RPast
  rw [e7, e8, f2]
  refine ⟨h1, h2, h3, fun k hk => ?_⟩
  have hpx : pix (V 0 7).toNat k < 6 := by unfold pix; split <;> omega
  refine kpt_cp (h4 k hk) hS rfl (fun c c1 c2 => ?_) (fun t ht => et _ (by omega) (by omega))
  rw [aPq (by omega)] at c1 c2
  exact ec c (by omega) (by omega)
def nx (z : Int) : Int := if z = 5 then 0 else z + 1
def nn (z : Int) : Int := if 6 ≤ z then z else z + 1
def xrem (V W : VV) (P : Pl) : Prop := (∀ k, k ≠ 0 → ¬ (76 ≤ k ∧ k < 130) → W k = V k) ∧ (∀ i, i ≠ 7 → i ≠ 8 → W 0 i = V 0 i) ∧ W 0 7 = nx (V 0 7) ∧ W 0 8 = nn (V 0 8) ∧ rpC W (aP ((W 0 7).toNat + 2)) P ∧ ∀ q, q < 6 → q ≠ (W 0 7).toNat → ∀ c, aP (q + 2) ≤ c → c < aP (q + 2) + 9 → W c = V c
def mrem (V W : VV) : Prop := (∀ k, k ≠ 148 → k ≠ 149 → W k = V k) ∧ (∀ i, i ≠ 2 → W 148 i = V 148 i) ∧ W 148 2 = nn (V 148 2) ∧ (∀ t, t < 230 → W 149 t = V 149 t) ∧ (∀ t, 1610 ≤ t → W 149 t = V 149 t) ∧ (∀ t, t < 230 → W 149 (230 * (W 148 2).toNat + t) = V 149 t) ∧ ∀ k : Nat, 1 ≤ k → (k : Int) < W 148 2 → ∀ t, t < 230 → W 149 (230 * ((W 148 2).toNat - k) + t) = V 149 (230 * ((V 148 2).toNat - (k - 1)) + t)
theorem X_rem {V : VV} {S : Su} {P : Pl} (hck : CK V S P) (p12 : 0 ≤ V 0 7 ∧ V 0 7 ≤ 5) (p45 : 0 ≤ V 0 8 ∧ V 0 8 ≤ 6) : ∃ W : VV, f5_remember V = some W ∧ xrem V W P ∧ CK W S P := by
  obtain ⟨p1, p2⟩ := p12
  obtain ⟨p4, p5⟩ := p45
  have e1 : (if nrm (V 0 7) = nrm 5 then some (0 : Int) else some ((V 0 7) + 1)) = some (nx (V 0 7)) := by
    unfold nx
    simp (disch := omega) only [nrm_of]
    split <;> rfl
  have hL : 0 ≤ nx (V 0 7) ∧ nx (V 0 7) < 6 := by unfold nx; split <;> omega
  unfold f5_remember
  rw [e1]
  simp only [bd_s, up2_s]
  obtain ⟨L, hL1⟩ : ∃ L : Nat, nx (V 0 7) = (L : Int) := ⟨(nx (V 0 7)).toNat, by omega⟩
  rw [hL1] at hL ⊢
  rw [ck_t hL, Int.toNat_natCast]
  obtain ⟨W, g1, g2, g3⟩ := X_copyP (V := up2 V 0 7 (L : Int)) (p := L + 2) (q := 0) (by omega) (by omega) (by omega) (rpC_of hck.1 (fun k k1 k2 => up2_r (by rw [aP0] at k1; omega))) hck.ok
  have haL := aPq (p := L + 2) (by omega)
  rw [g1]
  simp only [bd_s]
  have w0 : W 0 = up2 V 0 7 (L : Int) 0 := g2 0 (by omega)
  have w8 : W 0 8 = V 0 8 := by rw [w0, up2_n (by omega)]
  have wk : ∀ k, k ≠ 0 → ¬ (76 ≤ k ∧ k < 130) → W k = V k := fun k k1 k2 => by rw [g2 k (by omega), up2_r k1]
  have wi : ∀ i, i ≠ 7 → W 0 i = V 0 i := fun i hi => by rw [w0, up2_n (by omega)]
  have w7 : W 0 7 = (L : Int) := by rw [w0, up2_s]
  have wq : ∀ q, q < 6 → q ≠ L → ∀ c, aP (q + 2) ≤ c → c < aP (q + 2) + 9 → W c = V c := fun q q1 q2 c c1 c2 => by
    rw [aPq (by omega)] at c1 c2
    rw [g2 c (by omega), up2_r (by omega)]
  have wc : CK W S P := hck.of (wi 2 (by omega)) (fun k k1 k2 => wk k (by omega) (by omega))
  simp (disch := omega) only [w8, nrm_of]
  by_cases c : 6 ≤ V 0 8
  · rw [if_pos c]
    refine ⟨W, rfl, ⟨wk, fun i hi _ => wi i hi, by rw [w7, hL1], by rw [w8]; exact (if_pos c).symm, by rw [w7, Int.toNat_natCast]; exact g3, by rw [w7, Int.toNat_natCast]; exact wq⟩, wc⟩
  · rw [if_neg c]
    have u : ∀ k, k ≠ 0 → up2 W 0 8 (V 0 8 + 1) k = W k := fun k hk => up2_r hk
    have u7 : up2 W 0 8 (V 0 8 + 1) 0 7 = (L : Int) := by rw [up2_n (by omega), w7]
    refine ⟨up2 W 0 8 (V 0 8 + 1), rfl, ⟨fun k k1 k2 => by rw [u k k1, wk k k1 k2], fun i hi hi2 => by rw [up2_n (by omega), wi i hi], by rw [u7, hL1], by rw [up2_s]; exact (if_neg c).symm, ?_, ?_⟩, wc.of (up2_n (by omega)) (fun k k1 k2 => u k (by omega))⟩
    · rw [u7, Int.toNat_natCast]
      exact rpC_of g3 (fun k k1 k2 => u k (by omega))
    · rw [u7, Int.toNat_natCast]
      intro q q1 q2 c c1 c2
      rw [u c (by rw [aPq (by omega)] at c1; omega)]
      exact wq q q1 q2 c c1 c2
theorem X_remember {V : VV} {S : Su} {P : Pl} (h : RV V S P) : ∃ W : VV, f5_remember V = some W ∧ xrem V W P ∧ CK W S P := X_rem h.ck h.2.2.2.1.1 h.2.2.2.1.2.2.1
/-- the shift of the reference's blocks -/
theorem M_shift : ∀ (k n i : Nat) (V : VV) (x1 : Int), k + 1 ≤ n → i + k = 6 → 1 ≤ i → ∃ V' : VV, f6_remember_L11 x1 n (i : Int) V = some V' ∧ (∀ c, c ≠ 149 → V' c = V c) ∧ ∀ t, V' 149 t = if 230 * i ≤ t ∧ t < 1380 then V 149 (t + 230) else V 149 t := by
  intro k
  induction k with
  | zero =>
    intro n i V x1 hn hi h1
    obtain ⟨n, rfl⟩ : ∃ m, n = m + 1 := ⟨n - 1, by omega⟩
    refine ⟨V, ?_, fun _ _ => rfl, fun t => by rw [if_neg (by omega)]⟩
    rw [f6_remember_L11]
    simp (disch := omega) only [nrm_of]
    rw [if_pos (by omega)]
  | succ k ih =>
    intro n i V x1 hn hi h1
    obtain ⟨n, rfl⟩ : ∃ m, n = m + 1 := ⟨n - 1, by omega⟩
    rw [f6_remember_L11]
    simp (disch := omega) only [nrm_of]
    rw [if_neg (by omega)]
    obtain ⟨V1, g1, g2, g3⟩ := M_copyBlock (V := V) (x := (i : Int) + 1) (y := (i : Int)) (a := i + 1) (b := i) (by omega) rfl (by omega) (by omega) (by omega)
    rw [g1]
    simp only [bd_s]
    obtain ⟨V2, q1, q2, q3⟩ := ih n (i + 1) V1 x1 (by omega) (by omega) (by omega)
    rw [Int.natCast_add, Int.natCast_one] at q1
    refine ⟨V2, q1, fun c hc => by rw [q2 c hc, g2 c hc], fun t => ?_⟩
    rw [q3 t]
    by_cases e : 230 * (i + 1) ≤ t ∧ t < 1380
    · rw [if_pos e, if_pos (by omega), g3, if_neg (by omega)]
    · rw [if_neg e, g3]
      by_cases e2 : 230 * i ≤ t ∧ t < 230 * i + 230
      · rw [if_pos e2, if_pos (by omega)]
        exact at149 (by omega)
      · rw [if_neg e2, if_neg (by omega)]
theorem M_remember {V : VV} {S : Su} {P : Pl} (h : MK V S P) (hu : 0 ≤ V 148 2 ∧ V 148 2 ≤ 6) : ∃ W : VV, f6_remember V 0 = some W ∧ mrem V W ∧ MK W S P := by
  obtain ⟨n, hn⟩ : ∃ n : Nat, V 148 2 = (n : Int) := ⟨(V 148 2).toNat, by omega⟩
  have fin : ∀ W : VV, f6_remember V 0 = some W → mrem V W → MK W S P := fun W _ hw => by
    have he : ∀ t, t < 230 → W 149 (0 + t) = V 149 (0 + t) := fun t ht => by rw [Nat.zero_add]; exact hw.2.2.2.1 t ht
    exact ⟨rpM_cp h.1 h.ok.rg.2.2.1 h.ok.rg.2.2.2 he, rpN_cp h.2.1 h.2.2.1 he, h.2.2⟩
  by_cases c : n = 6
  · subst c
    obtain ⟨V1, g1, g2, g3⟩ := M_shift 5 FU 1 V 0 (by have := FU_ge; omega) (by omega) (by omega)
    have e148 : V1 148 = V 148 := g2 148 (by omega)
    obtain ⟨V2, q1, q2, q3⟩ := M_copyBlock (V := up2 (up2 V1 148 2 5) 148 2 6) (x := 0) (y := 6) (a := 0) (b := 6) rfl rfl (by omega) (by omega) (by omega)
    have hf : f6_remember V 0 = some V2 := by
      unfold f6_remember
      simp (disch := omega) only [nrm_of, hn]
      rw [if_pos (by omega), show f6_remember_L11 0 FU 1 V = some V1 from g1]
      simp only [bd_s, up2_s, e148, hn]
      exact congrArg (fun o => bd o (fun W11 => some W11)) q1
    have f2 : V2 148 2 = 6 := by rw [q2 148 (by omega), up2_s]
    have hm : mrem V V2 := by
      refine ⟨fun k k1 k2 => by rw [q2 k k2, up2_r k1, up2_r k1, g2 k k2], fun i hi => by rw [q2 148 (by omega), up2_n (by omega), up2_n (by omega), e148], by rw [f2, hn]; rfl, fun t ht => ?_, fun t ht => ?_, fun t ht => ?_, fun k k1 k2 t ht => ?_⟩
      · rw [q3, if_neg (by omega), up2_r (by omega), up2_r (by omega), g3, if_neg (by omega)]
      · rw [q3, if_neg (by omega), up2_r (by omega), up2_r (by omega), g3, if_neg (by omega)]
      · rw [f2, show (6 : Int).toNat = 6 from rfl, q3, if_pos (by omega), up2_r (by omega), up2_r (by omega), g3, if_neg (by omega)]
        exact at149 (by omega)
      · rw [f2] at k2 ⊢
        rw [hn, show (6 : Int).toNat = 6 from rfl, show ((6 : Nat) : Int).toNat = 6 from rfl, q3, if_neg (by omega), up2_r (by omega), up2_r (by omega), g3, if_pos (by omega)]
        exact at149 (by omega)
    exact ⟨V2, hf, hm, fin V2 hf hm⟩
  · obtain ⟨V2, q1, q2, q3⟩ := M_copyBlock (V := up2 V 148 2 ((n : Int) + 1)) (x := 0) (y := (n : Int) + 1) (a := 0) (b := n + 1) rfl (by omega) (by omega) (by omega) (by omega)
    have hf : f6_remember V 0 = some V2 := by
      unfold f6_remember
      simp (disch := omega) only [nrm_of, hn]
      rw [if_neg (by omega)]
      simp only [bd_s, up2_s, hn]
      exact congrArg (fun o => bd o (fun W11 => some W11)) q1
    have f2 : V2 148 2 = (n : Int) + 1 := by rw [q2 148 (by omega), up2_s]
    have hm : mrem V V2 := by
      refine ⟨fun k k1 k2 => by rw [q2 k k2, up2_r k1], fun i hi => by rw [q2 148 (by omega), up2_n (by omega)], by rw [f2, hn]; exact (if_neg (by omega)).symm, fun t ht => ?_, fun t ht => ?_, fun t ht => ?_, fun k k1 k2 t ht => ?_⟩
      · rw [q3, if_neg (by omega), up2_r (by omega)]
      · rw [q3, if_neg (by omega), up2_r (by omega)]
      · rw [f2, show ((n : Int) + 1).toNat = n + 1 by omega, q3, if_pos (by omega), up2_r (by omega)]
        exact at149 (by omega)
      · rw [f2] at k2 ⊢
        rw [hn, show ((n : Int) + 1).toNat = n + 1 by omega, Int.toNat_natCast, q3, if_neg (by omega), up2_r (by omega)]
        exact at149 (by omega)
    exact ⟨V2, hf, hm, fin V2 hf hm⟩
/-- the relation behind a change: both have remembered, both have changed the plan -/
theorem RV.chg {V W V1 W2 V2 : VV} {S : Su} {P P' : Pl} {z : Int} (h : RV V S P) (hx : xrem V W P) (h0 : fr0 W V1) (hc : CK V1 S P') (hm : mrem (up2 V1 148 9 z) W2) (hf : frM W2 V2) (hk : MK V2 S P') : RV V2 S P' := by
  obtain ⟨g1, g2, g3, g4, g5, g6, g7⟩ := h
  obtain ⟨x1, x2, x3, x4, x5, x6⟩ := hx
  obtain ⟨m1, m2, m3, m4, m5, m6, m7⟩ := hm
  have hS := g1.2.2.2.1
  have c1 : ∀ k, k ≠ 148 → k ≠ 149 → V2 k = V1 k := fun k k1 k2 => by rw [hf.1 k k2, m1 k k1 k2, up2_r k1]
  have c148 : ∀ i, i ≠ 2 → i ≠ 9 → V2 148 i = V 148 i := fun i i1 i2 => by rw [hf.1 148 (by omega), m2 i i1, up2_n (by omega), h0 148 (by omega), x1 148 (by omega) (by omega)]
  have cW : ∀ k, k ≠ 148 → k ≠ 149 → ¬ (53 ≤ k ∧ k < 62) → V2 k = W k := fun k k1 k2 k3 => by rw [c1 k k1 k2, h0 k k3]
  have cV : ∀ k, k ≠ 0 → k ≠ 148 → k ≠ 149 → ¬ (53 ≤ k ∧ k < 62) → ¬ (76 ≤ k ∧ k < 130) → V2 k = V k := fun k k0 k1 k2 k3 k4 => by rw [cW k k1 k2 k3, x1 k k0 k4]
  have c0 : V2 0 = W 0 := cW 0 (by omega) (by omega) (by omega)
  have e149 : V1 149 = V 149 := by rw [h0 149 (by omega), x1 149 (by omega) (by omega)]
  have e148 : (up2 V1 148 9 z) 148 2 = V 148 2 := by rw [up2_n (by omega), h0 148 (by omega), x1 148 (by omega) (by omega)]
  have b149 : ∀ t, (up2 V1 148 9 z) 149 t = V 149 t := fun t => by rw [up2_r (by omega), e149]
  have f149 : ∀ t, 230 ≤ t → V2 149 t = W2 149 t := fun t ht => hf.2 t (by omega)
  refine ⟨hc.of (by rw [c0, h0 0 (by omega)]) (fun k k1 k2 => c1 k (by omega) (by omega)), hk, by rw [c0, x2 2 (by omega) (by omega), x2 3 (by omega) (by omega)]; exact g3, ?_, g5.of hS (cV 73 (by omega) (by omega) (by omega) (by omega) (by omega)) (cV 150 (by omega) (by omega) (by omega) (by omega) (by omega)) (fun c k1 k2 => cV c (by omega) (by omega) (by omega) (by omega) (by omega)) (fun t t1 t2 => by rw [f149 t (by omega), m5 t t1, b149]), g6.of (cV 1 (by omega) (by omega) (by omega) (by omega) (by omega)) (cV 2 (by omega) (by omega) (by omega) (by omega) (by omega)) (c148 4 (by omega) (by omega)) (c148 5 (by omega) (by omega)) (c148 6 (by omega) (by omega)) (cV 151 (by omega) (by omega) (by omega) (by omega) (by omega)), g7.of (by rw [c0, x2 13 (by omega) (by omega)]) (cV 75 (by omega) (by omega) (by omega) (by omega) (by omega)) (c148 8 (by omega) (by omega)) (cV 152 (by omega) (by omega) (by omega) (by omega) (by omega))⟩
  obtain ⟨⟨a1, a2⟩, a3, ⟨a4, a5⟩, a6⟩ := g4
  have n2 : V2 148 2 = nn (V 148 2) := by rw [hf.1 148 (by omega), m3, e148]
  have w2 : W2 148 2 = nn (V 148 2) := by rw [m3, e148]
  unfold RPast
  rw [c0, n2, x3, x4, ← a3]
  have hL : 0 ≤ nx (V 0 7) ∧ nx (V 0 7) ≤ 5 := by unfold nx; split <;> omega
  have hN : 1 ≤ nn (V 0 8) ∧ nn (V 0 8) ≤ 6 := by unfold nn; split <;> omega
  refine ⟨hL, rfl, ⟨by omega, hN.2⟩, fun k hk2 => ?_⟩
  rw [← a3] at w2
  rw [x3] at x5 x6
  by_cases k0 : k = 0
  · subst k0
    have hpx : pix (nx (V 0 7)).toNat 0 = (nx (V 0 7)).toNat := by unfold pix; rw [if_pos (by omega)]; omega
    rw [hpx, Nat.sub_zero]
    have he : ∀ t, t < 230 → V2 149 (230 * (nn (V 0 8)).toNat + t) = V 149 (0 + t) := fun t ht => by
      rw [f149 _ (by omega), Nat.zero_add, ← b149, ← m6 t ht, w2]
    refine ⟨P, g1.ok, rpC_of x5 (fun c k1 k2 => ?_), rpM_cp g2.1 g1.ok.rg.2.2.1 g1.ok.rg.2.2.2 he, rpN_cp g2.2.1 hS he⟩
    rw [aPq (by omega)] at k1 k2
    exact cW c (by omega) (by omega) (by omega)
  · have k1 : ((k - 1 : Nat) : Int) < V 0 8 := by
      have : nn (V 0 8) ≤ V 0 8 + 1 := by unfold nn; split <;> omega
      omega
    have hpx : pix (nx (V 0 7)).toNat k = pix (V 0 7).toNat (k - 1) ∧ pix (V 0 7).toNat (k - 1) < 6 ∧ pix (V 0 7).toNat (k - 1) ≠ (nx (V 0 7)).toNat := by
      unfold pix nx
      by_cases q : V 0 7 = 5
      · rw [if_pos q, q]
        simp only [show (5 : Int).toNat = 5 from rfl, show (0 : Int).toNat = 0 from rfl]
        refine ⟨?_, ?_, ?_⟩
        · rw [if_neg (by omega), if_pos (by omega)]; omega
        · split <;> omega
        · split <;> omega
      · rw [if_neg q]
        refine ⟨?_, ?_, ?_⟩
        · split <;> split <;> omega
        · split <;> omega
        · split <;> omega
    refine kpt_cp (a6 (k - 1) k1) hS (by rw [hpx.1]) (fun c c1' c2' => ?_) (fun t ht => ?_)
    · have h9 := x6 _ hpx.2.1 hpx.2.2 c c1' c2'
      rw [← h9]
      rw [aPq (by omega)] at c1' c2'
      exact cW c (by omega) (by omega) (by omega)
    · rw [f149 _ (by have : 1 ≤ (nn (V 0 8)).toNat - k := by omega
                     omega)]
      have := m7 k (by omega) (by rw [w2]; exact hk2) t ht
      rw [w2] at this
      rw [this, b149, e148, ← a3]
/-- what the reference meets behind the class's change -/
theorem RV.mid {V W V1 : VV} {S : Su} {P : Pl} {z : Int} (h : RV V S P) (hx : xrem V W P) (h0 : fr0 W V1) : MK (up2 V1 148 9 z) S P ∧ (0 ≤ (up2 V1 148 9 z) 148 2 ∧ (up2 V1 148 9 z) 148 2 ≤ 6) := by
  have e149 : V1 149 = V 149 := by rw [h0 149 (by omega), hx.1 149 (by omega) (by omega)]
  have e148 : (up2 V1 148 9 z) 148 2 = V 148 2 := by rw [up2_n (by omega), h0 148 (by omega), hx.1 148 (by omega) (by omega)]
  have hp := h.2.2.2.1
  refine ⟨(h.mk.of e149).thr z, ?_⟩
  rw [e148, ← hp.2.1]
  exact hp.2.2.1
/-- and what it sees of the class's calls: nothing -/
theorem thr_of {V1 W2 V2 : VV} {z : Int} (hm : mrem (up2 V1 148 9 z) W2) (hf : frM W2 V2) : V2 148 9 = z := by
  rw [hf.1 148 (by omega), hm.2.1 9 (by omega), up2_s]
