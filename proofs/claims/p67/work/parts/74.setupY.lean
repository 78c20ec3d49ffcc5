/-! a setup text: the class's whole reading -/
theorem X_readSettings {V : VV} {F : Nat → Int} {N d : Nat} {t : Tk} (hF : okF F N) (h : XT V F N t) (ht : okTk F N t) (hd : d < 2) (h3 : V 0 3 = (d : Int)) : (∃ (V' : VV) (p : (Int × Int × Int) × Tk), sSet F N t = .inr p ∧ okTk F N p.2 ∧ f5_readSettings V = some (1, V') ∧ XT V' F N p.2 ∧ (V' 1 2 = V 1 2 ∧ V' 1 3 = V 1 3) ∧ (∀ k, k ≠ 1 → k ≠ aS d → V' k = V k) ∧ (V' (aS d) 0 = p.1.1 ∧ V' (aS d) 1 = p.1.2.1 ∧ V' (aS d) 2 = p.1.2.2 ∧ V' (aS d) 3 = V (aS d) 3) ∧ ((0 ≤ p.1.1 ∧ p.1.1 ≤ 30) ∧ (0 ≤ p.1.2.1 ∧ p.1.2.1 ≤ 30) ∧ (0 ≤ p.1.2.2 ∧ p.1.2.2 ≤ 9))) ∨ ∃ (V' : VV) (e : Int × Int), sSet F N t = .inl e ∧ f5_readSettings V = some (0, V') ∧ dE d V V' e := by
  have ha1 : aS d ≠ 1 := by unfold aS; omega
  have ha2 : aS d ≠ 2 := by unfold aS; omega
  have ha0 : aS d ≠ 0 := by unfold aS; omega
  unfold f5_readSettings sSet
  rcases X_takeWord (k := 1) hF h ht (by decide) (by decide) with ⟨V1, t1, e1, o1, g1, x1⟩ | ⟨V1, e, e1, g1, x1⟩
  · rw [g1, bd2_s, if_neg (show ¬ nrm 1 = 0 by decide +kernel)]
    rcases X_takeNumber (lo := 0) (hi := 30) hF x1.1 o1 (by constructor <;> constructor <;> omega) with ⟨V2, v1, e2, g2, x2, m2, b2⟩ | ⟨V2, e, e2, g2, x2⟩
    · rw [g2, bd2_s, if_neg (show ¬ nrm 1 = 0 by decide +kernel), m2]
      have d2 : (V2 0 3).toNat = d := by rw [x2.2.1 0 (by omega), x1.2.1 0 (by omega), h3]; omega
      rw [d2, ck_t hd]
      obtain ⟨U2, hU2⟩ : ∃ U, U = up2 V2 (aS d) 0 v1 := ⟨_, rfl⟩
      have xtU2 : XT U2 F N (nxk F N t1) := by rw [hU2]; exact x2.1.up ha1 ha2
      have fU2 : ∀ k, k ≠ 1 → k ≠ aS d → U2 k = V k := fun k k1 k2 => by rw [hU2, up2_r k2, x2.2.1 k k1, x1.2.1 k k1]
      rw [← hU2]
      rcases X_takeNumber (lo := 0) (hi := 30) hF xtU2 (nx_ok o1) (by constructor <;> constructor <;> omega) with ⟨V3, v2, e3, g3, x3, m3, b3⟩ | ⟨V3, e, e3, g3, x3⟩
      · rw [g3, bd2_s, if_neg (show ¬ nrm 1 = 0 by decide +kernel), m3]
        have d3 : (V3 0 3).toNat = d := by rw [x3.2.1 0 (by omega), fU2 0 (by omega) (Ne.symm ha0), h3]; omega
        rw [d3, ck_t hd]
        obtain ⟨U3, hU3⟩ : ∃ U, U = up2 V3 (aS d) 1 v2 := ⟨_, rfl⟩
        have xtU3 : XT U3 F N (nxk F N (nxk F N t1)) := by rw [hU3]; exact x3.1.up ha1 ha2
        have fU3 : ∀ k, k ≠ 1 → k ≠ aS d → U3 k = V k := fun k k1 k2 => by rw [hU3, up2_r k2, x3.2.1 k k1, fU2 k k1 k2]
        rw [← hU3]
        rcases X_takeNumber (lo := 0) (hi := 9) hF xtU3 (nx_ok (nx_ok o1)) (by constructor <;> constructor <;> omega) with ⟨V4, v3, e4, g4, x4, m4, b4⟩ | ⟨V4, e, e4, g4, x4⟩
        · rw [g4, bd2_s, if_neg (show ¬ nrm 1 = 0 by decide +kernel), m4]
          have d4 : (V4 0 3).toNat = d := by rw [x4.2.1 0 (by omega), fU3 0 (by omega) (Ne.symm ha0), h3]; omega
          rw [d4, ck_t hd]
          obtain ⟨U4, hU4⟩ : ∃ U, U = up2 V4 (aS d) 2 v3 := ⟨_, rfl⟩
          have xtU4 : XT U4 F N (nxk F N (nxk F N (nxk F N t1))) := by rw [hU4]; exact x4.1.up ha1 ha2
          have fU4 : ∀ k, k ≠ 1 → k ≠ aS d → U4 k = V k := fun k k1 k2 => by rw [hU4, up2_r k2, x4.2.1 k k1, fU3 k k1 k2]
          rw [← hU4]
          rcases X_takeSemicolon hF xtU4 (nx_ok (nx_ok (nx_ok o1))) with ⟨V5, t5, e5, o5, g5, x5⟩ | ⟨V5, e, e5, g5, x5⟩
          · left
            refine ⟨V5, ((v1, v2, v3), t5), ?_, o5, ?_, x5.1, ⟨?_, ?_⟩, fun k k1 k2 => by rw [x5.2.1 k k1, fU4 k k1 k2], ⟨?_, ?_, ?_, ?_⟩, b2, b3, b4⟩
            · simp only [sb]
              rw [e1]; simp only
              rw [e2]; simp only
              rw [e3]; simp only
              rw [e4]; simp only
              rw [e5]
            · rw [g5, bd2_s, ck_t (Or.inr rfl)]
            · rw [x5.2.2.1, hU4, up2_r (Ne.symm ha1), x4.2.2.1, hU3, up2_r (Ne.symm ha1), x3.2.2.1, hU2, up2_r (Ne.symm ha1), x2.2.2.1, x1.2.2.1]
            · rw [x5.2.2.2, hU4, up2_r (Ne.symm ha1), x4.2.2.2, hU3, up2_r (Ne.symm ha1), x3.2.2.2, hU2, up2_r (Ne.symm ha1), x2.2.2.2, x1.2.2.2]
            · rw [x5.2.1 _ ha1, hU4, up2_n (by omega), x4.2.1 _ ha1, hU3, up2_n (by omega), x3.2.1 _ ha1, hU2, up2_s]
            · rw [x5.2.1 _ ha1, hU4, up2_n (by omega), x4.2.1 _ ha1, hU3, up2_s]
            · rw [x5.2.1 _ ha1, hU4, up2_s]
            · rw [x5.2.1 _ ha1, hU4, up2_n (by omega), x4.2.1 _ ha1, hU3, up2_n (by omega), x3.2.1 _ ha1, hU2, up2_n (by omega), x2.2.1 _ ha1, x1.2.1 _ ha1]
          · right
            refine ⟨V5, e, ?_, ?_, x5.1, x5.2.1, fun k k1 k2 => by rw [x5.2.2 k k1, fU4 k k1 (by omega)]⟩
            · simp only [sb]
              rw [e1]; simp only
              rw [e2]; simp only
              rw [e3]; simp only
              rw [e4]; simp only
              rw [e5]
            · rw [g5, bd2_s, ck_t (Or.inl rfl)]
        · right
          refine ⟨V4, e, ?_, ?_, x4.1, x4.2.1, fun k k1 k2 => by rw [x4.2.2 k k1, fU3 k k1 (by omega)]⟩
          · simp only [sb]
            rw [e1]; simp only
            rw [e2]; simp only
            rw [e3]; simp only
            rw [e4]
          · rw [g4, bd2_s, if_pos (show nrm 0 = 0 by decide +kernel)]
      · right
        refine ⟨V3, e, ?_, ?_, x3.1, x3.2.1, fun k k1 k2 => by rw [x3.2.2 k k1, fU2 k k1 (by omega)]⟩
        · simp only [sb]
          rw [e1]; simp only
          rw [e2]; simp only
          rw [e3]
        · rw [g3, bd2_s, if_pos (show nrm 0 = 0 by decide +kernel)]
    · right
      refine ⟨V2, e, ?_, ?_, x2.1, x2.2.1, fun k k1 k2 => by rw [x2.2.2 k k1, x1.2.1 k k1]⟩
      · simp only [sb]
        rw [e1]; simp only
        rw [e2]
      · rw [g2, bd2_s, if_pos (show nrm 0 = 0 by decide +kernel)]
  · right
    refine ⟨V1, e, ?_, ?_, x1.1, x1.2.1, fun k k1 k2 => by rw [x1.2.2 k k1]⟩
    · simp only [sb]
      rw [e1]
    · rw [g1, bd2_s, if_pos (show nrm 0 = 0 by decide +kernel)]
theorem ship10 {F : Nat → Int} {N : Nat} {L : List Sh} {t : Tk} (h : L.length = 10) : ∃ e, sShip F N L t = .inl e := by
  unfold sShip
  by_cases c : isW F 2 t = true
  · exact ⟨_, by rw [if_pos ⟨h, c⟩]; rfl⟩
  · refine ⟨(1, t.2.1), ?_⟩
    rw [if_neg (fun q => c q.2)]
    unfold sWord
    rw [if_neg c]
    rfl
theorem X_shL {F : Nat → Int} {N d : Nat} {hw cl : Int} (hF : okF F N) (hd : d < 2) : ∀ (n m : Nat) (L : List Sh) (t : Tk) (V : VV), n + 1 ≤ m → L.length + n = 11 → L.length ≤ 10 → XT V F N t → okTk F N t → V 0 3 = (d : Int) → rpS V (aS d) (hw, cl, L) → (∀ s ∈ L, okSh s) → (∃ (V' : VV) (L' : List Sh), sShips F N n L t = .inr L' ∧ f5_readSetup_L26 m (L.length : Int) V = some (1, V') ∧ V' 1 1 = (N : Int) ∧ (V' 1 2 = V 1 2 ∧ V' 1 3 = V 1 3) ∧ frD d V V' ∧ rpS V' (aS d) (hw, cl, L') ∧ V' (aS d) 2 = V (aS d) 2 ∧ (1 ≤ L'.length ∧ L'.length ≤ 10) ∧ ∀ s ∈ L', okSh s) ∨ ∃ (V' : VV) (e : Int × Int), sShips F N n L t = .inl e ∧ f5_readSetup_L26 m (L.length : Int) V = some (0, V') ∧ dE d V V' e := by
  intro n
  induction n with
  | zero => intro m L t V _ h1 h2; omega
  | succ n ih =>
    intro m L t V hm hl hl2 h ht h3 hS hok
    obtain ⟨m, rfl⟩ : ∃ q, m = q + 1 := ⟨m - 1, by omega⟩
    have ht3 := ht.2.2.1
    have ha0 : ¬ (aS d ≤ 0 ∧ 0 < aS d + 22) := by unfold aS; omega
    have step : (∃ (V' : VV) (L' : List Sh), sb (sShip F N L t) (fun p => sShips F N n (L ++ [p.1]) p.2) = .inr L' ∧ bd2 (f5_readShip V) (fun r11 W12 => (if nrm r11 = 0 then some (0, W12) else f5_readSetup_L26 m ((L.length : Int) + 1) W12)) = some (1, V') ∧ V' 1 1 = (N : Int) ∧ (V' 1 2 = V 1 2 ∧ V' 1 3 = V 1 3) ∧ frD d V V' ∧ rpS V' (aS d) (hw, cl, L') ∧ V' (aS d) 2 = V (aS d) 2 ∧ (1 ≤ L'.length ∧ L'.length ≤ 10) ∧ ∀ s ∈ L', okSh s) ∨ ∃ (V' : VV) (e : Int × Int), sb (sShip F N L t) (fun p => sShips F N n (L ++ [p.1]) p.2) = .inl e ∧ bd2 (f5_readShip V) (fun r11 W12 => (if nrm r11 = 0 then some (0, W12) else f5_readSetup_L26 m ((L.length : Int) + 1) W12)) = some (0, V') ∧ dE d V V' e := by
      rcases X_readShip hF h ht hd h3 hS hl2 hok with ⟨V1, p, e1, o1, l1, g1, x1, er, f1, s1, t1, k1⟩ | ⟨V1, e, e1, g1, x1⟩
      · rw [e1, g1, bd2_s, if_neg (show ¬ nrm 1 = 0 by decide +kernel)]
        have hlen : (L ++ [p.1]).length = L.length + 1 := by simp
        have hI := ih m (L ++ [p.1]) p.2 V1 (by omega) (by omega) (by omega) x1 o1 (by rw [f1 0 (by omega) ha0, h3]) s1 (fun s hs => by
          rcases List.mem_append.mp hs with q | q
          · exact hok s q
          · rw [List.mem_singleton.mp q]; exact k1)
        rw [hlen, Int.natCast_add, Int.natCast_one] at hI
        rcases hI with ⟨V2, L', a1, a2, a3, a4, a5, a6, a7, a8, a9⟩ | ⟨V2, e, a1, a2, a3⟩
        · left
          exact ⟨V2, L', a1, a2, a3, ⟨a4.1.trans er.1, a4.2.trans er.2⟩, f1.tr a5, a6, a7.trans t1, a8, a9⟩
        · right
          exact ⟨V2, e, a1, a2, a3.1, a3.2.1, f1.tr a3.2.2⟩
      · right
        rw [e1, g1, bd2_s, if_pos (show nrm 0 = 0 by decide +kernel)]
        exact ⟨V1, e, rfl, rfl, x1⟩
    rw [f5_readSetup_L26, sShips, nrm_of (z := 10) (by omega) (by omega), nrm_of (z := (L.length : Int)) (by omega) (by omega), if_neg (show ¬ (10 : Int) < (L.length : Int) by omega)]
    by_cases c : L.length = 0
    · have hnil : L = [] := List.eq_nil_of_length_eq_zero c
      rw [if_pos (show (L.length : Int) ≤ 0 by omega), if_neg (show ¬ (L ≠ [] ∧ t.1 = 0) from fun q => q.1 hnil)]
      exact step
    · have hnil : L ≠ [] := fun q => c (by rw [q]; rfl)
      rw [if_neg (show ¬ (L.length : Int) ≤ 0 by omega), h.2.2.1, nrm_of (by omega) (by omega)]
      by_cases c2 : t.1 = 0
      · left
        rw [if_pos (show (t.1 : Int) = 0 by omega), if_pos (show L ≠ [] ∧ t.1 = 0 from ⟨hnil, c2⟩)]
        exact ⟨V, L, rfl, rfl, h.1, ⟨rfl, rfl⟩, fun _ _ _ => rfl, hS, rfl, ⟨by omega, hl2⟩, hok⟩
      · rw [if_neg (show ¬ (t.1 : Int) = 0 by omega), if_neg (show ¬ (L ≠ [] ∧ t.1 = 0) from fun q => c2 q.2)]
        exact step
theorem X_start {V : VV} {F : Nat → Int} {N : Nat} (hF : okF F N) (h1 : V 1 1 = (N : Int)) (hb : ∀ j, j < N → V 2 j = wB (F j)) : ∃ V' : VV, f0_startReading V = some V' ∧ XT V' F N (tok F N 0) ∧ V' 1 2 = 0 ∧ V' 1 3 = -1 ∧ ∀ k, k ≠ 1 → V' k = V k := by
  obtain ⟨V', g1, g2, g3⟩ := X_tok (V := up2 (up2 (up2 V 1 2 0) 1 3 (-1)) 1 6 0) hF (Nat.zero_le _) (by rw [up2_n (by omega), up2_n (by omega), up2_n (by omega), h1]) (fun j hj => by rw [up2_r (by omega), up2_r (by omega), up2_r (by omega), hb j hj]) (by rw [up2_s]; rfl)
  refine ⟨V', ?_, g3, ?_, ?_, fun k hk => by rw [g2.1 k hk, up2_r hk, up2_r hk, up2_r hk]⟩
  · unfold f0_startReading
    rw [g1, bd_s]
  · rw [g2.2 2 (by omega) (by omega) (by omega), up2_n (by omega), up2_n (by omega), up2_s]
  · rw [g2.2 3 (by omega) (by omega) (by omega), up2_n (by omega), up2_s]
theorem X_readSetup {V : VV} {F : Nat → Int} {N d : Nat} (hF : okF F N) (h1 : V 1 1 = (N : Int)) (hb : ∀ j, j < N → V 2 j = wB (F j)) (hd : d < 2) (h3 : V 0 3 = (d : Int)) : (∃ (V' : VV) (r : Int × Int × Int × List Sh), sSetup F N = .inr r ∧ f5_readSetup V = some (1, V') ∧ V' 1 1 = (N : Int) ∧ (V' 1 2 = 0 ∧ V' 1 3 = -1) ∧ frD d V V' ∧ rpS V' (aS d) (r.1, r.2.1, r.2.2.2) ∧ V' (aS d) 2 = r.2.2.1 ∧ okS (r.1, r.2.1, r.2.2.2) ∧ (0 ≤ r.2.2.1 ∧ r.2.2.1 ≤ 9)) ∨ ∃ (V' : VV) (e : Int × Int), sSetup F N = .inl e ∧ f5_readSetup V = some (0, V') ∧ dE d V V' e := by
  have ha1 : aS d ≠ 1 := by unfold aS; omega
  have ha2 : aS d ≠ 2 := by unfold aS; omega
  have ha0 : aS d ≠ 0 := by unfold aS; omega
  obtain ⟨W, w1, w2, w3, w4, w5⟩ := X_start hF h1 hb
  have dW : (W 0 3).toNat = d := by rw [w5 0 (by omega), h3]; omega
  have ht0 := tok_ok (F := F) (N := N) (a := 0) (Nat.zero_le _)
  unfold f5_readSetup sSetup
  rw [w1, bd_s, dW, ck_t hd]
  rcases X_readSettings hF (w2.up ha1 ha2 (i := 3) (z := 0)) ht0 hd (by rw [up2_r (Ne.symm ha0), w5 0 (by omega), h3]) with ⟨V1, p, e1, o1, g1, x1, er, f1, c1, b1⟩ | ⟨V1, e, e1, g1, x1⟩
  · rw [g1, bd2_s, if_neg (show ¬ nrm 1 = 0 by decide +kernel), e1]
    have hS1 : rpS V1 (aS d) (p.1.1, p.1.2.1, []) := ⟨c1.1, c1.2.1, by rw [c1.2.2.2, up2_s]; rfl, fun i s hs => by simp at hs⟩
    have hL := X_shL (hw := p.1.1) (cl := p.1.2.1) hF hd 11 FU [] p.2 V1 (by have := FU_ge; omega) rfl (by simp) x1 o1 (by rw [f1 0 (by omega) (Ne.symm ha0), up2_r (Ne.symm ha0), w5 0 (by omega), h3]) hS1 (fun s hs => absurd hs List.not_mem_nil)
    rw [show ((([] : List Sh).length : Nat) : Int) = 0 from rfl] at hL
    have fW : frD d V V1 := fun k k1 k2 => by rw [f1 k k1 (by omega), up2_r (by omega), w5 k k1]
    rcases hL with ⟨V2, L', a1, a2, a3, a4, a5, a6, a7, a8, a9⟩ | ⟨V2, e, a1, a2, a3⟩
    · left
      refine ⟨V2, (p.1.1, p.1.2.1, p.1.2.2, L'), ?_, a2, a3, ⟨?_, ?_⟩, fW.tr a5, a6, by rw [a7, c1.2.2.1], ⟨b1.1, b1.2.1, a8, a9⟩, b1.2.2⟩
      · simp only [sb]
        rw [a1]
      · rw [a4.1, er.1, up2_r (Ne.symm ha1), w3]
      · rw [a4.2, er.2, up2_r (Ne.symm ha1), w4]
    · right
      refine ⟨V2, e, ?_, a2, a3.1, a3.2.1, fW.tr a3.2.2⟩
      simp only [sb]
      rw [a1]
  · right
    rw [g1, bd2_s, if_pos (show nrm 0 = 0 by decide +kernel), e1]
    exact ⟨V1, e, rfl, rfl, x1.1, x1.2.1, fun k k1 k2 => by rw [x1.2.2 k k1 k2, up2_r (by omega), w5 k k1]⟩
