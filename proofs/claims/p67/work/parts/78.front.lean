/-! the text goes into the input; the load; the start -/
theorem X_append {V : VV} {n : Nat} {a b c d e : Int} (ha : rgI a) (hb : rgI b) (hc : rgI c) (hd : rgI d) (he : rgI e) (hn : V 1 1 = (n : Int)) (q : n + 20 ≤ 600) : f5_append V a b c d e = some ((n : Int) + 20, apX V n (by4 a ++ by4 b ++ by4 c ++ by4 d ++ by4 e)) := by
  have g1 := X_putFour (V := V) ha hn (by omega)
  have e1 := (apX_1 (l := by4 a) hn).1
  have g2 := X_putFour (V := apX V n (by4 a)) hb e1 (by rw [by4_len]; omega)
  rw [apX_app] at g2
  have e2 := (apX_1 (l := by4 a ++ by4 b) hn).1
  have g3 := X_putFour (V := apX V n (by4 a ++ by4 b)) hc e2 (by simp only [List.length_append, by4_len]; omega)
  rw [apX_app] at g3
  have e3 := (apX_1 (l := by4 a ++ by4 b ++ by4 c) hn).1
  have g4 := X_putFour (V := apX V n (by4 a ++ by4 b ++ by4 c)) hd e3 (by simp only [List.length_append, by4_len]; omega)
  rw [apX_app] at g4
  have e4 := (apX_1 (l := by4 a ++ by4 b ++ by4 c ++ by4 d) hn).1
  have g5 := X_putFour (V := apX V n (by4 a ++ by4 b ++ by4 c ++ by4 d)) he e4 (by simp only [List.length_append, by4_len]; omega)
  rw [apX_app] at g5
  have e5 := (apX_1 (l := by4 a ++ by4 b ++ by4 c ++ by4 d ++ by4 e) hn).1
  unfold f5_append
  rw [hn, nrm_of (by omega) (by omega), nrm_of (by omega) (by omega), if_neg (by omega), bd_q, ck_t (by decide +kernel), g1, bd_q, g2, bd_q, g3, bd_q, g4, bd_q, g5, bd_q, e5]
  simp only [List.length_append, by4_len]
  congr 2
theorem by4_wd {tl : Nat} {tf : Nat → Int} (hf : TF tl tf) (k : Nat) : by4 (wdV tl tf k) = [(ch tl tf k : Int), (ch tl tf (k + 1) : Int), (ch tl tf (k + 2) : Int), (ch tl tf (k + 3) : Int)] ∧ rgI (wdV tl tf k) := by
  have h0 := ch_lt hf k
  have h1 := ch_lt hf (k + 1)
  have h2 := ch_lt hf (k + 2)
  have h3 := ch_lt hf (k + 3)
  have hw : wdV tl tf k = (((((0 * 256 + ch tl tf k) * 256 + ch tl tf (k + 1)) * 256 + ch tl tf (k + 2)) * 256 + ch tl tf (k + 3) : Nat) : Int) := rfl
  rw [hw]
  generalize ch tl tf k = c0 at *
  generalize ch tl tf (k + 1) = c1 at *
  generalize ch tl tf (k + 2) = c2 at *
  generalize ch tl tf (k + 3) = c3 at *
  refine ⟨?_, by constructor <;> omega⟩
  unfold by4
  simp (disch := omega) only [aI_255, sI_24, sI_16, sI_8, sI_0, nrm_of]
  congr 1
  · omega
  · congr 1
    · omega
    · congr 1
      · omega
      · congr 1
        omega
theorem wB_wI (z : Int) : wB (wB z) = wB z := by unfold wB; omega
theorem say_loop {tl : Nat} {tf : Nat → Int} (hf : TF tl tf) : ∀ (m k : Nat) (V : VV), tl ≤ k + 20 * m → k ≤ 560 → V 1 1 = (k : Int) → (∀ j, j < k → V 2 j = wB (ch tl tf j : Int)) → ∃ (V2 : VV) (k2 : Nat), sayL tl tf (m + 1) k V = some V2 ∧ (∀ q, q ≠ 1 → q ≠ 2 → V2 q = V q) ∧ V2 1 1 = (k2 : Int) ∧ tl ≤ k2 ∧ k2 ≤ 600 ∧ ∀ j, j < k2 → V2 2 j = wB (ch tl tf j : Int) := by
  intro m
  induction m with
  | zero =>
    intro k V h1 h2 h3 h4
    exact ⟨V, k, by rw [sayL, if_neg (by omega)], fun _ _ _ => rfl, h3, by omega, by omega, h4⟩
  | succ m ih =>
    intro k V h1 h2 h3 h4
    by_cases c : k < tl
    · have htl := hf.1
      obtain ⟨b0, r0⟩ := by4_wd hf k
      obtain ⟨b1, r1⟩ := by4_wd hf (k + 4)
      obtain ⟨b2, r2⟩ := by4_wd hf (k + 8)
      obtain ⟨b3, r3⟩ := by4_wd hf (k + 12)
      obtain ⟨b4, r4⟩ := by4_wd hf (k + 16)
      have hap := X_append r0 r1 r2 r3 r4 h3 (by omega)
      rw [b0, b1, b2, b3, b4] at hap
      obtain ⟨l, hl⟩ : ∃ l : List Int, l = (List.range 20).map (fun j => (ch tl tf (k + j) : Int)) := ⟨_, rfl⟩
      have hl2 : [(ch tl tf k : Int), (ch tl tf (k + 1) : Int), (ch tl tf (k + 2) : Int), (ch tl tf (k + 3) : Int)] ++ [(ch tl tf (k + 4) : Int), (ch tl tf (k + 4 + 1) : Int), (ch tl tf (k + 4 + 2) : Int), (ch tl tf (k + 4 + 3) : Int)] ++ [(ch tl tf (k + 8) : Int), (ch tl tf (k + 8 + 1) : Int), (ch tl tf (k + 8 + 2) : Int), (ch tl tf (k + 8 + 3) : Int)] ++ [(ch tl tf (k + 12) : Int), (ch tl tf (k + 12 + 1) : Int), (ch tl tf (k + 12 + 2) : Int), (ch tl tf (k + 12 + 3) : Int)] ++ [(ch tl tf (k + 16) : Int), (ch tl tf (k + 16 + 1) : Int), (ch tl tf (k + 16 + 2) : Int), (ch tl tf (k + 16 + 3) : Int)] = l := by
        rw [hl]
        rfl
      rw [hl2] at hap
      have hll : l.length = 20 := by rw [hl]; simp
      have ha1 := (apX_1 (l := l) h3).1
      rw [hll] at ha1
      obtain ⟨V2, k2, g1, g2, g3, g4, g5, g6⟩ := ih (k + 20) (apX V k l) (by omega) (by omega) ha1 (fun j hj => by
        rw [apX_2, hll]
        by_cases q : k ≤ j ∧ j < k + 20
        · rw [if_pos q, hl, List.getD_eq_getElem?_getD, List.getElem?_map, List.getElem?_range (by omega)]
          show wB (ch tl tf (k + (j - k)) : Int) = _
          rw [show k + (j - k) = j by omega]
        · rw [if_neg q]
          exact h4 j (by omega))
      refine ⟨V2, k2, ?_, fun q q1 q2 => by rw [g2 q q1 q2, apX_k q1 q2], g3, g4, g5, g6⟩
      rw [sayL, if_pos c, hap]
      exact g1
    · exact ⟨V, k, by rw [sayL, if_neg c], fun _ _ _ => rfl, h3, by omega, by omega, h4⟩
theorem say_ok {tl : Nat} {tf : Nat → Int} (hf : TF tl tf) {V : VV} (h : V 1 1 = 0) : ∃ (V1 V2 V3 : VV), f5_truncate V 0 = some (0, V1) ∧ sayL tl tf 31 0 V1 = some V2 ∧ f5_truncate V2 (tl : Int) = some ((tl : Int), V3) ∧ V3 1 1 = (tl : Int) ∧ (∀ j, j < tl → V3 2 j = wB (tf j)) ∧ ∀ q, q ≠ 1 → q ≠ 2 → V3 q = V q := by
  have htl := hf.1
  have t1 : f5_truncate V 0 = some (0, up2 V 1 1 0) := by
    unfold f5_truncate
    rw [h, X_isWithin ⟨by omega, by omega⟩ ⟨by omega, by omega⟩ ⟨by omega, by omega⟩, if_pos ⟨by omega, by omega⟩, bd_q, ck_t (by decide +kernel)]
  obtain ⟨V2, k2, g1, g2, g3, g4, g5, g6⟩ := say_loop hf 30 0 (up2 V 1 1 0) (by omega) (by omega) (up2_s _ _ _ _) (fun j hj => absurd hj (Nat.not_lt_zero j))
  have t3 : f5_truncate V2 (tl : Int) = some ((tl : Int), up2 V2 1 1 (tl : Int)) := by
    unfold f5_truncate
    rw [g3, X_isWithin ⟨by omega, by omega⟩ ⟨by omega, by omega⟩ ⟨by omega, by omega⟩, if_pos ⟨by omega, by omega⟩, bd_q, ck_t (by decide +kernel)]
  refine ⟨_, V2, _, t1, g1, t3, up2_s _ _ _ _, fun j hj => ?_, fun q q1 q2 => by rw [up2_r q1, g2 q q1 q2, up2_r q1]⟩
  rw [up2_r (by omega), g6 j (by omega)]
  unfold ch
  rw [if_pos hj, Int.toNat_of_nonneg (hf.2 j hj).1]
theorem load_ok {G : GT} {V : VV} {ships : Nat} (h1 : 1 ≤ ships) (h6 : ships ≤ 6) (hN : V 1 1 = ((txt G ships).length : Int)) (hb : ∀ j, j < (txt G ships).length → V 2 j = wB ((txt G ships).getD j 0)) (h2 : V 0 2 = 1) (h3 : V 0 3 = 0) (h7 : V 0 7 = 0) : ∃ (V' : VV) (S : Su) (P : Pl), f5_load V = some ((ships : Int), V') ∧ CI V' S P ∧ mc P ∧ P.2.1 = 0 ∧ S.2.2.length = ships := by
  have hlen := txt_len G ships
  obtain ⟨N, eN⟩ : ∃ N, N = (txt G ships).length := ⟨_, rfl⟩
  obtain ⟨F, eF⟩ : ∃ F : Nat → Int, F = fun j => (txt G ships).getD j 0 := ⟨_, rfl⟩
  have hS : Sees F N 0 (txt G ships) := ⟨by omega, fun j hj => by rw [eF, Nat.zero_add]⟩
  obtain ⟨r, r1, r2⟩ := sSetup_ok h1 h6 hS
  have hF : okF F N := ⟨by omega, fun j hj => by
    rw [eF]
    have hj' : j < (txt G ships).length := by omega
    have hm : (txt G ships).getD j 0 ∈ txt G ships := by
      rw [List.getD_eq_getElem?_getD, List.getElem?_eq_getElem hj']
      exact List.getElem_mem hj'
    have := txt_rg ships h6 _ hm
    show 0 ≤ (txt G ships).getD j 0 ∧ (txt G ships).getD j 0 ≤ 255
    omega⟩
  have ad0 : ∀ k, aS 0 ≤ k ∧ k < aS 0 + 22 → 9 ≤ k ∧ k < 53 := fun k hk => by unfold aS at hk; omega
  rcases X_readSetup (V := V) (d := 0) hF (by rw [hN, eN]) (fun j hj => by rw [hb j (by omega), eF]) (by omega) (by rw [h3]; rfl) with ⟨A, r', a1, a2, a3, a4, a5, a6, a7, a8, a9⟩ | ⟨A, e, a1, -⟩
  · have hrr : r' = r := by rw [a1] at r1; cases r1; rfl
    subst hrr
    have a0 : (up2 A 1 1 0) 0 = V 0 := by rw [up2_r (by omega), a5 0 (by omega) (fun z => by have := ad0 0 z; omega)]
    obtain ⟨V1, b1, b2, b3, b4, b5, b6, b7, b8⟩ := X_startWithDraft (V := up2 A 1 1 0) (q := 1) (d := 0) (by omega) (by omega) (by rw [a0, h2]; rfl) (by rw [a0, h3]; rfl)
    have hS1 : rpS V1 (aS 0) (r'.1, r'.2.1, r'.2.2.2) := rpS_of a8 a6 (fun k k1 k2 => by
      have hk := ad0 k ⟨k1, k2⟩
      rw [b8 k (by omega) (by omega) (by omega), up2_r (by omega)])
    have e02 : (V1 0 2).toNat = 0 := by rw [b2]; rfl
    rw [up2_r (show aS 0 ≠ 1 by unfold aS; omega), a7] at b6
    refine ⟨V1, (r'.1, r'.2.1, r'.2.2.2), P0 r'.2.2.1, ?_, ⟨⟨b6, ?_, by rw [e02]; omega, a8, P0_ok a9⟩, ?_, ?_⟩, rfl, rfl, r2⟩
    · unfold f5_load
      rw [a2, bd2_s, ck_t (by decide +kernel), b1, bd_q, e02, ck_t (by omega), hS1.2.2.1]
      show some ((r'.2.2.2.length : Int), V1) = _
      rw [r2]
    · rw [e02]; exact hS1
    · rw [b5 7 (by omega) (by omega) (by omega), a0, h7]; omega
    · rw [b4]; omega
  · rw [a1] at r1
    cases r1
theorem first_start : ∃ V1 V2 : VV, f5_readSetup (VL 79) = some (1, V1) ∧ f5_startWithDraft V1 = some V2 ∧ (up2 V2 1 1 0) 1 1 = 0 ∧ (up2 V2 1 1 0) 0 2 = 1 ∧ (up2 V2 1 1 0) 0 3 = 0 ∧ (up2 V2 1 1 0) 0 7 = 0 := by
  have hF : okF (fun j => scI 0 j) 79 := ⟨by omega, first_rg⟩
  have ad0 : ∀ k, aS 1 ≤ k ∧ k < aS 1 + 22 → 31 ≤ k ∧ k < 53 := fun k hk => by unfold aS at hk; omega
  rcases X_readSetup (V := VL 79) (d := 1) hF (VL_1 79) (VL_b 79) (by omega) (by rw [VL_r (by omega) (by omega)]; rfl) with ⟨A, r, a1, a2, a3, a4, a5, a6, a7, a8, a9⟩ | ⟨A, e, a1, -⟩
  · have a0 : ∀ k, k ≠ 1 → k ≠ 2 → ¬ (31 ≤ k ∧ k < 53) → A k = V00 k := fun k k1 k2 k3 => by rw [a5 k k1 (fun z => k3 (ad0 k z)), VL_r k1 k2]
    obtain ⟨V2, b1, b2, b3, b4, b5, b6, b7, b8⟩ := X_startWithDraft (V := A) (q := 0) (d := 1) (by omega) (by omega) (by rw [a0 0 (by omega) (by omega) (by omega)]; rfl) (by rw [a0 0 (by omega) (by omega) (by omega)]; rfl)
    refine ⟨A, V2, a2, b1, up2_s _ _ _ _, by rw [up2_r (by omega), b2]; rfl, by rw [up2_r (by omega), b3]; rfl, ?_⟩
    rw [up2_r (by omega), b5 7 (by omega) (by omega) (by omega), a0 0 (by omega) (by omega) (by omega)]
    unfold V00
    rw [up2_n (by omega), up2_n (by omega)]
  · exfalso
    have h9 := first_ok
    rw [a1] at h9
    cases h9
