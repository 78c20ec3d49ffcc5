/-! the law's loop -/
theorem lw_loop {X : CT} {b L : Nat} {xs : Nat → Int32} (hend : ∀ (G : GT) (V : VV) (cells slots : Nat) (lv : List (Nat × Value)), LA G X b L xs → cells ≤ 601024 → slots ≤ 7293034 → At G X cells slots 3488 lv [vI 1] V) :
    ∀ (n : Nat) (G : GT) (V : VV) (S : Su) (P : Pl) (i : Int) (cells slots : Nat), LA G X b L xs → RV V S P → 0 ≤ i → i ≤ L → (L : Int) ≤ i + n → cells + 10 * n ≤ 601024 → slots + 60 * n ≤ 7293034 → At G X cells slots 23 (LV G b i) [] V := by
  intro n
  induction n with
  | zero =>
    intro G V S P i cells slots A hRV h0 h1 h2 hc hs
    obtain ⟨C, hL, hXK, hR, hx, hN, hX, hl⟩ := id A
    refine r_iload C dL_law_23 rfl ?_
    refine r_aload_n C dL_law_25 rfl ?_
    refine r_slen hL C dL_law_26 ?_
    refine r_bipush C dL_law_27 (by decide +kernel) ?_
    refine r_isub C dL_law_29 ?_
    refine r_icmpgt (tgt := 3487) C dL_law_30 rfl ⟨by omega, by omega⟩ ⟨by omega, by omega⟩ (fun _ => ?_) (fun c => absurd (by omega) c)
    refine r_iconst C dL_law_3487 ?_
    exact hend G V cells slots _ A (by omega) (by omega)
  | succ n ih =>
    intro G V S P i cells slots A hRV h0 h1 h2 hc hs
    obtain ⟨C, hL, hXK, hR, hx, hN, hX, hl⟩ := id A
    refine r_iload C dL_law_23 rfl ?_
    refine r_aload_n C dL_law_25 rfl ?_
    refine r_slen hL C dL_law_26 ?_
    refine r_bipush C dL_law_27 (by decide +kernel) ?_
    refine r_isub C dL_law_29 ?_
    refine r_icmpgt (tgt := 3487) C dL_law_30 rfl ⟨by omega, by omega⟩ ⟨by omega, by omega⟩ (fun _ => ?_) (fun c => ?_)
    · refine r_iconst C dL_law_3487 ?_
      exact hend G V cells slots _ A (by omega) (by omega)
    · refine r_aload_n C dL_law_33 rfl ?_
      refine r_iload C dL_law_34 rfl ?_
      refine r_sld hL hl C dL_law_36 h0 (by omega) ?_
      refine r_bipush C dL_law_37 (by decide +kernel) ?_
      refine x_iand C dL_law_39 ?_
      have h63 := aI_63 (sv xs i)
      obtain ⟨k, hk, ek⟩ : ∃ k : Nat, k < 64 ∧ aI (sv xs i) 63 = (k : Int) := ⟨(aI (sv xs i) 63).toNat, by omega, by omega⟩
      rw [ek]
      refine lc_all A h0 (by omega) hRV (by omega) (by omega) (fun z V' S' P' c' s' h' hc' hs' => ?_) k hk
      have A2 := A.gO (z := z)
      refine r_iinc A2.1 dL_law_3481 rfl (by show (4 : Nat) < xN X; rw [hx]; omega) ?_
      refine r_goto (tgt := 23) A2.1 dL_law_3484 rfl ?_
      have hI := ih (gO G z) V' S' P' (i + 6) c' s' A2 h' (by omega) (by omega) (by omega) (by omega) (by omega)
      exact AtH.sw hI ⟨rfl, rfl, rfl, rfl, rfl, trivial⟩
