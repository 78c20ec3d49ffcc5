/-! the law's cases 48 to 63 (printed by g85.py) -/
theorem lc_utilization {G : GT} {X : CT} {cells slots b L : Nat} {xs : Nat → Int32} {i : Int} {V : VV} {S : Su} {P : Pl} (A : LA G X b L xs) (hi : 0 ≤ i) (hi2 : i + 6 ≤ (L : Int)) (h : RV V S P) (hc : cells + 10 ≤ 601024) (hs : slots + 60 ≤ 7293034) (K : Nx G X b i cells slots) : At G X cells slots 2619 (LV G b i) [] V := by
  obtain ⟨a, b9, V2, h1, h2, S', P', h5⟩ := op_utilization V S P h
  have hN : gN G = 155 := A.2.2.2.2.2.1
  have C := A.1
  refine r_aload_n C dL_law_2619 rfl ?_
  refine q_callV (kk0 := 0) (As := []) (rest := []) C A.2.2.2.1 dL_law_2620 lL_330 w5_utilization (rc_main (by omega)) (ev5_utilization C.lt (by omega) h1) rfl rfl (Nat.le_of_ble_eq_true rfl) (Nat.le_of_ble_eq_true rfl) (Nat.le_of_ble_eq_true rfl) (show cells ≤ 601024 by omega) (show slots ≤ 7293034 by omega) ?_
  show At G X cells slots 2623 (LV G b i) [.float (fQ a b9)] V
  refine (CV_f2d C dL_law_2623 (fQ_no _ _)).at ?_
  exact tl_D (dy := _) A (f2d_no (fQ_no _ _)) (by omega) (by omega) lL_334 w6_utilization (rc_model (by omega)) (ev6_utilization C.lt (by omega) h2) (Nat.le_of_ble_eq_true rfl) (Nat.le_of_ble_eq_true rfl) (CV_f2d C dL_law_2630 (fQ_no _ _)) dL_law_2624 dL_law_2626 dL_law_2627 dL_law_2631 dL_law_2633 dL_law_2635 dL_law_2637 dL_law_2638 dL_law_2659 rfl (K.self V2 S' P' _ _ h5 (by omega) (by omega))
theorem lc_meanTransit {G : GT} {X : CT} {cells slots b L : Nat} {xs : Nat → Int32} {i : Int} {V : VV} {S : Su} {P : Pl} (A : LA G X b L xs) (hi : 0 ≤ i) (hi2 : i + 6 ≤ (L : Int)) (h : RV V S P) (hc : cells + 10 ≤ 601024) (hs : slots + 60 ≤ 7293034) (K : Nx G X b i cells slots) : At G X cells slots 2662 (LV G b i) [] V := by
  obtain ⟨a, b9, V2, h1, h2, S', P', h5⟩ := op_meanTransit V S P h
  have hN : gN G = 155 := A.2.2.2.2.2.1
  have C := A.1
  refine r_aload_n C dL_law_2662 rfl ?_
  refine q_callV (kk0 := 0) (As := []) (rest := []) C A.2.2.2.1 dL_law_2663 lL_335 w5_meanTransit (rc_main (by omega)) (ev5_meanTransit C.lt (by omega) h1) rfl rfl (Nat.le_of_ble_eq_true rfl) (Nat.le_of_ble_eq_true rfl) (Nat.le_of_ble_eq_true rfl) (show cells ≤ 601024 by omega) (show slots ≤ 7293034 by omega) ?_
  show At G X cells slots 2666 (LV G b i) [.double (dQ a b9)] V
  exact tl_D (dy := _) A (dQ_no _ _) (by omega) (by omega) lL_339 w6_meanTransit (rc_model (by omega)) (ev6_meanTransit C.lt (by omega) h2) (Nat.le_of_ble_eq_true rfl) (Nat.le_of_ble_eq_true rfl) CV_id dL_law_2666 dL_law_2668 dL_law_2669 dL_law_2672 dL_law_2674 dL_law_2676 dL_law_2678 dL_law_2679 dL_law_2700 rfl (K.self V2 S' P' _ _ h5 (by omega) (by omega))
theorem lc_inconsistencies {G : GT} {X : CT} {cells slots b L : Nat} {xs : Nat → Int32} {i : Int} {V : VV} {S : Su} {P : Pl} (A : LA G X b L xs) (hi : 0 ≤ i) (hi2 : i + 6 ≤ (L : Int)) (h : RV V S P) (hc : cells + 10 ≤ 601024) (hs : slots + 60 ≤ 7293034) (K : Nx G X b i cells slots) : At G X cells slots 2703 (LV G b i) [] V := by
  obtain ⟨r, V2, h1, h2, S', P', h5⟩ := op_inconsistencies V S P h
  have hN : gN G = 155 := A.2.2.2.2.2.1
  have C := A.1
  refine r_aload_n C dL_law_2703 rfl ?_
  refine q_callV (kk0 := 0) (As := []) (rest := []) C A.2.2.2.1 dL_law_2704 lL_340 w5_inconsistencies (rc_main (by omega)) (ev5_inconsistencies C.lt (by omega) h1) rfl rfl (Nat.le_of_ble_eq_true rfl) (Nat.le_of_ble_eq_true rfl) (Nat.le_of_ble_eq_true rfl) (show cells ≤ 601024 by omega) (show slots ≤ 7293034 by omega) ?_
  show At G X cells slots 2707 (LV G b i) [vI r] V
  refine r_aload_n C dL_law_2707 rfl ?_
  refine q_callV (kk0 := 148) (As := []) (rest := [vI r]) C A.2.2.2.1 dL_law_2708 lL_343 w6_inconsistencies (rc_model (by omega)) (ev6_inconsistencies C.lt (by omega) h2) rfl rfl (Nat.le_of_ble_eq_true rfl) (Nat.le_of_ble_eq_true rfl) (Nat.le_of_ble_eq_true rfl) (show cells ≤ 601024 by omega) (show slots ≤ 7293034 by omega) ?_
  show At G X cells slots 2711 (LV G b i) [vI r, vI r] V2
  refine x_icmpeq (tgt := 3481) C dL_law_2711 rfl (fun _ => ?_) (fun c => absurd rfl c)
  exact K.self V2 S' P' _ _ h5 (by omega) (by omega)
theorem lc_book {G : GT} {X : CT} {cells slots b L : Nat} {xs : Nat → Int32} {i : Int} {V : VV} {S : Su} {P : Pl} (A : LA G X b L xs) (hi : 0 ≤ i) (hi2 : i + 6 ≤ (L : Int)) (h : RV V S P) (hc : cells + 10 ≤ 601024) (hs : slots + 60 ≤ 7293034) (K : Nx G X b i cells slots) : At G X cells slots 2716 (LV G b i) [] V := by
  obtain ⟨e, V1, bb, V2, h1, h2, h3, h4, S', P', h5⟩ := op_book (sv_rg (xs := xs) (k := i + 1)) (swb_01 (xs := xs) (k := i + 2)) (sv_rg (xs := xs) (k := i + 3)) V S P h
  have hN : gN G = 155 := A.2.2.2.2.2.1
  have C := A.1
  refine r_aload_n C dL_law_2716 rfl ?_
  refine ld_arg A dL_law_2717 dL_law_2718 dL_law_2720 dL_law_2721 dL_law_2722 rfl rfl (by omega) (by omega) ?_
  refine ld_bool A dL_law_2723 dL_law_2724 dL_law_2726 dL_law_2727 dL_law_2728 dL_law_2729 dL_law_2732 dL_law_2733 dL_law_2736 rfl rfl (by omega) (by omega) ?_
  refine ld_arg A dL_law_2737 dL_law_2738 dL_law_2740 dL_law_2741 dL_law_2742 rfl rfl (by omega) (by omega) ?_
  refine r_aload_n C dL_law_2743 rfl ?_
  refine q_callW (n := 5) (As := [.ref (gB G + 0), vI (sv xs (i + 1)), vI (swb xs (i + 2)), vI (sv xs (i + 3)), .ref (gB G + 154)]) (rest := []) C A.2.2.1 A.2.2.2.1 dL_law_2744 lL_344 whL_book wiL (by decide +kernel) (by decide +kernel) (ew_book C.lt hN A.2.2.2.2.2.2.1 h1) rfl rfl (Nat.le_of_ble_eq_true rfl) (Nat.le_of_ble_eq_true rfl) (Nat.le_of_ble_eq_true rfl) (show cells + 3 ≤ 601024 by omega) (show slots + 18 ≤ 7293034 by omega) ?_
  obtain ⟨z, hz, hz2⟩ := oGI_ex (G := G) (e := e)
  rw [hz]
  refine AtH.gO (z := z) ?_
  have A2 := A.gO (z := z)
  have C2 := A2.1
  show At (gO G z) X (cells + 3) (slots + 18) 2747 (LV (gO G z) b i) [vI (cod [eI, eA, eS] e)] V1
  refine x_istore A2.2.2.2.2.1 C2 dL_law_2747 rfl ?_
  refine r_aload_n C2 dL_law_2749 rfl ?_
  refine ld_arg A2 dL_law_2750 dL_law_2751 dL_law_2753 dL_law_2754 dL_law_2755 rfl rfl (by omega) (by omega) ?_
  refine ld_bool A2 dL_law_2756 dL_law_2757 dL_law_2759 dL_law_2760 dL_law_2761 dL_law_2762 dL_law_2765 dL_law_2766 dL_law_2769 rfl rfl (by omega) (by omega) ?_
  refine ld_arg A2 dL_law_2770 dL_law_2771 dL_law_2773 dL_law_2774 dL_law_2775 rfl rfl (by omega) (by omega) ?_
  refine q_callV (kk0 := 148) (As := [vI (sv xs (i + 1)), vI (swb xs (i + 2)), vI (sv xs (i + 3))]) (rest := []) C2 A2.2.2.2.1 dL_law_2776 lL_346 w6_book (rc_model (show 154 ≤ gN G by omega)) (ev6_book C2.lt (show 154 ≤ gN G by omega) h2) rfl rfl (Nat.le_of_ble_eq_true rfl) (Nat.le_of_ble_eq_true rfl) (Nat.le_of_ble_eq_true rfl) (show cells + 3 ≤ 601024 by omega) (show slots + 18 ≤ 7293034 by omega) ?_
  show At (gO G z) X (cells + 3) (slots + 18) 2779 ((5, vI (cod [eI, eA, eS] e)) :: LV (gO G z) b i) [vI bb] V2
  refine x_istore A2.2.2.2.2.1 C2 dL_law_2779 rfl ?_
  refine tl_I A2 h3 cod_rg (fun c => ?_) (by omega) (by omega) dL_law_2781 dL_law_2782 dL_law_2785 dL_law_2787 dL_law_2792 dL_law_2794 dL_law_2797 dL_law_2798 dL_law_2799 dL_law_2800 dL_law_2802 dL_law_2803 dL_law_2804 dL_law_2809 rfl (K.gO V2 S' P' _ _ h5 (by omega) (by omega))
  obtain ⟨r, hr⟩ := cod_e c
  have e1 := hz2 r hr
  have e2 := h4 r hr
  rw [gO_6 (by rw [e1]; exact (rg_nrm r).1), e1, e2]
theorem lc_request {G : GT} {X : CT} {cells slots b L : Nat} {xs : Nat → Int32} {i : Int} {V : VV} {S : Su} {P : Pl} (A : LA G X b L xs) (hi : 0 ≤ i) (hi2 : i + 6 ≤ (L : Int)) (h : RV V S P) (hc : cells + 10 ≤ 601024) (hs : slots + 60 ≤ 7293034) (K : Nx G X b i cells slots) : At G X cells slots 2812 (LV G b i) [] V := by
  obtain ⟨e, V1, bb, V2, h1, h2, h3, h4, S', P', h5⟩ := op_request (sv_rg (xs := xs) (k := i + 1)) (swb_01 (xs := xs) (k := i + 2)) (sv_rg (xs := xs) (k := i + 3)) (sv_rg (xs := xs) (k := i + 4)) V S P h
  have hN : gN G = 155 := A.2.2.2.2.2.1
  have C := A.1
  refine r_aload_n C dL_law_2812 rfl ?_
  refine ld_arg A dL_law_2813 dL_law_2814 dL_law_2816 dL_law_2817 dL_law_2818 rfl rfl (by omega) (by omega) ?_
  refine ld_bool A dL_law_2819 dL_law_2820 dL_law_2822 dL_law_2823 dL_law_2824 dL_law_2825 dL_law_2828 dL_law_2829 dL_law_2832 rfl rfl (by omega) (by omega) ?_
  refine ld_arg A dL_law_2833 dL_law_2834 dL_law_2836 dL_law_2837 dL_law_2838 rfl rfl (by omega) (by omega) ?_
  refine ld_arg A dL_law_2839 dL_law_2840 dL_law_2842 dL_law_2843 dL_law_2844 rfl rfl (by omega) (by omega) ?_
  refine r_aload_n C dL_law_2845 rfl ?_
  refine q_callW (n := 6) (As := [.ref (gB G + 0), vI (sv xs (i + 1)), vI (swb xs (i + 2)), vI (sv xs (i + 3)), vI (sv xs (i + 4)), .ref (gB G + 154)]) (rest := []) C A.2.2.1 A.2.2.2.1 dL_law_2846 lL_347 whL_request wiL (by decide +kernel) (by decide +kernel) (ew_request C.lt hN A.2.2.2.2.2.2.1 h1) rfl rfl (Nat.le_of_ble_eq_true rfl) (Nat.le_of_ble_eq_true rfl) (Nat.le_of_ble_eq_true rfl) (show cells + 3 ≤ 601024 by omega) (show slots + 18 ≤ 7293034 by omega) ?_
  obtain ⟨z, hz, hz2⟩ := oGI_ex (G := G) (e := e)
  rw [hz]
  refine AtH.gO (z := z) ?_
  have A2 := A.gO (z := z)
  have C2 := A2.1
  show At (gO G z) X (cells + 3) (slots + 18) 2849 (LV (gO G z) b i) [vI (cod [eI, eA, eS] e)] V1
  refine x_istore A2.2.2.2.2.1 C2 dL_law_2849 rfl ?_
  refine r_aload_n C2 dL_law_2851 rfl ?_
  refine ld_arg A2 dL_law_2852 dL_law_2853 dL_law_2855 dL_law_2856 dL_law_2857 rfl rfl (by omega) (by omega) ?_
  refine ld_bool A2 dL_law_2858 dL_law_2859 dL_law_2861 dL_law_2862 dL_law_2863 dL_law_2864 dL_law_2867 dL_law_2868 dL_law_2871 rfl rfl (by omega) (by omega) ?_
  refine ld_arg A2 dL_law_2872 dL_law_2873 dL_law_2875 dL_law_2876 dL_law_2877 rfl rfl (by omega) (by omega) ?_
  refine ld_arg A2 dL_law_2878 dL_law_2879 dL_law_2881 dL_law_2882 dL_law_2883 rfl rfl (by omega) (by omega) ?_
  refine q_callV (kk0 := 148) (As := [vI (sv xs (i + 1)), vI (swb xs (i + 2)), vI (sv xs (i + 3)), vI (sv xs (i + 4))]) (rest := []) C2 A2.2.2.2.1 dL_law_2884 lL_350 w6_request (rc_model (show 154 ≤ gN G by omega)) (ev6_request C2.lt (show 154 ≤ gN G by omega) h2) rfl rfl (Nat.le_of_ble_eq_true rfl) (Nat.le_of_ble_eq_true rfl) (Nat.le_of_ble_eq_true rfl) (show cells + 3 ≤ 601024 by omega) (show slots + 18 ≤ 7293034 by omega) ?_
  show At (gO G z) X (cells + 3) (slots + 18) 2887 ((5, vI (cod [eI, eA, eS] e)) :: LV (gO G z) b i) [vI bb] V2
  refine x_istore A2.2.2.2.2.1 C2 dL_law_2887 rfl ?_
  refine tl_I A2 h3 cod_rg (fun c => ?_) (by omega) (by omega) dL_law_2889 dL_law_2890 dL_law_2893 dL_law_2895 dL_law_2900 dL_law_2902 dL_law_2905 dL_law_2906 dL_law_2907 dL_law_2908 dL_law_2910 dL_law_2911 dL_law_2912 dL_law_2917 rfl (K.gO V2 S' P' _ _ h5 (by omega) (by omega))
  obtain ⟨r, hr⟩ := cod_e c
  have e1 := hz2 r hr
  have e2 := h4 r hr
  rw [gO_6 (by rw [e1]; exact (rg_nrm r).1), e1, e2]
theorem lc_cancel {G : GT} {X : CT} {cells slots b L : Nat} {xs : Nat → Int32} {i : Int} {V : VV} {S : Su} {P : Pl} (A : LA G X b L xs) (hi : 0 ≤ i) (hi2 : i + 6 ≤ (L : Int)) (h : RV V S P) (hc : cells + 10 ≤ 601024) (hs : slots + 60 ≤ 7293034) (K : Nx G X b i cells slots) : At G X cells slots 2920 (LV G b i) [] V := by
  obtain ⟨e, V1, bb, V2, h1, h2, h3, h4, S', P', h5⟩ := op_cancel (sv_rg (xs := xs) (k := i + 1)) V S P h
  have hN : gN G = 155 := A.2.2.2.2.2.1
  have C := A.1
  refine r_aload_n C dL_law_2920 rfl ?_
  refine ld_arg A dL_law_2921 dL_law_2922 dL_law_2924 dL_law_2925 dL_law_2926 rfl rfl (by omega) (by omega) ?_
  refine r_aload_n C dL_law_2927 rfl ?_
  refine q_callW (n := 3) (As := [.ref (gB G + 0), vI (sv xs (i + 1)), .ref (gB G + 154)]) (rest := []) C A.2.2.1 A.2.2.2.1 dL_law_2928 lL_351 whL_cancel wiL (by decide +kernel) (by decide +kernel) (ew_cancel C.lt hN A.2.2.2.2.2.2.1 h1) rfl rfl (Nat.le_of_ble_eq_true rfl) (Nat.le_of_ble_eq_true rfl) (Nat.le_of_ble_eq_true rfl) (show cells + 3 ≤ 601024 by omega) (show slots + 18 ≤ 7293034 by omega) ?_
  obtain ⟨z, hz, hz2⟩ := oGI_ex (G := G) (e := e)
  rw [hz]
  refine AtH.gO (z := z) ?_
  have A2 := A.gO (z := z)
  have C2 := A2.1
  show At (gO G z) X (cells + 3) (slots + 18) 2931 (LV (gO G z) b i) [vI (cod [eI, eS] e)] V1
  refine x_istore A2.2.2.2.2.1 C2 dL_law_2931 rfl ?_
  refine r_aload_n C2 dL_law_2933 rfl ?_
  refine ld_arg A2 dL_law_2934 dL_law_2935 dL_law_2937 dL_law_2938 dL_law_2939 rfl rfl (by omega) (by omega) ?_
  refine q_callV (kk0 := 148) (As := [vI (sv xs (i + 1))]) (rest := []) C2 A2.2.2.2.1 dL_law_2940 lL_353 w6_cancel (rc_model (show 154 ≤ gN G by omega)) (ev6_cancel C2.lt (show 154 ≤ gN G by omega) h2) rfl rfl (Nat.le_of_ble_eq_true rfl) (Nat.le_of_ble_eq_true rfl) (Nat.le_of_ble_eq_true rfl) (show cells + 3 ≤ 601024 by omega) (show slots + 18 ≤ 7293034 by omega) ?_
  show At (gO G z) X (cells + 3) (slots + 18) 2943 ((5, vI (cod [eI, eS] e)) :: LV (gO G z) b i) [vI bb] V2
  refine x_istore A2.2.2.2.2.1 C2 dL_law_2943 rfl ?_
  refine tl_I A2 h3 cod_rg (fun c => ?_) (by omega) (by omega) dL_law_2945 dL_law_2946 dL_law_2949 dL_law_2951 dL_law_2956 dL_law_2958 dL_law_2961 dL_law_2962 dL_law_2963 dL_law_2964 dL_law_2966 dL_law_2967 dL_law_2968 dL_law_2973 rfl (K.gO V2 S' P' _ _ h5 (by omega) (by omega))
  obtain ⟨r, hr⟩ := cod_e c
  have e1 := hz2 r hr
  have e2 := h4 r hr
  rw [gO_6 (by rw [e1]; exact (rg_nrm r).1), e1, e2]
theorem lc_moveBooking {G : GT} {X : CT} {cells slots b L : Nat} {xs : Nat → Int32} {i : Int} {V : VV} {S : Su} {P : Pl} (A : LA G X b L xs) (hi : 0 ≤ i) (hi2 : i + 6 ≤ (L : Int)) (h : RV V S P) (hc : cells + 10 ≤ 601024) (hs : slots + 60 ≤ 7293034) (K : Nx G X b i cells slots) : At G X cells slots 2976 (LV G b i) [] V := by
  obtain ⟨e, V1, bb, V2, h1, h2, h3, h4, S', P', h5⟩ := op_moveBooking (sv_rg (xs := xs) (k := i + 1)) (sv_rg (xs := xs) (k := i + 2)) V S P h
  have hN : gN G = 155 := A.2.2.2.2.2.1
  have C := A.1
  refine r_aload_n C dL_law_2976 rfl ?_
  refine ld_arg A dL_law_2977 dL_law_2978 dL_law_2980 dL_law_2981 dL_law_2982 rfl rfl (by omega) (by omega) ?_
  refine ld_arg A dL_law_2983 dL_law_2984 dL_law_2986 dL_law_2987 dL_law_2988 rfl rfl (by omega) (by omega) ?_
  refine r_aload_n C dL_law_2989 rfl ?_
  refine q_callW (n := 4) (As := [.ref (gB G + 0), vI (sv xs (i + 1)), vI (sv xs (i + 2)), .ref (gB G + 154)]) (rest := []) C A.2.2.1 A.2.2.2.1 dL_law_2990 lL_354 whL_moveBooking wiL (by decide +kernel) (by decide +kernel) (ew_moveBooking C.lt hN A.2.2.2.2.2.2.1 h1) rfl rfl (Nat.le_of_ble_eq_true rfl) (Nat.le_of_ble_eq_true rfl) (Nat.le_of_ble_eq_true rfl) (show cells + 3 ≤ 601024 by omega) (show slots + 18 ≤ 7293034 by omega) ?_
  obtain ⟨z, hz, hz2⟩ := oGI_ex (G := G) (e := e)
  rw [hz]
  refine AtH.gO (z := z) ?_
  have A2 := A.gO (z := z)
  have C2 := A2.1
  show At (gO G z) X (cells + 3) (slots + 18) 2993 (LV (gO G z) b i) [vI (cod [eI, eA, eS] e)] V1
  refine x_istore A2.2.2.2.2.1 C2 dL_law_2993 rfl ?_
  refine r_aload_n C2 dL_law_2995 rfl ?_
  refine ld_arg A2 dL_law_2996 dL_law_2997 dL_law_2999 dL_law_3000 dL_law_3001 rfl rfl (by omega) (by omega) ?_
  refine ld_arg A2 dL_law_3002 dL_law_3003 dL_law_3005 dL_law_3006 dL_law_3007 rfl rfl (by omega) (by omega) ?_
  refine q_callV (kk0 := 148) (As := [vI (sv xs (i + 1)), vI (sv xs (i + 2))]) (rest := []) C2 A2.2.2.2.1 dL_law_3008 lL_356 w6_moveBooking (rc_model (show 154 ≤ gN G by omega)) (ev6_moveBooking C2.lt (show 154 ≤ gN G by omega) h2) rfl rfl (Nat.le_of_ble_eq_true rfl) (Nat.le_of_ble_eq_true rfl) (Nat.le_of_ble_eq_true rfl) (show cells + 3 ≤ 601024 by omega) (show slots + 18 ≤ 7293034 by omega) ?_
  show At (gO G z) X (cells + 3) (slots + 18) 3011 ((5, vI (cod [eI, eA, eS] e)) :: LV (gO G z) b i) [vI bb] V2
  refine x_istore A2.2.2.2.2.1 C2 dL_law_3011 rfl ?_
  refine tl_I A2 h3 cod_rg (fun c => ?_) (by omega) (by omega) dL_law_3013 dL_law_3014 dL_law_3017 dL_law_3019 dL_law_3024 dL_law_3026 dL_law_3029 dL_law_3030 dL_law_3031 dL_law_3032 dL_law_3034 dL_law_3035 dL_law_3036 dL_law_3041 rfl (K.gO V2 S' P' _ _ h5 (by omega) (by omega))
  obtain ⟨r, hr⟩ := cod_e c
  have e1 := hz2 r hr
  have e2 := h4 r hr
  rw [gO_6 (by rw [e1]; exact (rg_nrm r).1), e1, e2]
theorem lc_withdraw {G : GT} {X : CT} {cells slots b L : Nat} {xs : Nat → Int32} {i : Int} {V : VV} {S : Su} {P : Pl} (A : LA G X b L xs) (hi : 0 ≤ i) (hi2 : i + 6 ≤ (L : Int)) (h : RV V S P) (hc : cells + 10 ≤ 601024) (hs : slots + 60 ≤ 7293034) (K : Nx G X b i cells slots) : At G X cells slots 3044 (LV G b i) [] V := by
  obtain ⟨e, V1, bb, V2, h1, h2, h3, h4, S', P', h5⟩ := op_withdraw (sv_rg (xs := xs) (k := i + 1)) V S P h
  have hN : gN G = 155 := A.2.2.2.2.2.1
  have C := A.1
  refine r_aload_n C dL_law_3044 rfl ?_
  refine ld_arg A dL_law_3045 dL_law_3046 dL_law_3048 dL_law_3049 dL_law_3050 rfl rfl (by omega) (by omega) ?_
  refine r_aload_n C dL_law_3051 rfl ?_
  refine q_callW (n := 3) (As := [.ref (gB G + 0), vI (sv xs (i + 1)), .ref (gB G + 154)]) (rest := []) C A.2.2.1 A.2.2.2.1 dL_law_3052 lL_357 whL_withdraw wiL (by decide +kernel) (by decide +kernel) (ew_withdraw C.lt hN A.2.2.2.2.2.2.1 h1) rfl rfl (Nat.le_of_ble_eq_true rfl) (Nat.le_of_ble_eq_true rfl) (Nat.le_of_ble_eq_true rfl) (show cells + 1 ≤ 601024 by omega) (show slots + 6 ≤ 7293034 by omega) ?_
  obtain ⟨z, hz, hz2⟩ := oGI_ex (G := G) (e := e)
  rw [hz]
  refine AtH.gO (z := z) ?_
  have A2 := A.gO (z := z)
  have C2 := A2.1
  show At (gO G z) X (cells + 1) (slots + 6) 3055 (LV (gO G z) b i) [vI (cod [eI] e)] V1
  refine x_istore A2.2.2.2.2.1 C2 dL_law_3055 rfl ?_
  refine r_aload_n C2 dL_law_3057 rfl ?_
  refine ld_arg A2 dL_law_3058 dL_law_3059 dL_law_3061 dL_law_3062 dL_law_3063 rfl rfl (by omega) (by omega) ?_
  refine q_callV (kk0 := 148) (As := [vI (sv xs (i + 1))]) (rest := []) C2 A2.2.2.2.1 dL_law_3064 lL_359 w6_withdraw (rc_model (show 154 ≤ gN G by omega)) (ev6_withdraw C2.lt (show 154 ≤ gN G by omega) h2) rfl rfl (Nat.le_of_ble_eq_true rfl) (Nat.le_of_ble_eq_true rfl) (Nat.le_of_ble_eq_true rfl) (show cells + 1 ≤ 601024 by omega) (show slots + 6 ≤ 7293034 by omega) ?_
  show At (gO G z) X (cells + 1) (slots + 6) 3067 ((5, vI (cod [eI] e)) :: LV (gO G z) b i) [vI bb] V2
  refine x_istore A2.2.2.2.2.1 C2 dL_law_3067 rfl ?_
  refine tl_I A2 h3 cod_rg (fun c => ?_) (by omega) (by omega) dL_law_3069 dL_law_3070 dL_law_3073 dL_law_3075 dL_law_3080 dL_law_3082 dL_law_3085 dL_law_3086 dL_law_3087 dL_law_3088 dL_law_3090 dL_law_3091 dL_law_3092 dL_law_3097 rfl (K.gO V2 S' P' _ _ h5 (by omega) (by omega))
  obtain ⟨r, hr⟩ := cod_e c
  have e1 := hz2 r hr
  have e2 := h4 r hr
  rw [gO_6 (by rw [e1]; exact (rg_nrm r).1), e1, e2]
theorem lc_setThickness {G : GT} {X : CT} {cells slots b L : Nat} {xs : Nat → Int32} {i : Int} {V : VV} {S : Su} {P : Pl} (A : LA G X b L xs) (hi : 0 ≤ i) (hi2 : i + 6 ≤ (L : Int)) (h : RV V S P) (hc : cells + 10 ≤ 601024) (hs : slots + 60 ≤ 7293034) (K : Nx G X b i cells slots) : At G X cells slots 3100 (LV G b i) [] V := by
  obtain ⟨e, V1, bb, V2, h1, h2, h3, h4, S', P', h5⟩ := op_setThickness (sv_rg (xs := xs) (k := i + 1)) V S P h
  have hN : gN G = 155 := A.2.2.2.2.2.1
  have C := A.1
  refine r_aload_n C dL_law_3100 rfl ?_
  refine ld_arg A dL_law_3101 dL_law_3102 dL_law_3104 dL_law_3105 dL_law_3106 rfl rfl (by omega) (by omega) ?_
  refine r_aload_n C dL_law_3107 rfl ?_
  refine q_callW (n := 3) (As := [.ref (gB G + 0), vI (sv xs (i + 1)), .ref (gB G + 154)]) (rest := []) C A.2.2.1 A.2.2.2.1 dL_law_3108 lL_360 whL_setThickness wiL (by decide +kernel) (by decide +kernel) (ew_setThickness C.lt hN A.2.2.2.2.2.2.1 h1) rfl rfl (Nat.le_of_ble_eq_true rfl) (Nat.le_of_ble_eq_true rfl) (Nat.le_of_ble_eq_true rfl) (show cells + 1 ≤ 601024 by omega) (show slots + 6 ≤ 7293034 by omega) ?_
  obtain ⟨z, hz, hz2⟩ := oGI_ex (G := G) (e := e)
  rw [hz]
  refine AtH.gO (z := z) ?_
  have A2 := A.gO (z := z)
  have C2 := A2.1
  show At (gO G z) X (cells + 1) (slots + 6) 3111 (LV (gO G z) b i) [vI (cod [eA] e)] V1
  refine x_istore A2.2.2.2.2.1 C2 dL_law_3111 rfl ?_
  refine r_aload_n C2 dL_law_3113 rfl ?_
  refine ld_arg A2 dL_law_3114 dL_law_3115 dL_law_3117 dL_law_3118 dL_law_3119 rfl rfl (by omega) (by omega) ?_
  refine q_callV (kk0 := 148) (As := [vI (sv xs (i + 1))]) (rest := []) C2 A2.2.2.2.1 dL_law_3120 lL_362 w6_setThickness (rc_model (show 154 ≤ gN G by omega)) (ev6_setThickness C2.lt (show 154 ≤ gN G by omega) h2) rfl rfl (Nat.le_of_ble_eq_true rfl) (Nat.le_of_ble_eq_true rfl) (Nat.le_of_ble_eq_true rfl) (show cells + 1 ≤ 601024 by omega) (show slots + 6 ≤ 7293034 by omega) ?_
  show At (gO G z) X (cells + 1) (slots + 6) 3123 ((5, vI (cod [eA] e)) :: LV (gO G z) b i) [vI bb] V2
  refine x_istore A2.2.2.2.2.1 C2 dL_law_3123 rfl ?_
  refine tl_I A2 h3 cod_rg (fun c => ?_) (by omega) (by omega) dL_law_3125 dL_law_3126 dL_law_3129 dL_law_3131 dL_law_3136 dL_law_3138 dL_law_3141 dL_law_3142 dL_law_3143 dL_law_3144 dL_law_3146 dL_law_3147 dL_law_3148 dL_law_3153 rfl (K.gO V2 S' P' _ _ h5 (by omega) (by omega))
  obtain ⟨r, hr⟩ := cod_e c
  have e1 := hz2 r hr
  have e2 := h4 r hr
  rw [gO_6 (by rw [e1]; exact (rg_nrm r).1), e1, e2]
theorem lc_advance {G : GT} {X : CT} {cells slots b L : Nat} {xs : Nat → Int32} {i : Int} {V : VV} {S : Su} {P : Pl} (A : LA G X b L xs) (hi : 0 ≤ i) (hi2 : i + 6 ≤ (L : Int)) (h : RV V S P) (hc : cells + 10 ≤ 601024) (hs : slots + 60 ≤ 7293034) (K : Nx G X b i cells slots) : At G X cells slots 3156 (LV G b i) [] V := by
  obtain ⟨e, V1, bb, V2, h1, h2, h3, h4, S', P', h5⟩ := op_advance (sv_rg (xs := xs) (k := i + 1)) V S P h
  have hN : gN G = 155 := A.2.2.2.2.2.1
  have C := A.1
  refine r_aload_n C dL_law_3156 rfl ?_
  refine ld_arg A dL_law_3157 dL_law_3158 dL_law_3160 dL_law_3161 dL_law_3162 rfl rfl (by omega) (by omega) ?_
  refine r_aload_n C dL_law_3163 rfl ?_
  refine q_callW (n := 3) (As := [.ref (gB G + 0), vI (sv xs (i + 1)), .ref (gB G + 154)]) (rest := []) C A.2.2.1 A.2.2.2.1 dL_law_3164 lL_363 whL_advance wiL (by decide +kernel) (by decide +kernel) (ew_advance C.lt hN A.2.2.2.2.2.2.1 h1) rfl rfl (Nat.le_of_ble_eq_true rfl) (Nat.le_of_ble_eq_true rfl) (Nat.le_of_ble_eq_true rfl) (show cells + 3 ≤ 601024 by omega) (show slots + 18 ≤ 7293034 by omega) ?_
  obtain ⟨z, hz, hz2⟩ := oGI_ex (G := G) (e := e)
  rw [hz]
  refine AtH.gO (z := z) ?_
  have A2 := A.gO (z := z)
  have C2 := A2.1
  show At (gO G z) X (cells + 3) (slots + 18) 3167 (LV (gO G z) b i) [vI (cod [eA, eS] e)] V1
  refine x_istore A2.2.2.2.2.1 C2 dL_law_3167 rfl ?_
  refine r_aload_n C2 dL_law_3169 rfl ?_
  refine ld_arg A2 dL_law_3170 dL_law_3171 dL_law_3173 dL_law_3174 dL_law_3175 rfl rfl (by omega) (by omega) ?_
  refine q_callV (kk0 := 148) (As := [vI (sv xs (i + 1))]) (rest := []) C2 A2.2.2.2.1 dL_law_3176 lL_365 w6_advance (rc_model (show 154 ≤ gN G by omega)) (ev6_advance C2.lt (show 154 ≤ gN G by omega) h2) rfl rfl (Nat.le_of_ble_eq_true rfl) (Nat.le_of_ble_eq_true rfl) (Nat.le_of_ble_eq_true rfl) (show cells + 3 ≤ 601024 by omega) (show slots + 18 ≤ 7293034 by omega) ?_
  show At (gO G z) X (cells + 3) (slots + 18) 3179 ((5, vI (cod [eA, eS] e)) :: LV (gO G z) b i) [vI bb] V2
  refine x_istore A2.2.2.2.2.1 C2 dL_law_3179 rfl ?_
  refine tl_I A2 h3 cod_rg (fun c => ?_) (by omega) (by omega) dL_law_3181 dL_law_3182 dL_law_3185 dL_law_3187 dL_law_3192 dL_law_3194 dL_law_3197 dL_law_3198 dL_law_3199 dL_law_3200 dL_law_3202 dL_law_3203 dL_law_3204 dL_law_3209 rfl (K.gO V2 S' P' _ _ h5 (by omega) (by omega))
  obtain ⟨r, hr⟩ := cod_e c
  have e1 := hz2 r hr
  have e2 := h4 r hr
  rw [gO_6 (by rw [e1]; exact (rg_nrm r).1), e1, e2]
theorem lc_runScript {G : GT} {X : CT} {cells slots b L : Nat} {xs : Nat → Int32} {i : Int} {V : VV} {S : Su} {P : Pl} (A : LA G X b L xs) (hi : 0 ≤ i) (hi2 : i + 6 ≤ (L : Int)) (h : RV V S P) (hc : cells + 10 ≤ 601024) (hs : slots + 60 ≤ 7293034) (K : Nx G X b i cells slots) : At G X cells slots 3212 (LV G b i) [] V := by
  obtain ⟨e, V1, bb, V2, h1, h2, h3, h4, S', P', h5⟩ := op_runScript  V S P h
  have hN : gN G = 155 := A.2.2.2.2.2.1
  have C := A.1
  refine r_aload_n C dL_law_3212 rfl ?_
  refine r_aload_n C dL_law_3213 rfl ?_
  refine q_callW (n := 2) (As := [.ref (gB G + 0), .ref (gB G + 154)]) (rest := []) C A.2.2.1 A.2.2.2.1 dL_law_3214 lL_366 whL_runScript wiL (by decide +kernel) (by decide +kernel) (ew_runScript C.lt hN A.2.2.2.2.2.2.1 h1) rfl rfl (Nat.le_of_ble_eq_true rfl) (Nat.le_of_ble_eq_true rfl) (Nat.le_of_ble_eq_true rfl) (show cells + 1 ≤ 601024 by omega) (show slots + 6 ≤ 7293034 by omega) ?_
  obtain ⟨z, hz, hz2⟩ := oGI_ex (G := G) (e := e)
  rw [hz]
  refine AtH.gO (z := z) ?_
  have A2 := A.gO (z := z)
  have C2 := A2.1
  show At (gO G z) X (cells + 1) (slots + 6) 3217 (LV (gO G z) b i) [vI (cod [eA] e)] V1
  refine x_istore A2.2.2.2.2.1 C2 dL_law_3217 rfl ?_
  refine r_aload_n C2 dL_law_3219 rfl ?_
  refine q_callV (kk0 := 148) (As := []) (rest := []) C2 A2.2.2.2.1 dL_law_3220 lL_368 w6_runScript (rc_model (show 154 ≤ gN G by omega)) (ev6_runScript C2.lt (show 154 ≤ gN G by omega) h2) rfl rfl (Nat.le_of_ble_eq_true rfl) (Nat.le_of_ble_eq_true rfl) (Nat.le_of_ble_eq_true rfl) (show cells + 1 ≤ 601024 by omega) (show slots + 6 ≤ 7293034 by omega) ?_
  show At (gO G z) X (cells + 1) (slots + 6) 3223 ((5, vI (cod [eA] e)) :: LV (gO G z) b i) [vI bb] V2
  refine x_istore A2.2.2.2.2.1 C2 dL_law_3223 rfl ?_
  refine tl_I A2 h3 cod_rg (fun c => ?_) (by omega) (by omega) dL_law_3225 dL_law_3226 dL_law_3229 dL_law_3231 dL_law_3236 dL_law_3238 dL_law_3241 dL_law_3242 dL_law_3243 dL_law_3244 dL_law_3246 dL_law_3247 dL_law_3248 dL_law_3253 rfl (K.gO V2 S' P' _ _ h5 (by omega) (by omega))
  obtain ⟨r, hr⟩ := cod_e c
  have e1 := hz2 r hr
  have e2 := h4 r hr
  rw [gO_6 (by rw [e1]; exact (rg_nrm r).1), e1, e2]
theorem lc_undo {G : GT} {X : CT} {cells slots b L : Nat} {xs : Nat → Int32} {i : Int} {V : VV} {S : Su} {P : Pl} (A : LA G X b L xs) (hi : 0 ≤ i) (hi2 : i + 6 ≤ (L : Int)) (h : RV V S P) (hc : cells + 10 ≤ 601024) (hs : slots + 60 ≤ 7293034) (K : Nx G X b i cells slots) : At G X cells slots 3256 (LV G b i) [] V := by
  obtain ⟨e, V1, bb, V2, h1, h2, h3, h4, S', P', h5⟩ := op_undo  V S P h
  have hN : gN G = 155 := A.2.2.2.2.2.1
  have C := A.1
  refine r_aload_n C dL_law_3256 rfl ?_
  refine r_aload_n C dL_law_3257 rfl ?_
  refine q_callW (n := 2) (As := [.ref (gB G + 0), .ref (gB G + 154)]) (rest := []) C A.2.2.1 A.2.2.2.1 dL_law_3258 lL_369 whL_undo wiL (by decide +kernel) (by decide +kernel) (ew_undo C.lt hN A.2.2.2.2.2.2.1 h1) rfl rfl (Nat.le_of_ble_eq_true rfl) (Nat.le_of_ble_eq_true rfl) (Nat.le_of_ble_eq_true rfl) (show cells + 1 ≤ 601024 by omega) (show slots + 6 ≤ 7293034 by omega) ?_
  obtain ⟨z, hz, hz2⟩ := oGI_ex (G := G) (e := e)
  rw [hz]
  refine AtH.gO (z := z) ?_
  have A2 := A.gO (z := z)
  have C2 := A2.1
  show At (gO G z) X (cells + 1) (slots + 6) 3261 (LV (gO G z) b i) [vI (cod [eS] e)] V1
  refine x_istore A2.2.2.2.2.1 C2 dL_law_3261 rfl ?_
  refine r_aload_n C2 dL_law_3263 rfl ?_
  refine q_callV (kk0 := 148) (As := []) (rest := []) C2 A2.2.2.2.1 dL_law_3264 lL_371 w6_undo (rc_model (show 154 ≤ gN G by omega)) (ev6_undo C2.lt (show 154 ≤ gN G by omega) h2) rfl rfl (Nat.le_of_ble_eq_true rfl) (Nat.le_of_ble_eq_true rfl) (Nat.le_of_ble_eq_true rfl) (show cells + 1 ≤ 601024 by omega) (show slots + 6 ≤ 7293034 by omega) ?_
  show At (gO G z) X (cells + 1) (slots + 6) 3267 ((5, vI (cod [eS] e)) :: LV (gO G z) b i) [vI bb] V2
  refine x_istore A2.2.2.2.2.1 C2 dL_law_3267 rfl ?_
  refine tl_I A2 h3 cod_rg (fun c => ?_) (by omega) (by omega) dL_law_3269 dL_law_3270 dL_law_3273 dL_law_3275 dL_law_3280 dL_law_3282 dL_law_3285 dL_law_3286 dL_law_3287 dL_law_3288 dL_law_3290 dL_law_3291 dL_law_3292 dL_law_3297 rfl (K.gO V2 S' P' _ _ h5 (by omega) (by omega))
  obtain ⟨r, hr⟩ := cod_e c
  have e1 := hz2 r hr
  have e2 := h4 r hr
  rw [gO_6 (by rw [e1]; exact (rg_nrm r).1), e1, e2]
theorem lc_save {G : GT} {X : CT} {cells slots b L : Nat} {xs : Nat → Int32} {i : Int} {V : VV} {S : Su} {P : Pl} (A : LA G X b L xs) (hi : 0 ≤ i) (hi2 : i + 6 ≤ (L : Int)) (h : RV V S P) (hc : cells + 10 ≤ 601024) (hs : slots + 60 ≤ 7293034) (K : Nx G X b i cells slots) : At G X cells slots 3300 (LV G b i) [] V := by
  obtain ⟨e, V1, bb, V2, h1, h2, h3, h4, S', P', h5⟩ := op_save (sv_rg (xs := xs) (k := i + 1)) V S P h
  have hN : gN G = 155 := A.2.2.2.2.2.1
  have C := A.1
  refine r_aload_n C dL_law_3300 rfl ?_
  refine ld_arg A dL_law_3301 dL_law_3302 dL_law_3304 dL_law_3305 dL_law_3306 rfl rfl (by omega) (by omega) ?_
  refine r_aload_n C dL_law_3307 rfl ?_
  refine q_callW (n := 3) (As := [.ref (gB G + 0), vI (sv xs (i + 1)), .ref (gB G + 154)]) (rest := []) C A.2.2.1 A.2.2.2.1 dL_law_3308 lL_372 whL_save wiL (by decide +kernel) (by decide +kernel) (ew_save C.lt hN A.2.2.2.2.2.2.1 h1) rfl rfl (Nat.le_of_ble_eq_true rfl) (Nat.le_of_ble_eq_true rfl) (Nat.le_of_ble_eq_true rfl) (show cells + 1 ≤ 601024 by omega) (show slots + 6 ≤ 7293034 by omega) ?_
  obtain ⟨z, hz, hz2⟩ := oGI_ex (G := G) (e := e)
  rw [hz]
  refine AtH.gO (z := z) ?_
  have A2 := A.gO (z := z)
  have C2 := A2.1
  show At (gO G z) X (cells + 1) (slots + 6) 3311 (LV (gO G z) b i) [vI (cod [eI] e)] V1
  refine x_istore A2.2.2.2.2.1 C2 dL_law_3311 rfl ?_
  refine r_aload_n C2 dL_law_3313 rfl ?_
  refine ld_arg A2 dL_law_3314 dL_law_3315 dL_law_3317 dL_law_3318 dL_law_3319 rfl rfl (by omega) (by omega) ?_
  refine q_callV (kk0 := 148) (As := [vI (sv xs (i + 1))]) (rest := []) C2 A2.2.2.2.1 dL_law_3320 lL_374 w6_save (rc_model (show 154 ≤ gN G by omega)) (ev6_save C2.lt (show 154 ≤ gN G by omega) h2) rfl rfl (Nat.le_of_ble_eq_true rfl) (Nat.le_of_ble_eq_true rfl) (Nat.le_of_ble_eq_true rfl) (show cells + 1 ≤ 601024 by omega) (show slots + 6 ≤ 7293034 by omega) ?_
  show At (gO G z) X (cells + 1) (slots + 6) 3323 ((5, vI (cod [eI] e)) :: LV (gO G z) b i) [vI bb] V2
  refine x_istore A2.2.2.2.2.1 C2 dL_law_3323 rfl ?_
  refine tl_I A2 h3 cod_rg (fun c => ?_) (by omega) (by omega) dL_law_3325 dL_law_3326 dL_law_3329 dL_law_3331 dL_law_3336 dL_law_3338 dL_law_3341 dL_law_3342 dL_law_3343 dL_law_3344 dL_law_3346 dL_law_3347 dL_law_3348 dL_law_3353 rfl (K.gO V2 S' P' _ _ h5 (by omega) (by omega))
  obtain ⟨r, hr⟩ := cod_e c
  have e1 := hz2 r hr
  have e2 := h4 r hr
  rw [gO_6 (by rw [e1]; exact (rg_nrm r).1), e1, e2]
theorem lc_restore {G : GT} {X : CT} {cells slots b L : Nat} {xs : Nat → Int32} {i : Int} {V : VV} {S : Su} {P : Pl} (A : LA G X b L xs) (hi : 0 ≤ i) (hi2 : i + 6 ≤ (L : Int)) (h : RV V S P) (hc : cells + 10 ≤ 601024) (hs : slots + 60 ≤ 7293034) (K : Nx G X b i cells slots) : At G X cells slots 3356 (LV G b i) [] V := by
  obtain ⟨e, V1, bb, V2, h1, h2, h3, h4, S', P', h5⟩ := op_restore (sv_rg (xs := xs) (k := i + 1)) V S P h
  have hN : gN G = 155 := A.2.2.2.2.2.1
  have C := A.1
  refine r_aload_n C dL_law_3356 rfl ?_
  refine ld_arg A dL_law_3357 dL_law_3358 dL_law_3360 dL_law_3361 dL_law_3362 rfl rfl (by omega) (by omega) ?_
  refine r_aload_n C dL_law_3363 rfl ?_
  refine q_callW (n := 3) (As := [.ref (gB G + 0), vI (sv xs (i + 1)), .ref (gB G + 154)]) (rest := []) C A.2.2.1 A.2.2.2.1 dL_law_3364 lL_375 whL_restore wiL (by decide +kernel) (by decide +kernel) (ew_restore C.lt hN A.2.2.2.2.2.2.1 h1) rfl rfl (Nat.le_of_ble_eq_true rfl) (Nat.le_of_ble_eq_true rfl) (Nat.le_of_ble_eq_true rfl) (show cells + 2 ≤ 601024 by omega) (show slots + 12 ≤ 7293034 by omega) ?_
  obtain ⟨z, hz, hz2⟩ := oGI_ex (G := G) (e := e)
  rw [hz]
  refine AtH.gO (z := z) ?_
  have A2 := A.gO (z := z)
  have C2 := A2.1
  show At (gO G z) X (cells + 2) (slots + 12) 3367 (LV (gO G z) b i) [vI (cod [eI, eS] e)] V1
  refine x_istore A2.2.2.2.2.1 C2 dL_law_3367 rfl ?_
  refine r_aload_n C2 dL_law_3369 rfl ?_
  refine ld_arg A2 dL_law_3370 dL_law_3371 dL_law_3373 dL_law_3374 dL_law_3375 rfl rfl (by omega) (by omega) ?_
  refine q_callV (kk0 := 148) (As := [vI (sv xs (i + 1))]) (rest := []) C2 A2.2.2.2.1 dL_law_3376 lL_377 w6_restore (rc_model (show 154 ≤ gN G by omega)) (ev6_restore C2.lt (show 154 ≤ gN G by omega) h2) rfl rfl (Nat.le_of_ble_eq_true rfl) (Nat.le_of_ble_eq_true rfl) (Nat.le_of_ble_eq_true rfl) (show cells + 2 ≤ 601024 by omega) (show slots + 12 ≤ 7293034 by omega) ?_
  show At (gO G z) X (cells + 2) (slots + 12) 3379 ((5, vI (cod [eI, eS] e)) :: LV (gO G z) b i) [vI bb] V2
  refine x_istore A2.2.2.2.2.1 C2 dL_law_3379 rfl ?_
  refine tl_I A2 h3 cod_rg (fun c => ?_) (by omega) (by omega) dL_law_3381 dL_law_3382 dL_law_3385 dL_law_3387 dL_law_3392 dL_law_3394 dL_law_3397 dL_law_3398 dL_law_3399 dL_law_3400 dL_law_3402 dL_law_3403 dL_law_3404 dL_law_3409 rfl (K.gO V2 S' P' _ _ h5 (by omega) (by omega))
  obtain ⟨r, hr⟩ := cod_e c
  have e1 := hz2 r hr
  have e2 := h4 r hr
  rw [gO_6 (by rw [e1]; exact (rg_nrm r).1), e1, e2]
theorem lc_writeSchedule {G : GT} {X : CT} {cells slots b L : Nat} {xs : Nat → Int32} {i : Int} {V : VV} {S : Su} {P : Pl} (A : LA G X b L xs) (hi : 0 ≤ i) (hi2 : i + 6 ≤ (L : Int)) (h : RV V S P) (hc : cells + 10 ≤ 601024) (hs : slots + 60 ≤ 7293034) (K : Nx G X b i cells slots) : At G X cells slots 3412 (LV G b i) [] V := by
  obtain ⟨r, V1, V2, h1, h2, S', P', h5⟩ := op_writeSchedule V S P h
  have hN : gN G = 155 := A.2.2.2.2.2.1
  have C := A.1
  refine r_aload_n C dL_law_3412 rfl ?_
  refine q_callV (kk0 := 0) (As := []) (rest := []) C A.2.2.2.1 dL_law_3413 lL_378 w5_writeSchedule (rc_main (by omega)) (ev5_writeSchedule C.lt (by omega) h1) rfl rfl (Nat.le_of_ble_eq_true rfl) (Nat.le_of_ble_eq_true rfl) (Nat.le_of_ble_eq_true rfl) (show cells ≤ 601024 by omega) (show slots ≤ 7293034 by omega) ?_
  show At G X cells slots 3416 (LV G b i) [vI r] V1
  refine r_aload_n C dL_law_3416 rfl ?_
  refine q_callV (kk0 := 148) (As := []) (rest := [vI r]) C A.2.2.2.1 dL_law_3417 lL_381 w6_writeSchedule (rc_model (by omega)) (ev6_writeSchedule C.lt (by omega) h2) rfl rfl (Nat.le_of_ble_eq_true rfl) (Nat.le_of_ble_eq_true rfl) (Nat.le_of_ble_eq_true rfl) (show cells ≤ 601024 by omega) (show slots ≤ 7293034 by omega) ?_
  show At G X cells slots 3420 (LV G b i) [vI r, vI r] V2
  refine x_icmpeq (tgt := 3481) C dL_law_3420 rfl (fun _ => ?_) (fun c => absurd rfl c)
  exact K.self V2 S' P' _ _ h5 (by omega) (by omega)
theorem lc_outputByte {G : GT} {X : CT} {cells slots b L : Nat} {xs : Nat → Int32} {i : Int} {V : VV} {S : Su} {P : Pl} (A : LA G X b L xs) (hi : 0 ≤ i) (hi2 : i + 6 ≤ (L : Int)) (h : RV V S P) (hc : cells + 10 ≤ 601024) (hs : slots + 60 ≤ 7293034) (K : Nx G X b i cells slots) : At G X cells slots 3425 (LV G b i) [] V := by
  obtain ⟨e, V1, bb, V2, h1, h2, h3, h4, S', P', h5⟩ := op_outputByte (sv_rg (xs := xs) (k := i + 1)) V S P h
  have hN : gN G = 155 := A.2.2.2.2.2.1
  have C := A.1
  refine r_aload_n C dL_law_3425 rfl ?_
  refine ld_arg A dL_law_3426 dL_law_3427 dL_law_3429 dL_law_3430 dL_law_3431 rfl rfl (by omega) (by omega) ?_
  refine r_aload_n C dL_law_3432 rfl ?_
  refine q_callW (n := 3) (As := [.ref (gB G + 0), vI (sv xs (i + 1)), .ref (gB G + 154)]) (rest := []) C A.2.2.1 A.2.2.2.1 dL_law_3433 lL_382 whL_outputByte wiL (by decide +kernel) (by decide +kernel) (ew_outputByte C.lt hN A.2.2.2.2.2.2.1 h1) rfl rfl (Nat.le_of_ble_eq_true rfl) (Nat.le_of_ble_eq_true rfl) (Nat.le_of_ble_eq_true rfl) (show cells + 1 ≤ 601024 by omega) (show slots + 6 ≤ 7293034 by omega) ?_
  obtain ⟨z, hz, hz2⟩ := oGI_ex (G := G) (e := e)
  rw [hz]
  refine AtH.gO (z := z) ?_
  have A2 := A.gO (z := z)
  have C2 := A2.1
  show At (gO G z) X (cells + 1) (slots + 6) 3436 (LV (gO G z) b i) [vI (cod [eI] e)] V1
  refine x_istore A2.2.2.2.2.1 C2 dL_law_3436 rfl ?_
  refine r_aload_n C2 dL_law_3438 rfl ?_
  refine ld_arg A2 dL_law_3439 dL_law_3440 dL_law_3442 dL_law_3443 dL_law_3444 rfl rfl (by omega) (by omega) ?_
  refine q_callV (kk0 := 148) (As := [vI (sv xs (i + 1))]) (rest := []) C2 A2.2.2.2.1 dL_law_3445 lL_384 w6_outputByte (rc_model (show 154 ≤ gN G by omega)) (ev6_outputByte C2.lt (show 154 ≤ gN G by omega) h2) rfl rfl (Nat.le_of_ble_eq_true rfl) (Nat.le_of_ble_eq_true rfl) (Nat.le_of_ble_eq_true rfl) (show cells + 1 ≤ 601024 by omega) (show slots + 6 ≤ 7293034 by omega) ?_
  show At (gO G z) X (cells + 1) (slots + 6) 3448 ((5, vI (cod [eI] e)) :: LV (gO G z) b i) [vI bb] V2
  refine x_istore A2.2.2.2.2.1 C2 dL_law_3448 rfl ?_
  refine tl_I A2 h3 cod_rg (fun c => ?_) (by omega) (by omega) dL_law_3450 dL_law_3451 dL_law_3454 dL_law_3456 dL_law_3461 dL_law_3463 dL_law_3466 dL_law_3467 dL_law_3468 dL_law_3469 dL_law_3471 dL_law_3472 dL_law_3473 dL_law_3478 rfl (K.gO V2 S' P' _ _ h5 (by omega) (by omega))
  obtain ⟨r, hr⟩ := cod_e c
  have e1 := hz2 r hr
  have e2 := h4 r hr
  rw [gO_6 (by rw [e1]; exact (rg_nrm r).1), e1, e2]
