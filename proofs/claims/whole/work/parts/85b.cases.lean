/-! the law's cases 16 to 31 (printed by g85.py) -/
theorem lc_bookedShip {G : GT} {X : CT} {cells slots b L : Nat} {xs : Nat → Int32} {i : Int} {V : VV} {S : Su} {P : Pl} (A : LA G X b L xs) (hi : 0 ≤ i) (hi2 : i + 6 ≤ (L : Int)) (h : RV V S P) (hc : cells + 10 ≤ 601024) (hs : slots + 60 ≤ 7293034) (K : Nx G X b i cells slots) : At G X cells slots 900 (LV G b i) [] V := by
  obtain ⟨e, V1, bb, V2, h1, h2, h3, h4, S', P', h5⟩ := op_bookedShip (sv_rg (xs := xs) (k := i + 1)) V S P h
  have hN : gN G = 155 := A.2.2.2.2.2.1
  have C := A.1
  refine r_aload_n C dL_law_900 rfl ?_
  refine ld_arg A dL_law_901 dL_law_902 dL_law_904 dL_law_905 dL_law_906 rfl rfl (by omega) (by omega) ?_
  refine r_aload_n C dL_law_907 rfl ?_
  refine q_callW (n := 3) (As := [.ref (gB G + 0), vI (sv xs (i + 1)), .ref (gB G + 154)]) (rest := []) C A.2.2.1 A.2.2.2.1 dL_law_908 lL_225 whL_bookedShip wiL (by decide +kernel) (by decide +kernel) (ew_bookedShip C.lt hN A.2.2.2.2.2.2.1 h1) rfl rfl (Nat.le_of_ble_eq_true rfl) (Nat.le_of_ble_eq_true rfl) (Nat.le_of_ble_eq_true rfl) (show cells + 1 ≤ 601024 by omega) (show slots + 6 ≤ 7293034 by omega) ?_
  obtain ⟨z, hz, hz2⟩ := oGI_ex (G := G) (e := e)
  rw [hz]
  refine AtH.gO (z := z) ?_
  have A2 := A.gO (z := z)
  have C2 := A2.1
  show At (gO G z) X (cells + 1) (slots + 6) 911 (LV (gO G z) b i) [vI (cod [eI] e)] V1
  refine x_istore A2.2.2.2.2.1 C2 dL_law_911 rfl ?_
  refine r_aload_n C2 dL_law_913 rfl ?_
  refine ld_arg A2 dL_law_914 dL_law_915 dL_law_917 dL_law_918 dL_law_919 rfl rfl (by omega) (by omega) ?_
  refine q_callV (kk0 := 148) (As := [vI (sv xs (i + 1))]) (rest := []) C2 A2.2.2.2.1 dL_law_920 lL_227 w6_bookedShip (rc_model (show 154 ≤ gN G by omega)) (ev6_bookedShip C2.lt (show 154 ≤ gN G by omega) h2) rfl rfl (Nat.le_of_ble_eq_true rfl) (Nat.le_of_ble_eq_true rfl) (Nat.le_of_ble_eq_true rfl) (show cells + 1 ≤ 601024 by omega) (show slots + 6 ≤ 7293034 by omega) ?_
  show At (gO G z) X (cells + 1) (slots + 6) 923 ((5, vI (cod [eI] e)) :: LV (gO G z) b i) [vI bb] V2
  refine x_istore A2.2.2.2.2.1 C2 dL_law_923 rfl ?_
  refine tl_I A2 h3 cod_rg (fun c => ?_) (by omega) (by omega) dL_law_925 dL_law_926 dL_law_929 dL_law_931 dL_law_936 dL_law_938 dL_law_941 dL_law_942 dL_law_943 dL_law_944 dL_law_946 dL_law_947 dL_law_948 dL_law_953 rfl (K.gO V2 S' P' _ _ h5 (by omega) (by omega))
  obtain ⟨r, hr⟩ := cod_e c
  have e1 := hz2 r hr
  have e2 := h4 r hr
  rw [gO_6 (by rw [e1]; exact (rg_nrm r).1), e1, e2]
theorem lc_startMinute {G : GT} {X : CT} {cells slots b L : Nat} {xs : Nat → Int32} {i : Int} {V : VV} {S : Su} {P : Pl} (A : LA G X b L xs) (hi : 0 ≤ i) (hi2 : i + 6 ≤ (L : Int)) (h : RV V S P) (hc : cells + 10 ≤ 601024) (hs : slots + 60 ≤ 7293034) (K : Nx G X b i cells slots) : At G X cells slots 956 (LV G b i) [] V := by
  obtain ⟨e, V1, bb, V2, h1, h2, h3, h4, S', P', h5⟩ := op_startMinute (sv_rg (xs := xs) (k := i + 1)) V S P h
  have hN : gN G = 155 := A.2.2.2.2.2.1
  have C := A.1
  refine r_aload_n C dL_law_956 rfl ?_
  refine ld_arg A dL_law_957 dL_law_958 dL_law_960 dL_law_961 dL_law_962 rfl rfl (by omega) (by omega) ?_
  refine r_aload_n C dL_law_963 rfl ?_
  refine q_callW (n := 3) (As := [.ref (gB G + 0), vI (sv xs (i + 1)), .ref (gB G + 154)]) (rest := []) C A.2.2.1 A.2.2.2.1 dL_law_964 lL_228 whL_startMinute wiL (by decide +kernel) (by decide +kernel) (ew_startMinute C.lt hN A.2.2.2.2.2.2.1 h1) rfl rfl (Nat.le_of_ble_eq_true rfl) (Nat.le_of_ble_eq_true rfl) (Nat.le_of_ble_eq_true rfl) (show cells + 1 ≤ 601024 by omega) (show slots + 6 ≤ 7293034 by omega) ?_
  obtain ⟨z, hz, hz2⟩ := oGI_ex (G := G) (e := e)
  rw [hz]
  refine AtH.gO (z := z) ?_
  have A2 := A.gO (z := z)
  have C2 := A2.1
  show At (gO G z) X (cells + 1) (slots + 6) 967 (LV (gO G z) b i) [vI (cod [eI] e)] V1
  refine x_istore A2.2.2.2.2.1 C2 dL_law_967 rfl ?_
  refine r_aload_n C2 dL_law_969 rfl ?_
  refine ld_arg A2 dL_law_970 dL_law_971 dL_law_973 dL_law_974 dL_law_975 rfl rfl (by omega) (by omega) ?_
  refine q_callV (kk0 := 148) (As := [vI (sv xs (i + 1))]) (rest := []) C2 A2.2.2.2.1 dL_law_976 lL_230 w6_startMinute (rc_model (show 154 ≤ gN G by omega)) (ev6_startMinute C2.lt (show 154 ≤ gN G by omega) h2) rfl rfl (Nat.le_of_ble_eq_true rfl) (Nat.le_of_ble_eq_true rfl) (Nat.le_of_ble_eq_true rfl) (show cells + 1 ≤ 601024 by omega) (show slots + 6 ≤ 7293034 by omega) ?_
  show At (gO G z) X (cells + 1) (slots + 6) 979 ((5, vI (cod [eI] e)) :: LV (gO G z) b i) [vI bb] V2
  refine x_istore A2.2.2.2.2.1 C2 dL_law_979 rfl ?_
  refine tl_I A2 h3 cod_rg (fun c => ?_) (by omega) (by omega) dL_law_981 dL_law_982 dL_law_985 dL_law_987 dL_law_992 dL_law_994 dL_law_997 dL_law_998 dL_law_999 dL_law_1000 dL_law_1002 dL_law_1003 dL_law_1004 dL_law_1009 rfl (K.gO V2 S' P' _ _ h5 (by omega) (by omega))
  obtain ⟨r, hr⟩ := cod_e c
  have e1 := hz2 r hr
  have e2 := h4 r hr
  rw [gO_6 (by rw [e1]; exact (rg_nrm r).1), e1, e2]
theorem lc_endMinute {G : GT} {X : CT} {cells slots b L : Nat} {xs : Nat → Int32} {i : Int} {V : VV} {S : Su} {P : Pl} (A : LA G X b L xs) (hi : 0 ≤ i) (hi2 : i + 6 ≤ (L : Int)) (h : RV V S P) (hc : cells + 10 ≤ 601024) (hs : slots + 60 ≤ 7293034) (K : Nx G X b i cells slots) : At G X cells slots 1012 (LV G b i) [] V := by
  obtain ⟨e, V1, bb, V2, h1, h2, h3, h4, S', P', h5⟩ := op_endMinute (sv_rg (xs := xs) (k := i + 1)) V S P h
  have hN : gN G = 155 := A.2.2.2.2.2.1
  have C := A.1
  refine r_aload_n C dL_law_1012 rfl ?_
  refine ld_arg A dL_law_1013 dL_law_1014 dL_law_1016 dL_law_1017 dL_law_1018 rfl rfl (by omega) (by omega) ?_
  refine r_aload_n C dL_law_1019 rfl ?_
  refine q_callW (n := 3) (As := [.ref (gB G + 0), vI (sv xs (i + 1)), .ref (gB G + 154)]) (rest := []) C A.2.2.1 A.2.2.2.1 dL_law_1020 lL_231 whL_endMinute wiL (by decide +kernel) (by decide +kernel) (ew_endMinute C.lt hN A.2.2.2.2.2.2.1 h1) rfl rfl (Nat.le_of_ble_eq_true rfl) (Nat.le_of_ble_eq_true rfl) (Nat.le_of_ble_eq_true rfl) (show cells + 1 ≤ 601024 by omega) (show slots + 6 ≤ 7293034 by omega) ?_
  obtain ⟨z, hz, hz2⟩ := oGI_ex (G := G) (e := e)
  rw [hz]
  refine AtH.gO (z := z) ?_
  have A2 := A.gO (z := z)
  have C2 := A2.1
  show At (gO G z) X (cells + 1) (slots + 6) 1023 (LV (gO G z) b i) [vI (cod [eI] e)] V1
  refine x_istore A2.2.2.2.2.1 C2 dL_law_1023 rfl ?_
  refine r_aload_n C2 dL_law_1025 rfl ?_
  refine ld_arg A2 dL_law_1026 dL_law_1027 dL_law_1029 dL_law_1030 dL_law_1031 rfl rfl (by omega) (by omega) ?_
  refine q_callV (kk0 := 148) (As := [vI (sv xs (i + 1))]) (rest := []) C2 A2.2.2.2.1 dL_law_1032 lL_233 w6_endMinute (rc_model (show 154 ≤ gN G by omega)) (ev6_endMinute C2.lt (show 154 ≤ gN G by omega) h2) rfl rfl (Nat.le_of_ble_eq_true rfl) (Nat.le_of_ble_eq_true rfl) (Nat.le_of_ble_eq_true rfl) (show cells + 1 ≤ 601024 by omega) (show slots + 6 ≤ 7293034 by omega) ?_
  show At (gO G z) X (cells + 1) (slots + 6) 1035 ((5, vI (cod [eI] e)) :: LV (gO G z) b i) [vI bb] V2
  refine x_istore A2.2.2.2.2.1 C2 dL_law_1035 rfl ?_
  refine tl_I A2 h3 cod_rg (fun c => ?_) (by omega) (by omega) dL_law_1037 dL_law_1038 dL_law_1041 dL_law_1043 dL_law_1048 dL_law_1050 dL_law_1053 dL_law_1054 dL_law_1055 dL_law_1056 dL_law_1058 dL_law_1059 dL_law_1060 dL_law_1065 rfl (K.gO V2 S' P' _ _ h5 (by omega) (by omega))
  obtain ⟨r, hr⟩ := cod_e c
  have e1 := hz2 r hr
  have e2 := h4 r hr
  rw [gO_6 (by rw [e1]; exact (rg_nrm r).1), e1, e2]
theorem lc_isInbound {G : GT} {X : CT} {cells slots b L : Nat} {xs : Nat → Int32} {i : Int} {V : VV} {S : Su} {P : Pl} (A : LA G X b L xs) (hi : 0 ≤ i) (hi2 : i + 6 ≤ (L : Int)) (h : RV V S P) (hc : cells + 10 ≤ 601024) (hs : slots + 60 ≤ 7293034) (K : Nx G X b i cells slots) : At G X cells slots 1068 (LV G b i) [] V := by
  obtain ⟨e, V1, bb, V2, h1, h2, h3, h4, S', P', h5⟩ := op_isInbound (sv_rg (xs := xs) (k := i + 1)) V S P h
  have hN : gN G = 155 := A.2.2.2.2.2.1
  have C := A.1
  refine r_aload_n C dL_law_1068 rfl ?_
  refine ld_arg A dL_law_1069 dL_law_1070 dL_law_1072 dL_law_1073 dL_law_1074 rfl rfl (by omega) (by omega) ?_
  refine r_aload_n C dL_law_1075 rfl ?_
  refine q_callW (n := 3) (As := [.ref (gB G + 0), vI (sv xs (i + 1)), .ref (gB G + 154)]) (rest := []) C A.2.2.1 A.2.2.2.1 dL_law_1076 lL_234 whL_isInbound wiL (by decide +kernel) (by decide +kernel) (ew_isInbound C.lt hN A.2.2.2.2.2.2.1 h1) rfl rfl (Nat.le_of_ble_eq_true rfl) (Nat.le_of_ble_eq_true rfl) (Nat.le_of_ble_eq_true rfl) (show cells + 1 ≤ 601024 by omega) (show slots + 6 ≤ 7293034 by omega) ?_
  obtain ⟨z, hz, hz2⟩ := oGZ_ex (G := G) (e := e)
  rw [hz]
  refine AtH.gO (z := z) ?_
  have A2 := A.gO (z := z)
  have C2 := A2.1
  show At (gO G z) X (cells + 1) (slots + 6) 1079 (LV (gO G z) b i) [vI (cod [eI] e)] V1
  refine x_istore A2.2.2.2.2.1 C2 dL_law_1079 rfl ?_
  refine r_aload_n C2 dL_law_1081 rfl ?_
  refine ld_arg A2 dL_law_1082 dL_law_1083 dL_law_1085 dL_law_1086 dL_law_1087 rfl rfl (by omega) (by omega) ?_
  refine q_callV (kk0 := 148) (As := [vI (sv xs (i + 1))]) (rest := []) C2 A2.2.2.2.1 dL_law_1088 lL_236 w6_isInbound (rc_model (show 154 ≤ gN G by omega)) (ev6_isInbound C2.lt (show 154 ≤ gN G by omega) h2) rfl rfl (Nat.le_of_ble_eq_true rfl) (Nat.le_of_ble_eq_true rfl) (Nat.le_of_ble_eq_true rfl) (show cells + 1 ≤ 601024 by omega) (show slots + 6 ≤ 7293034 by omega) ?_
  show At (gO G z) X (cells + 1) (slots + 6) 1091 ((5, vI (cod [eI] e)) :: LV (gO G z) b i) [vI bb] V2
  refine x_istore A2.2.2.2.2.1 C2 dL_law_1091 rfl ?_
  refine tl_Z A2 h3 cod_rg (fun c => ?_) (by omega) (by omega) dL_law_1093 dL_law_1094 dL_law_1097 dL_law_1099 dL_law_1104 dL_law_1106 dL_law_1109 dL_law_1110 dL_law_1111 dL_law_1112 dL_law_1114 dL_law_1117 dL_law_1118 dL_law_1121 dL_law_1122 dL_law_1123 dL_law_1128 rfl (K.gO V2 S' P' _ _ h5 (by omega) (by omega))
  obtain ⟨r, hr⟩ := cod_e c
  have e1 := hz2 r hr
  have e2 := h4 r hr
  rw [gO_6 (by rw [e1]; split <;> omega), e1, e2]
theorem lc_isFinished {G : GT} {X : CT} {cells slots b L : Nat} {xs : Nat → Int32} {i : Int} {V : VV} {S : Su} {P : Pl} (A : LA G X b L xs) (hi : 0 ≤ i) (hi2 : i + 6 ≤ (L : Int)) (h : RV V S P) (hc : cells + 10 ≤ 601024) (hs : slots + 60 ≤ 7293034) (K : Nx G X b i cells slots) : At G X cells slots 1131 (LV G b i) [] V := by
  obtain ⟨e, V1, bb, V2, h1, h2, h3, h4, S', P', h5⟩ := op_isFinished (sv_rg (xs := xs) (k := i + 1)) V S P h
  have hN : gN G = 155 := A.2.2.2.2.2.1
  have C := A.1
  refine r_aload_n C dL_law_1131 rfl ?_
  refine ld_arg A dL_law_1132 dL_law_1133 dL_law_1135 dL_law_1136 dL_law_1137 rfl rfl (by omega) (by omega) ?_
  refine r_aload_n C dL_law_1138 rfl ?_
  refine q_callW (n := 3) (As := [.ref (gB G + 0), vI (sv xs (i + 1)), .ref (gB G + 154)]) (rest := []) C A.2.2.1 A.2.2.2.1 dL_law_1139 lL_237 whL_isFinished wiL (by decide +kernel) (by decide +kernel) (ew_isFinished C.lt hN A.2.2.2.2.2.2.1 h1) rfl rfl (Nat.le_of_ble_eq_true rfl) (Nat.le_of_ble_eq_true rfl) (Nat.le_of_ble_eq_true rfl) (show cells + 1 ≤ 601024 by omega) (show slots + 6 ≤ 7293034 by omega) ?_
  obtain ⟨z, hz, hz2⟩ := oGZ_ex (G := G) (e := e)
  rw [hz]
  refine AtH.gO (z := z) ?_
  have A2 := A.gO (z := z)
  have C2 := A2.1
  show At (gO G z) X (cells + 1) (slots + 6) 1142 (LV (gO G z) b i) [vI (cod [eI] e)] V1
  refine x_istore A2.2.2.2.2.1 C2 dL_law_1142 rfl ?_
  refine r_aload_n C2 dL_law_1144 rfl ?_
  refine ld_arg A2 dL_law_1145 dL_law_1146 dL_law_1148 dL_law_1149 dL_law_1150 rfl rfl (by omega) (by omega) ?_
  refine q_callV (kk0 := 148) (As := [vI (sv xs (i + 1))]) (rest := []) C2 A2.2.2.2.1 dL_law_1151 lL_239 w6_isFinished (rc_model (show 154 ≤ gN G by omega)) (ev6_isFinished C2.lt (show 154 ≤ gN G by omega) h2) rfl rfl (Nat.le_of_ble_eq_true rfl) (Nat.le_of_ble_eq_true rfl) (Nat.le_of_ble_eq_true rfl) (show cells + 1 ≤ 601024 by omega) (show slots + 6 ≤ 7293034 by omega) ?_
  show At (gO G z) X (cells + 1) (slots + 6) 1154 ((5, vI (cod [eI] e)) :: LV (gO G z) b i) [vI bb] V2
  refine x_istore A2.2.2.2.2.1 C2 dL_law_1154 rfl ?_
  refine tl_Z A2 h3 cod_rg (fun c => ?_) (by omega) (by omega) dL_law_1156 dL_law_1157 dL_law_1160 dL_law_1162 dL_law_1167 dL_law_1169 dL_law_1172 dL_law_1173 dL_law_1174 dL_law_1175 dL_law_1177 dL_law_1180 dL_law_1181 dL_law_1184 dL_law_1185 dL_law_1186 dL_law_1191 rfl (K.gO V2 S' P' _ _ h5 (by omega) (by omega))
  obtain ⟨r, hr⟩ := cod_e c
  have e1 := hz2 r hr
  have e2 := h4 r hr
  rw [gO_6 (by rw [e1]; split <;> omega), e1, e2]
theorem lc_isUnderWay {G : GT} {X : CT} {cells slots b L : Nat} {xs : Nat → Int32} {i : Int} {V : VV} {S : Su} {P : Pl} (A : LA G X b L xs) (hi : 0 ≤ i) (hi2 : i + 6 ≤ (L : Int)) (h : RV V S P) (hc : cells + 10 ≤ 601024) (hs : slots + 60 ≤ 7293034) (K : Nx G X b i cells slots) : At G X cells slots 1194 (LV G b i) [] V := by
  obtain ⟨e, V1, bb, V2, h1, h2, h3, h4, S', P', h5⟩ := op_isUnderWay (sv_rg (xs := xs) (k := i + 1)) V S P h
  have hN : gN G = 155 := A.2.2.2.2.2.1
  have C := A.1
  refine r_aload_n C dL_law_1194 rfl ?_
  refine ld_arg A dL_law_1195 dL_law_1196 dL_law_1198 dL_law_1199 dL_law_1200 rfl rfl (by omega) (by omega) ?_
  refine r_aload_n C dL_law_1201 rfl ?_
  refine q_callW (n := 3) (As := [.ref (gB G + 0), vI (sv xs (i + 1)), .ref (gB G + 154)]) (rest := []) C A.2.2.1 A.2.2.2.1 dL_law_1202 lL_240 whL_isUnderWay wiL (by decide +kernel) (by decide +kernel) (ew_isUnderWay C.lt hN A.2.2.2.2.2.2.1 h1) rfl rfl (Nat.le_of_ble_eq_true rfl) (Nat.le_of_ble_eq_true rfl) (Nat.le_of_ble_eq_true rfl) (show cells + 1 ≤ 601024 by omega) (show slots + 6 ≤ 7293034 by omega) ?_
  obtain ⟨z, hz, hz2⟩ := oGZ_ex (G := G) (e := e)
  rw [hz]
  refine AtH.gO (z := z) ?_
  have A2 := A.gO (z := z)
  have C2 := A2.1
  show At (gO G z) X (cells + 1) (slots + 6) 1205 (LV (gO G z) b i) [vI (cod [eI] e)] V1
  refine x_istore A2.2.2.2.2.1 C2 dL_law_1205 rfl ?_
  refine r_aload_n C2 dL_law_1207 rfl ?_
  refine ld_arg A2 dL_law_1208 dL_law_1209 dL_law_1211 dL_law_1212 dL_law_1213 rfl rfl (by omega) (by omega) ?_
  refine q_callV (kk0 := 148) (As := [vI (sv xs (i + 1))]) (rest := []) C2 A2.2.2.2.1 dL_law_1214 lL_242 w6_isUnderWay (rc_model (show 154 ≤ gN G by omega)) (ev6_isUnderWay C2.lt (show 154 ≤ gN G by omega) h2) rfl rfl (Nat.le_of_ble_eq_true rfl) (Nat.le_of_ble_eq_true rfl) (Nat.le_of_ble_eq_true rfl) (show cells + 1 ≤ 601024 by omega) (show slots + 6 ≤ 7293034 by omega) ?_
  show At (gO G z) X (cells + 1) (slots + 6) 1217 ((5, vI (cod [eI] e)) :: LV (gO G z) b i) [vI bb] V2
  refine x_istore A2.2.2.2.2.1 C2 dL_law_1217 rfl ?_
  refine tl_Z A2 h3 cod_rg (fun c => ?_) (by omega) (by omega) dL_law_1219 dL_law_1220 dL_law_1223 dL_law_1225 dL_law_1230 dL_law_1232 dL_law_1235 dL_law_1236 dL_law_1237 dL_law_1238 dL_law_1240 dL_law_1243 dL_law_1244 dL_law_1247 dL_law_1248 dL_law_1249 dL_law_1254 rfl (K.gO V2 S' P' _ _ h5 (by omega) (by omega))
  obtain ⟨r, hr⟩ := cod_e c
  have e1 := hz2 r hr
  have e2 := h4 r hr
  rw [gO_6 (by rw [e1]; split <;> omega), e1, e2]
theorem lc_occupancy {G : GT} {X : CT} {cells slots b L : Nat} {xs : Nat → Int32} {i : Int} {V : VV} {S : Su} {P : Pl} (A : LA G X b L xs) (hi : 0 ≤ i) (hi2 : i + 6 ≤ (L : Int)) (h : RV V S P) (hc : cells + 10 ≤ 601024) (hs : slots + 60 ≤ 7293034) (K : Nx G X b i cells slots) : At G X cells slots 1257 (LV G b i) [] V := by
  obtain ⟨e, V1, bb, V2, h1, h2, h3, h4, S', P', h5⟩ := op_occupancy (sv_rg (xs := xs) (k := i + 1)) V S P h
  have hN : gN G = 155 := A.2.2.2.2.2.1
  have C := A.1
  refine r_aload_n C dL_law_1257 rfl ?_
  refine ld_arg A dL_law_1258 dL_law_1259 dL_law_1261 dL_law_1262 dL_law_1263 rfl rfl (by omega) (by omega) ?_
  refine r_aload_n C dL_law_1264 rfl ?_
  refine q_callW (n := 3) (As := [.ref (gB G + 0), vI (sv xs (i + 1)), .ref (gB G + 154)]) (rest := []) C A.2.2.1 A.2.2.2.1 dL_law_1265 lL_243 whL_occupancy wiL (by decide +kernel) (by decide +kernel) (ew_occupancy C.lt hN A.2.2.2.2.2.2.1 h1) rfl rfl (Nat.le_of_ble_eq_true rfl) (Nat.le_of_ble_eq_true rfl) (Nat.le_of_ble_eq_true rfl) (show cells + 1 ≤ 601024 by omega) (show slots + 6 ≤ 7293034 by omega) ?_
  obtain ⟨z, hz, hz2⟩ := oGI_ex (G := G) (e := e)
  rw [hz]
  refine AtH.gO (z := z) ?_
  have A2 := A.gO (z := z)
  have C2 := A2.1
  show At (gO G z) X (cells + 1) (slots + 6) 1268 (LV (gO G z) b i) [vI (cod [eA] e)] V1
  refine x_istore A2.2.2.2.2.1 C2 dL_law_1268 rfl ?_
  refine r_aload_n C2 dL_law_1270 rfl ?_
  refine ld_arg A2 dL_law_1271 dL_law_1272 dL_law_1274 dL_law_1275 dL_law_1276 rfl rfl (by omega) (by omega) ?_
  refine q_callV (kk0 := 148) (As := [vI (sv xs (i + 1))]) (rest := []) C2 A2.2.2.2.1 dL_law_1277 lL_245 w6_occupancy (rc_model (show 154 ≤ gN G by omega)) (ev6_occupancy C2.lt (show 154 ≤ gN G by omega) h2) rfl rfl (Nat.le_of_ble_eq_true rfl) (Nat.le_of_ble_eq_true rfl) (Nat.le_of_ble_eq_true rfl) (show cells + 1 ≤ 601024 by omega) (show slots + 6 ≤ 7293034 by omega) ?_
  show At (gO G z) X (cells + 1) (slots + 6) 1280 ((5, vI (cod [eA] e)) :: LV (gO G z) b i) [vI bb] V2
  refine x_istore A2.2.2.2.2.1 C2 dL_law_1280 rfl ?_
  refine tl_I A2 h3 cod_rg (fun c => ?_) (by omega) (by omega) dL_law_1282 dL_law_1283 dL_law_1286 dL_law_1288 dL_law_1293 dL_law_1295 dL_law_1298 dL_law_1299 dL_law_1300 dL_law_1301 dL_law_1303 dL_law_1304 dL_law_1305 dL_law_1310 rfl (K.gO V2 S' P' _ _ h5 (by omega) (by omega))
  obtain ⟨r, hr⟩ := cod_e c
  have e1 := hz2 r hr
  have e2 := h4 r hr
  rw [gO_6 (by rw [e1]; exact (rg_nrm r).1), e1, e2]
theorem lc_emptyMinutes {G : GT} {X : CT} {cells slots b L : Nat} {xs : Nat → Int32} {i : Int} {V : VV} {S : Su} {P : Pl} (A : LA G X b L xs) (hi : 0 ≤ i) (hi2 : i + 6 ≤ (L : Int)) (h : RV V S P) (hc : cells + 10 ≤ 601024) (hs : slots + 60 ≤ 7293034) (K : Nx G X b i cells slots) : At G X cells slots 1313 (LV G b i) [] V := by
  obtain ⟨e, V1, bb, V2, h1, h2, h3, h4, S', P', h5⟩ := op_emptyMinutes (sv_rg (xs := xs) (k := i + 1)) (sv_rg (xs := xs) (k := i + 2)) V S P h
  have hN : gN G = 155 := A.2.2.2.2.2.1
  have C := A.1
  refine r_aload_n C dL_law_1313 rfl ?_
  refine ld_arg A dL_law_1314 dL_law_1315 dL_law_1317 dL_law_1318 dL_law_1319 rfl rfl (by omega) (by omega) ?_
  refine ld_arg A dL_law_1320 dL_law_1321 dL_law_1323 dL_law_1324 dL_law_1325 rfl rfl (by omega) (by omega) ?_
  refine r_aload_n C dL_law_1326 rfl ?_
  refine q_callW (n := 4) (As := [.ref (gB G + 0), vI (sv xs (i + 1)), vI (sv xs (i + 2)), .ref (gB G + 154)]) (rest := []) C A.2.2.1 A.2.2.2.1 dL_law_1327 lL_246 whL_emptyMinutes wiL (by decide +kernel) (by decide +kernel) (ew_emptyMinutes C.lt hN A.2.2.2.2.2.2.1 h1) rfl rfl (Nat.le_of_ble_eq_true rfl) (Nat.le_of_ble_eq_true rfl) (Nat.le_of_ble_eq_true rfl) (show cells + 1 ≤ 601024 by omega) (show slots + 6 ≤ 7293034 by omega) ?_
  obtain ⟨z, hz, hz2⟩ := oGI_ex (G := G) (e := e)
  rw [hz]
  refine AtH.gO (z := z) ?_
  have A2 := A.gO (z := z)
  have C2 := A2.1
  show At (gO G z) X (cells + 1) (slots + 6) 1330 (LV (gO G z) b i) [vI (cod [eA] e)] V1
  refine x_istore A2.2.2.2.2.1 C2 dL_law_1330 rfl ?_
  refine r_aload_n C2 dL_law_1332 rfl ?_
  refine ld_arg A2 dL_law_1333 dL_law_1334 dL_law_1336 dL_law_1337 dL_law_1338 rfl rfl (by omega) (by omega) ?_
  refine ld_arg A2 dL_law_1339 dL_law_1340 dL_law_1342 dL_law_1343 dL_law_1344 rfl rfl (by omega) (by omega) ?_
  refine q_callV (kk0 := 148) (As := [vI (sv xs (i + 1)), vI (sv xs (i + 2))]) (rest := []) C2 A2.2.2.2.1 dL_law_1345 lL_248 w6_emptyMinutes (rc_model (show 154 ≤ gN G by omega)) (ev6_emptyMinutes C2.lt (show 154 ≤ gN G by omega) h2) rfl rfl (Nat.le_of_ble_eq_true rfl) (Nat.le_of_ble_eq_true rfl) (Nat.le_of_ble_eq_true rfl) (show cells + 1 ≤ 601024 by omega) (show slots + 6 ≤ 7293034 by omega) ?_
  show At (gO G z) X (cells + 1) (slots + 6) 1348 ((5, vI (cod [eA] e)) :: LV (gO G z) b i) [vI bb] V2
  refine x_istore A2.2.2.2.2.1 C2 dL_law_1348 rfl ?_
  refine tl_I A2 h3 cod_rg (fun c => ?_) (by omega) (by omega) dL_law_1350 dL_law_1351 dL_law_1354 dL_law_1356 dL_law_1361 dL_law_1363 dL_law_1366 dL_law_1367 dL_law_1368 dL_law_1369 dL_law_1371 dL_law_1372 dL_law_1373 dL_law_1378 rfl (K.gO V2 S' P' _ _ h5 (by omega) (by omega))
  obtain ⟨r, hr⟩ := cod_e c
  have e1 := hz2 r hr
  have e2 := h4 r hr
  rw [gO_6 (by rw [e1]; exact (rg_nrm r).1), e1, e2]
theorem lc_longestEmptyRun {G : GT} {X : CT} {cells slots b L : Nat} {xs : Nat → Int32} {i : Int} {V : VV} {S : Su} {P : Pl} (A : LA G X b L xs) (hi : 0 ≤ i) (hi2 : i + 6 ≤ (L : Int)) (h : RV V S P) (hc : cells + 10 ≤ 601024) (hs : slots + 60 ≤ 7293034) (K : Nx G X b i cells slots) : At G X cells slots 1381 (LV G b i) [] V := by
  obtain ⟨e, V1, bb, V2, h1, h2, h3, h4, S', P', h5⟩ := op_longestEmptyRun (sv_rg (xs := xs) (k := i + 1)) (sv_rg (xs := xs) (k := i + 2)) V S P h
  have hN : gN G = 155 := A.2.2.2.2.2.1
  have C := A.1
  refine r_aload_n C dL_law_1381 rfl ?_
  refine ld_arg A dL_law_1382 dL_law_1383 dL_law_1385 dL_law_1386 dL_law_1387 rfl rfl (by omega) (by omega) ?_
  refine ld_arg A dL_law_1388 dL_law_1389 dL_law_1391 dL_law_1392 dL_law_1393 rfl rfl (by omega) (by omega) ?_
  refine r_aload_n C dL_law_1394 rfl ?_
  refine q_callW (n := 4) (As := [.ref (gB G + 0), vI (sv xs (i + 1)), vI (sv xs (i + 2)), .ref (gB G + 154)]) (rest := []) C A.2.2.1 A.2.2.2.1 dL_law_1395 lL_249 whL_longestEmptyRun wiL (by decide +kernel) (by decide +kernel) (ew_longestEmptyRun C.lt hN A.2.2.2.2.2.2.1 h1) rfl rfl (Nat.le_of_ble_eq_true rfl) (Nat.le_of_ble_eq_true rfl) (Nat.le_of_ble_eq_true rfl) (show cells + 1 ≤ 601024 by omega) (show slots + 6 ≤ 7293034 by omega) ?_
  obtain ⟨z, hz, hz2⟩ := oGI_ex (G := G) (e := e)
  rw [hz]
  refine AtH.gO (z := z) ?_
  have A2 := A.gO (z := z)
  have C2 := A2.1
  show At (gO G z) X (cells + 1) (slots + 6) 1398 (LV (gO G z) b i) [vI (cod [eA] e)] V1
  refine x_istore A2.2.2.2.2.1 C2 dL_law_1398 rfl ?_
  refine r_aload_n C2 dL_law_1400 rfl ?_
  refine ld_arg A2 dL_law_1401 dL_law_1402 dL_law_1404 dL_law_1405 dL_law_1406 rfl rfl (by omega) (by omega) ?_
  refine ld_arg A2 dL_law_1407 dL_law_1408 dL_law_1410 dL_law_1411 dL_law_1412 rfl rfl (by omega) (by omega) ?_
  refine q_callV (kk0 := 148) (As := [vI (sv xs (i + 1)), vI (sv xs (i + 2))]) (rest := []) C2 A2.2.2.2.1 dL_law_1413 lL_251 w6_longestEmptyRun (rc_model (show 154 ≤ gN G by omega)) (ev6_longestEmptyRun C2.lt (show 154 ≤ gN G by omega) h2) rfl rfl (Nat.le_of_ble_eq_true rfl) (Nat.le_of_ble_eq_true rfl) (Nat.le_of_ble_eq_true rfl) (show cells + 1 ≤ 601024 by omega) (show slots + 6 ≤ 7293034 by omega) ?_
  show At (gO G z) X (cells + 1) (slots + 6) 1416 ((5, vI (cod [eA] e)) :: LV (gO G z) b i) [vI bb] V2
  refine x_istore A2.2.2.2.2.1 C2 dL_law_1416 rfl ?_
  refine tl_I A2 h3 cod_rg (fun c => ?_) (by omega) (by omega) dL_law_1418 dL_law_1419 dL_law_1422 dL_law_1424 dL_law_1429 dL_law_1431 dL_law_1434 dL_law_1435 dL_law_1436 dL_law_1437 dL_law_1439 dL_law_1440 dL_law_1441 dL_law_1446 rfl (K.gO V2 S' P' _ _ h5 (by omega) (by omega))
  obtain ⟨r, hr⟩ := cod_e c
  have e1 := hz2 r hr
  have e2 := h4 r hr
  rw [gO_6 (by rw [e1]; exact (rg_nrm r).1), e1, e2]
theorem lc_conflictCount {G : GT} {X : CT} {cells slots b L : Nat} {xs : Nat → Int32} {i : Int} {V : VV} {S : Su} {P : Pl} (A : LA G X b L xs) (hi : 0 ≤ i) (hi2 : i + 6 ≤ (L : Int)) (h : RV V S P) (hc : cells + 10 ≤ 601024) (hs : slots + 60 ≤ 7293034) (K : Nx G X b i cells slots) : At G X cells slots 1449 (LV G b i) [] V := by
  obtain ⟨e, V1, bb, V2, h1, h2, h3, h4, S', P', h5⟩ := op_conflictCount (sv_rg (xs := xs) (k := i + 1)) (swb_01 (xs := xs) (k := i + 2)) (sv_rg (xs := xs) (k := i + 3)) V S P h
  have hN : gN G = 155 := A.2.2.2.2.2.1
  have C := A.1
  refine r_aload_n C dL_law_1449 rfl ?_
  refine ld_arg A dL_law_1450 dL_law_1451 dL_law_1453 dL_law_1454 dL_law_1455 rfl rfl (by omega) (by omega) ?_
  refine ld_bool A dL_law_1456 dL_law_1457 dL_law_1459 dL_law_1460 dL_law_1461 dL_law_1462 dL_law_1465 dL_law_1466 dL_law_1469 rfl rfl (by omega) (by omega) ?_
  refine ld_arg A dL_law_1470 dL_law_1471 dL_law_1473 dL_law_1474 dL_law_1475 rfl rfl (by omega) (by omega) ?_
  refine r_aload_n C dL_law_1476 rfl ?_
  refine q_callW (n := 5) (As := [.ref (gB G + 0), vI (sv xs (i + 1)), vI (swb xs (i + 2)), vI (sv xs (i + 3)), .ref (gB G + 154)]) (rest := []) C A.2.2.1 A.2.2.2.1 dL_law_1477 lL_252 whL_conflictCount wiL (by decide +kernel) (by decide +kernel) (ew_conflictCount C.lt hN A.2.2.2.2.2.2.1 h1) rfl rfl (Nat.le_of_ble_eq_true rfl) (Nat.le_of_ble_eq_true rfl) (Nat.le_of_ble_eq_true rfl) (show cells + 2 ≤ 601024 by omega) (show slots + 12 ≤ 7293034 by omega) ?_
  obtain ⟨z, hz, hz2⟩ := oGI_ex (G := G) (e := e)
  rw [hz]
  refine AtH.gO (z := z) ?_
  have A2 := A.gO (z := z)
  have C2 := A2.1
  show At (gO G z) X (cells + 2) (slots + 12) 1480 (LV (gO G z) b i) [vI (cod [eI, eA] e)] V1
  refine x_istore A2.2.2.2.2.1 C2 dL_law_1480 rfl ?_
  refine r_aload_n C2 dL_law_1482 rfl ?_
  refine ld_arg A2 dL_law_1483 dL_law_1484 dL_law_1486 dL_law_1487 dL_law_1488 rfl rfl (by omega) (by omega) ?_
  refine ld_bool A2 dL_law_1489 dL_law_1490 dL_law_1492 dL_law_1493 dL_law_1494 dL_law_1495 dL_law_1498 dL_law_1499 dL_law_1502 rfl rfl (by omega) (by omega) ?_
  refine ld_arg A2 dL_law_1503 dL_law_1504 dL_law_1506 dL_law_1507 dL_law_1508 rfl rfl (by omega) (by omega) ?_
  refine q_callV (kk0 := 148) (As := [vI (sv xs (i + 1)), vI (swb xs (i + 2)), vI (sv xs (i + 3))]) (rest := []) C2 A2.2.2.2.1 dL_law_1509 lL_255 w6_conflictCount (rc_model (show 154 ≤ gN G by omega)) (ev6_conflictCount C2.lt (show 154 ≤ gN G by omega) h2) rfl rfl (Nat.le_of_ble_eq_true rfl) (Nat.le_of_ble_eq_true rfl) (Nat.le_of_ble_eq_true rfl) (show cells + 2 ≤ 601024 by omega) (show slots + 12 ≤ 7293034 by omega) ?_
  show At (gO G z) X (cells + 2) (slots + 12) 1512 ((5, vI (cod [eI, eA] e)) :: LV (gO G z) b i) [vI bb] V2
  refine x_istore A2.2.2.2.2.1 C2 dL_law_1512 rfl ?_
  refine tl_I A2 h3 cod_rg (fun c => ?_) (by omega) (by omega) dL_law_1514 dL_law_1515 dL_law_1518 dL_law_1520 dL_law_1525 dL_law_1527 dL_law_1530 dL_law_1531 dL_law_1532 dL_law_1533 dL_law_1535 dL_law_1536 dL_law_1537 dL_law_1542 rfl (K.gO V2 S' P' _ _ h5 (by omega) (by omega))
  obtain ⟨r, hr⟩ := cod_e c
  have e1 := hz2 r hr
  have e2 := h4 r hr
  rw [gO_6 (by rw [e1]; exact (rg_nrm r).1), e1, e2]
theorem lc_firstConflict {G : GT} {X : CT} {cells slots b L : Nat} {xs : Nat → Int32} {i : Int} {V : VV} {S : Su} {P : Pl} (A : LA G X b L xs) (hi : 0 ≤ i) (hi2 : i + 6 ≤ (L : Int)) (h : RV V S P) (hc : cells + 10 ≤ 601024) (hs : slots + 60 ≤ 7293034) (K : Nx G X b i cells slots) : At G X cells slots 1545 (LV G b i) [] V := by
  obtain ⟨e, V1, bb, V2, h1, h2, h3, h4, S', P', h5⟩ := op_firstConflict (sv_rg (xs := xs) (k := i + 1)) (swb_01 (xs := xs) (k := i + 2)) (sv_rg (xs := xs) (k := i + 3)) V S P h
  have hN : gN G = 155 := A.2.2.2.2.2.1
  have C := A.1
  refine r_aload_n C dL_law_1545 rfl ?_
  refine ld_arg A dL_law_1546 dL_law_1547 dL_law_1549 dL_law_1550 dL_law_1551 rfl rfl (by omega) (by omega) ?_
  refine ld_bool A dL_law_1552 dL_law_1553 dL_law_1555 dL_law_1556 dL_law_1557 dL_law_1558 dL_law_1561 dL_law_1562 dL_law_1565 rfl rfl (by omega) (by omega) ?_
  refine ld_arg A dL_law_1566 dL_law_1567 dL_law_1569 dL_law_1570 dL_law_1571 rfl rfl (by omega) (by omega) ?_
  refine r_aload_n C dL_law_1572 rfl ?_
  refine q_callW (n := 5) (As := [.ref (gB G + 0), vI (sv xs (i + 1)), vI (swb xs (i + 2)), vI (sv xs (i + 3)), .ref (gB G + 154)]) (rest := []) C A.2.2.1 A.2.2.2.1 dL_law_1573 lL_256 whL_firstConflict wiL (by decide +kernel) (by decide +kernel) (ew_firstConflict C.lt hN A.2.2.2.2.2.2.1 h1) rfl rfl (Nat.le_of_ble_eq_true rfl) (Nat.le_of_ble_eq_true rfl) (Nat.le_of_ble_eq_true rfl) (show cells + 2 ≤ 601024 by omega) (show slots + 12 ≤ 7293034 by omega) ?_
  obtain ⟨z, hz, hz2⟩ := oGI_ex (G := G) (e := e)
  rw [hz]
  refine AtH.gO (z := z) ?_
  have A2 := A.gO (z := z)
  have C2 := A2.1
  show At (gO G z) X (cells + 2) (slots + 12) 1576 (LV (gO G z) b i) [vI (cod [eI, eA] e)] V1
  refine x_istore A2.2.2.2.2.1 C2 dL_law_1576 rfl ?_
  refine r_aload_n C2 dL_law_1578 rfl ?_
  refine ld_arg A2 dL_law_1579 dL_law_1580 dL_law_1582 dL_law_1583 dL_law_1584 rfl rfl (by omega) (by omega) ?_
  refine ld_bool A2 dL_law_1585 dL_law_1586 dL_law_1588 dL_law_1589 dL_law_1590 dL_law_1591 dL_law_1594 dL_law_1595 dL_law_1598 rfl rfl (by omega) (by omega) ?_
  refine ld_arg A2 dL_law_1599 dL_law_1600 dL_law_1602 dL_law_1603 dL_law_1604 rfl rfl (by omega) (by omega) ?_
  refine q_callV (kk0 := 148) (As := [vI (sv xs (i + 1)), vI (swb xs (i + 2)), vI (sv xs (i + 3))]) (rest := []) C2 A2.2.2.2.1 dL_law_1605 lL_258 w6_firstConflict (rc_model (show 154 ≤ gN G by omega)) (ev6_firstConflict C2.lt (show 154 ≤ gN G by omega) h2) rfl rfl (Nat.le_of_ble_eq_true rfl) (Nat.le_of_ble_eq_true rfl) (Nat.le_of_ble_eq_true rfl) (show cells + 2 ≤ 601024 by omega) (show slots + 12 ≤ 7293034 by omega) ?_
  show At (gO G z) X (cells + 2) (slots + 12) 1608 ((5, vI (cod [eI, eA] e)) :: LV (gO G z) b i) [vI bb] V2
  refine x_istore A2.2.2.2.2.1 C2 dL_law_1608 rfl ?_
  refine tl_I A2 h3 cod_rg (fun c => ?_) (by omega) (by omega) dL_law_1610 dL_law_1611 dL_law_1614 dL_law_1616 dL_law_1621 dL_law_1623 dL_law_1626 dL_law_1627 dL_law_1628 dL_law_1629 dL_law_1631 dL_law_1632 dL_law_1633 dL_law_1638 rfl (K.gO V2 S' P' _ _ h5 (by omega) (by omega))
  obtain ⟨r, hr⟩ := cod_e c
  have e1 := hz2 r hr
  have e2 := h4 r hr
  rw [gO_6 (by rw [e1]; exact (rg_nrm r).1), e1, e2]
theorem lc_earliestStart {G : GT} {X : CT} {cells slots b L : Nat} {xs : Nat → Int32} {i : Int} {V : VV} {S : Su} {P : Pl} (A : LA G X b L xs) (hi : 0 ≤ i) (hi2 : i + 6 ≤ (L : Int)) (h : RV V S P) (hc : cells + 10 ≤ 601024) (hs : slots + 60 ≤ 7293034) (K : Nx G X b i cells slots) : At G X cells slots 1641 (LV G b i) [] V := by
  obtain ⟨e, V1, bb, V2, h1, h2, h3, h4, S', P', h5⟩ := op_earliestStart (sv_rg (xs := xs) (k := i + 1)) (swb_01 (xs := xs) (k := i + 2)) (sv_rg (xs := xs) (k := i + 3)) V S P h
  have hN : gN G = 155 := A.2.2.2.2.2.1
  have C := A.1
  refine r_aload_n C dL_law_1641 rfl ?_
  refine ld_arg A dL_law_1642 dL_law_1643 dL_law_1645 dL_law_1646 dL_law_1647 rfl rfl (by omega) (by omega) ?_
  refine ld_bool A dL_law_1648 dL_law_1649 dL_law_1651 dL_law_1652 dL_law_1653 dL_law_1654 dL_law_1657 dL_law_1658 dL_law_1661 rfl rfl (by omega) (by omega) ?_
  refine ld_arg A dL_law_1662 dL_law_1663 dL_law_1665 dL_law_1666 dL_law_1667 rfl rfl (by omega) (by omega) ?_
  refine r_aload_n C dL_law_1668 rfl ?_
  refine q_callW (n := 5) (As := [.ref (gB G + 0), vI (sv xs (i + 1)), vI (swb xs (i + 2)), vI (sv xs (i + 3)), .ref (gB G + 154)]) (rest := []) C A.2.2.1 A.2.2.2.1 dL_law_1669 lL_259 whL_earliestStart wiL (by decide +kernel) (by decide +kernel) (ew_earliestStart C.lt hN A.2.2.2.2.2.2.1 h1) rfl rfl (Nat.le_of_ble_eq_true rfl) (Nat.le_of_ble_eq_true rfl) (Nat.le_of_ble_eq_true rfl) (show cells + 2 ≤ 601024 by omega) (show slots + 12 ≤ 7293034 by omega) ?_
  obtain ⟨z, hz, hz2⟩ := oGI_ex (G := G) (e := e)
  rw [hz]
  refine AtH.gO (z := z) ?_
  have A2 := A.gO (z := z)
  have C2 := A2.1
  show At (gO G z) X (cells + 2) (slots + 12) 1672 (LV (gO G z) b i) [vI (cod [eI, eA] e)] V1
  refine x_istore A2.2.2.2.2.1 C2 dL_law_1672 rfl ?_
  refine r_aload_n C2 dL_law_1674 rfl ?_
  refine ld_arg A2 dL_law_1675 dL_law_1676 dL_law_1678 dL_law_1679 dL_law_1680 rfl rfl (by omega) (by omega) ?_
  refine ld_bool A2 dL_law_1681 dL_law_1682 dL_law_1684 dL_law_1685 dL_law_1686 dL_law_1687 dL_law_1690 dL_law_1691 dL_law_1694 rfl rfl (by omega) (by omega) ?_
  refine ld_arg A2 dL_law_1695 dL_law_1696 dL_law_1698 dL_law_1699 dL_law_1700 rfl rfl (by omega) (by omega) ?_
  refine q_callV (kk0 := 148) (As := [vI (sv xs (i + 1)), vI (swb xs (i + 2)), vI (sv xs (i + 3))]) (rest := []) C2 A2.2.2.2.1 dL_law_1701 lL_261 w6_earliestStart (rc_model (show 154 ≤ gN G by omega)) (ev6_earliestStart C2.lt (show 154 ≤ gN G by omega) h2) rfl rfl (Nat.le_of_ble_eq_true rfl) (Nat.le_of_ble_eq_true rfl) (Nat.le_of_ble_eq_true rfl) (show cells + 2 ≤ 601024 by omega) (show slots + 12 ≤ 7293034 by omega) ?_
  show At (gO G z) X (cells + 2) (slots + 12) 1704 ((5, vI (cod [eI, eA] e)) :: LV (gO G z) b i) [vI bb] V2
  refine x_istore A2.2.2.2.2.1 C2 dL_law_1704 rfl ?_
  refine tl_I A2 h3 cod_rg (fun c => ?_) (by omega) (by omega) dL_law_1706 dL_law_1707 dL_law_1710 dL_law_1712 dL_law_1717 dL_law_1719 dL_law_1722 dL_law_1723 dL_law_1724 dL_law_1725 dL_law_1727 dL_law_1728 dL_law_1729 dL_law_1734 rfl (K.gO V2 S' P' _ _ h5 (by omega) (by omega))
  obtain ⟨r, hr⟩ := cod_e c
  have e1 := hz2 r hr
  have e2 := h4 r hr
  rw [gO_6 (by rw [e1]; exact (rg_nrm r).1), e1, e2]
theorem lc_latestStart {G : GT} {X : CT} {cells slots b L : Nat} {xs : Nat → Int32} {i : Int} {V : VV} {S : Su} {P : Pl} (A : LA G X b L xs) (hi : 0 ≤ i) (hi2 : i + 6 ≤ (L : Int)) (h : RV V S P) (hc : cells + 10 ≤ 601024) (hs : slots + 60 ≤ 7293034) (K : Nx G X b i cells slots) : At G X cells slots 1737 (LV G b i) [] V := by
  obtain ⟨e, V1, bb, V2, h1, h2, h3, h4, S', P', h5⟩ := op_latestStart (sv_rg (xs := xs) (k := i + 1)) (swb_01 (xs := xs) (k := i + 2)) (sv_rg (xs := xs) (k := i + 3)) V S P h
  have hN : gN G = 155 := A.2.2.2.2.2.1
  have C := A.1
  refine r_aload_n C dL_law_1737 rfl ?_
  refine ld_arg A dL_law_1738 dL_law_1739 dL_law_1741 dL_law_1742 dL_law_1743 rfl rfl (by omega) (by omega) ?_
  refine ld_bool A dL_law_1744 dL_law_1745 dL_law_1747 dL_law_1748 dL_law_1749 dL_law_1750 dL_law_1753 dL_law_1754 dL_law_1757 rfl rfl (by omega) (by omega) ?_
  refine ld_arg A dL_law_1758 dL_law_1759 dL_law_1761 dL_law_1762 dL_law_1763 rfl rfl (by omega) (by omega) ?_
  refine r_aload_n C dL_law_1764 rfl ?_
  refine q_callW (n := 5) (As := [.ref (gB G + 0), vI (sv xs (i + 1)), vI (swb xs (i + 2)), vI (sv xs (i + 3)), .ref (gB G + 154)]) (rest := []) C A.2.2.1 A.2.2.2.1 dL_law_1765 lL_262 whL_latestStart wiL (by decide +kernel) (by decide +kernel) (ew_latestStart C.lt hN A.2.2.2.2.2.2.1 h1) rfl rfl (Nat.le_of_ble_eq_true rfl) (Nat.le_of_ble_eq_true rfl) (Nat.le_of_ble_eq_true rfl) (show cells + 2 ≤ 601024 by omega) (show slots + 12 ≤ 7293034 by omega) ?_
  obtain ⟨z, hz, hz2⟩ := oGI_ex (G := G) (e := e)
  rw [hz]
  refine AtH.gO (z := z) ?_
  have A2 := A.gO (z := z)
  have C2 := A2.1
  show At (gO G z) X (cells + 2) (slots + 12) 1768 (LV (gO G z) b i) [vI (cod [eI, eA] e)] V1
  refine x_istore A2.2.2.2.2.1 C2 dL_law_1768 rfl ?_
  refine r_aload_n C2 dL_law_1770 rfl ?_
  refine ld_arg A2 dL_law_1771 dL_law_1772 dL_law_1774 dL_law_1775 dL_law_1776 rfl rfl (by omega) (by omega) ?_
  refine ld_bool A2 dL_law_1777 dL_law_1778 dL_law_1780 dL_law_1781 dL_law_1782 dL_law_1783 dL_law_1786 dL_law_1787 dL_law_1790 rfl rfl (by omega) (by omega) ?_
  refine ld_arg A2 dL_law_1791 dL_law_1792 dL_law_1794 dL_law_1795 dL_law_1796 rfl rfl (by omega) (by omega) ?_
  refine q_callV (kk0 := 148) (As := [vI (sv xs (i + 1)), vI (swb xs (i + 2)), vI (sv xs (i + 3))]) (rest := []) C2 A2.2.2.2.1 dL_law_1797 lL_264 w6_latestStart (rc_model (show 154 ≤ gN G by omega)) (ev6_latestStart C2.lt (show 154 ≤ gN G by omega) h2) rfl rfl (Nat.le_of_ble_eq_true rfl) (Nat.le_of_ble_eq_true rfl) (Nat.le_of_ble_eq_true rfl) (show cells + 2 ≤ 601024 by omega) (show slots + 12 ≤ 7293034 by omega) ?_
  show At (gO G z) X (cells + 2) (slots + 12) 1800 ((5, vI (cod [eI, eA] e)) :: LV (gO G z) b i) [vI bb] V2
  refine x_istore A2.2.2.2.2.1 C2 dL_law_1800 rfl ?_
  refine tl_I A2 h3 cod_rg (fun c => ?_) (by omega) (by omega) dL_law_1802 dL_law_1803 dL_law_1806 dL_law_1808 dL_law_1813 dL_law_1815 dL_law_1818 dL_law_1819 dL_law_1820 dL_law_1821 dL_law_1823 dL_law_1824 dL_law_1825 dL_law_1830 rfl (K.gO V2 S' P' _ _ h5 (by omega) (by omega))
  obtain ⟨r, hr⟩ := cod_e c
  have e1 := hz2 r hr
  have e2 := h4 r hr
  rw [gO_6 (by rw [e1]; exact (rg_nrm r).1), e1, e2]
theorem lc_bestCancellation {G : GT} {X : CT} {cells slots b L : Nat} {xs : Nat → Int32} {i : Int} {V : VV} {S : Su} {P : Pl} (A : LA G X b L xs) (hi : 0 ≤ i) (hi2 : i + 6 ≤ (L : Int)) (h : RV V S P) (hc : cells + 10 ≤ 601024) (hs : slots + 60 ≤ 7293034) (K : Nx G X b i cells slots) : At G X cells slots 1833 (LV G b i) [] V := by
  obtain ⟨e, V1, bb, V2, h1, h2, h3, h4, S', P', h5⟩ := op_bestCancellation (sv_rg (xs := xs) (k := i + 1)) (swb_01 (xs := xs) (k := i + 2)) (sv_rg (xs := xs) (k := i + 3)) V S P h
  have hN : gN G = 155 := A.2.2.2.2.2.1
  have C := A.1
  refine r_aload_n C dL_law_1833 rfl ?_
  refine ld_arg A dL_law_1834 dL_law_1835 dL_law_1837 dL_law_1838 dL_law_1839 rfl rfl (by omega) (by omega) ?_
  refine ld_bool A dL_law_1840 dL_law_1841 dL_law_1843 dL_law_1844 dL_law_1845 dL_law_1846 dL_law_1849 dL_law_1850 dL_law_1853 rfl rfl (by omega) (by omega) ?_
  refine ld_arg A dL_law_1854 dL_law_1855 dL_law_1857 dL_law_1858 dL_law_1859 rfl rfl (by omega) (by omega) ?_
  refine r_aload_n C dL_law_1860 rfl ?_
  refine q_callW (n := 5) (As := [.ref (gB G + 0), vI (sv xs (i + 1)), vI (swb xs (i + 2)), vI (sv xs (i + 3)), .ref (gB G + 154)]) (rest := []) C A.2.2.1 A.2.2.2.1 dL_law_1861 lL_265 whL_bestCancellation wiL (by decide +kernel) (by decide +kernel) (ew_bestCancellation C.lt hN A.2.2.2.2.2.2.1 h1) rfl rfl (Nat.le_of_ble_eq_true rfl) (Nat.le_of_ble_eq_true rfl) (Nat.le_of_ble_eq_true rfl) (show cells + 3 ≤ 601024 by omega) (show slots + 18 ≤ 7293034 by omega) ?_
  obtain ⟨z, hz, hz2⟩ := oGI_ex (G := G) (e := e)
  rw [hz]
  refine AtH.gO (z := z) ?_
  have A2 := A.gO (z := z)
  have C2 := A2.1
  show At (gO G z) X (cells + 3) (slots + 18) 1864 (LV (gO G z) b i) [vI (cod [eI, eA, eN] e)] V1
  refine x_istore A2.2.2.2.2.1 C2 dL_law_1864 rfl ?_
  refine r_aload_n C2 dL_law_1866 rfl ?_
  refine ld_arg A2 dL_law_1867 dL_law_1868 dL_law_1870 dL_law_1871 dL_law_1872 rfl rfl (by omega) (by omega) ?_
  refine ld_bool A2 dL_law_1873 dL_law_1874 dL_law_1876 dL_law_1877 dL_law_1878 dL_law_1879 dL_law_1882 dL_law_1883 dL_law_1886 rfl rfl (by omega) (by omega) ?_
  refine ld_arg A2 dL_law_1887 dL_law_1888 dL_law_1890 dL_law_1891 dL_law_1892 rfl rfl (by omega) (by omega) ?_
  refine q_callV (kk0 := 148) (As := [vI (sv xs (i + 1)), vI (swb xs (i + 2)), vI (sv xs (i + 3))]) (rest := []) C2 A2.2.2.2.1 dL_law_1893 lL_267 w6_bestCancellation (rc_model (show 154 ≤ gN G by omega)) (ev6_bestCancellation C2.lt (show 154 ≤ gN G by omega) h2) rfl rfl (Nat.le_of_ble_eq_true rfl) (Nat.le_of_ble_eq_true rfl) (Nat.le_of_ble_eq_true rfl) (show cells + 3 ≤ 601024 by omega) (show slots + 18 ≤ 7293034 by omega) ?_
  show At (gO G z) X (cells + 3) (slots + 18) 1896 ((5, vI (cod [eI, eA, eN] e)) :: LV (gO G z) b i) [vI bb] V2
  refine x_istore A2.2.2.2.2.1 C2 dL_law_1896 rfl ?_
  refine tl_I A2 h3 cod_rg (fun c => ?_) (by omega) (by omega) dL_law_1898 dL_law_1899 dL_law_1902 dL_law_1904 dL_law_1909 dL_law_1911 dL_law_1914 dL_law_1915 dL_law_1916 dL_law_1917 dL_law_1919 dL_law_1920 dL_law_1921 dL_law_1926 rfl (K.gO V2 S' P' _ _ h5 (by omega) (by omega))
  obtain ⟨r, hr⟩ := cod_e c
  have e1 := hz2 r hr
  have e2 := h4 r hr
  rw [gO_6 (by rw [e1]; exact (rg_nrm r).1), e1, e2]
theorem lc_directionSwitches {G : GT} {X : CT} {cells slots b L : Nat} {xs : Nat → Int32} {i : Int} {V : VV} {S : Su} {P : Pl} (A : LA G X b L xs) (hi : 0 ≤ i) (hi2 : i + 6 ≤ (L : Int)) (h : RV V S P) (hc : cells + 10 ≤ 601024) (hs : slots + 60 ≤ 7293034) (K : Nx G X b i cells slots) : At G X cells slots 1929 (LV G b i) [] V := by
  obtain ⟨r, V2, h1, h2, S', P', h5⟩ := op_directionSwitches V S P h
  have hN : gN G = 155 := A.2.2.2.2.2.1
  have C := A.1
  refine r_aload_n C dL_law_1929 rfl ?_
  refine q_callV (kk0 := 0) (As := []) (rest := []) C A.2.2.2.1 dL_law_1930 lL_268 w5_directionSwitches (rc_main (by omega)) (ev5_directionSwitches C.lt (by omega) h1) rfl rfl (Nat.le_of_ble_eq_true rfl) (Nat.le_of_ble_eq_true rfl) (Nat.le_of_ble_eq_true rfl) (show cells ≤ 601024 by omega) (show slots ≤ 7293034 by omega) ?_
  show At G X cells slots 1933 (LV G b i) [vI r] V
  refine r_aload_n C dL_law_1933 rfl ?_
  refine q_callV (kk0 := 148) (As := []) (rest := [vI r]) C A.2.2.2.1 dL_law_1934 lL_271 w6_directionSwitches (rc_model (by omega)) (ev6_directionSwitches C.lt (by omega) h2) rfl rfl (Nat.le_of_ble_eq_true rfl) (Nat.le_of_ble_eq_true rfl) (Nat.le_of_ble_eq_true rfl) (show cells ≤ 601024 by omega) (show slots ≤ 7293034 by omega) ?_
  show At G X cells slots 1937 (LV G b i) [vI r, vI r] V2
  refine x_icmpeq (tgt := 3481) C dL_law_1937 rfl (fun _ => ?_) (fun c => absurd rfl c)
  exact K.self V2 S' P' _ _ h5 (by omega) (by omega)
theorem lc_longestConvoy {G : GT} {X : CT} {cells slots b L : Nat} {xs : Nat → Int32} {i : Int} {V : VV} {S : Su} {P : Pl} (A : LA G X b L xs) (hi : 0 ≤ i) (hi2 : i + 6 ≤ (L : Int)) (h : RV V S P) (hc : cells + 10 ≤ 601024) (hs : slots + 60 ≤ 7293034) (K : Nx G X b i cells slots) : At G X cells slots 1942 (LV G b i) [] V := by
  obtain ⟨r, V2, h1, h2, S', P', h5⟩ := op_longestConvoy V S P h
  have hN : gN G = 155 := A.2.2.2.2.2.1
  have C := A.1
  refine r_aload_n C dL_law_1942 rfl ?_
  refine q_callV (kk0 := 0) (As := []) (rest := []) C A.2.2.2.1 dL_law_1943 lL_272 w5_longestConvoy (rc_main (by omega)) (ev5_longestConvoy C.lt (by omega) h1) rfl rfl (Nat.le_of_ble_eq_true rfl) (Nat.le_of_ble_eq_true rfl) (Nat.le_of_ble_eq_true rfl) (show cells ≤ 601024 by omega) (show slots ≤ 7293034 by omega) ?_
  show At G X cells slots 1946 (LV G b i) [vI r] V
  refine r_aload_n C dL_law_1946 rfl ?_
  refine q_callV (kk0 := 148) (As := []) (rest := [vI r]) C A.2.2.2.1 dL_law_1947 lL_275 w6_longestConvoy (rc_model (by omega)) (ev6_longestConvoy C.lt (by omega) h2) rfl rfl (Nat.le_of_ble_eq_true rfl) (Nat.le_of_ble_eq_true rfl) (Nat.le_of_ble_eq_true rfl) (show cells ≤ 601024 by omega) (show slots ≤ 7293034 by omega) ?_
  show At G X cells slots 1950 (LV G b i) [vI r, vI r] V2
  refine x_icmpeq (tgt := 3481) C dL_law_1950 rfl (fun _ => ?_) (fun c => absurd rfl c)
  exact K.self V2 S' P' _ _ h5 (by omega) (by omega)
