/-! calls over any room: the law's own frame -/
abbrev xS (X : CT) : State := X.2.2.2.2.1
section
variable {G : GT} {X : CT} {cells slots pc : Nat} {lv : List (Nat × Value)} {own : String} {cc : ByteArray} {R0 : Room}
/-- what goes on behind a call -/
theorem run_on {p : Program} {l : Launch} {e : Env} {R : Room} {s : State} {m : MethodId} {args a : Array Value} {below : List Frame} {meth : Method} {c : Code} {Q : State → Prop} {H : Heap} {locs : List Loc} {ls : Array Slot} {mc ms : Nat} {st0 rest : List Value} {post : Option Value → Nat → HT → Prop} {postX : String → Nat → HT → Prop} (hrun : vx_Run p l e R s m args below meth c H locs cells slots mc ms (F0 m pc ls st0) rest (QH G post a) (XH G postX) (gR G)) (hS : va_S (gR G) s.heap H locs)
    (kx : ∀ (E : String) (N' : Nat) (h' : HT), ¬ postX E N' h')
    (kk : ∀ (v : Option Value) (N' : Nat) (h' : HT) (H1 : Heap) (locs1 : List Loc), post v N' h' → Wd G N' h' H1 → va_S (gR G) s.heap H1 locs1 → W p l e R s m args below meth c H1 locs1 (cells + mc) (slots + ms) Q (F0 m (pc + 3) ls (v.toList ++ rest))) : W p l e R s m args below meth c H locs cells slots Q (F0 m pc ls st0) := by
  have hA : ∀ q, q < H.size → gR G q → gR G q := fun _ _ q => q
  intro T hT X0
  rcases hrun T hT X0 with ⟨v, st₀, t, T', L, h0, X', hL, e1, e2, ⟨v', N', h', hv, hp, hWd, hFr⟩, stp⟩ | ⟨q, st₀, t, T', L, E, ce, h0, X', hL, e1, e2, ⟨N', h', hp, hWd, hFr⟩, hce, hcv, hcl, stp⟩
  · cases hv
    obtain ⟨k1, k2, k3⟩ := vx_keep h0 e1 hS hA (fun _ q => q) hL hFr
    obtain ⟨t2, a1, b1⟩ := kk v N' h' T'.heap (locs ++ L) hp (by rw [e1]; exact hWd) k3 T' rfl X'
    exact ⟨t2, stp t2 a1, b1⟩
  · exact absurd hp (kx E N' h')
/-- a method that ends well is called, over any room -/
theorem q_callV {idx kk0 nLy n dy a0 : Nat} {y : MethodName} {ccy : ByteArray} {ret : Option FieldType} {As rest st0 : List Value} {o : Option Value} {V V1 : VV}
    (C : Cx G X own cc) (hR : xR X = R0) (d : decode cc pc = .ok (.invokevirtual idx, 3)) (wl : .methodLink own idx y ∈ LW) (wy : YV y ccy nLy ret n) (rc : RC G kk0 a0 y.cls) (hE : EvX G (xl X) y ccy nLy ret dy 0 0 (.ref a0 :: As) V (.ok o) V1) (hst : st0 = As.reverse ++ .ref a0 :: rest) (hn : As.length = n)
    (hcat : (rest.map fun v => v.category).sum ≤ 8) (hd : dy + 1 ≤ R0.frames) (hlo : 8 + (nLy + 11) + 40 * dy ≤ R0.locals) (hmc : cells ≤ R0.cells) (hms : slots ≤ R0.slots)
    (kk : At G X cells slots (pc + 3) lv (o.toList ++ rest) V1) : At G X cells slots pc lv st0 V := by
  obtain ⟨p, l, e, R, s, m, args, below, meth, c, Q, nL⟩ := X
  intro H locs ls hW hS hls
  subst hR
  obtain ⟨hexec, hb, hml, hown, hts, hK, hF, hlocks, -, hbs⟩ := C
  obtain ⟨w1, w2, w3, w4, w5, w6⟩ := wy
  obtain ⟨ha, hk, ci, fs, cf, hci⟩ := rc
  subst ha
  have hcb : CallB R s args own idx y ccy nLy ret (.code y ccy nLy ret :: LW) (rmD dy 0 0) 0 0 n := by
    refine ⟨rfl, rfl, hd, hlo, ?_, List.mem_cons_self, hts _ w4, hts _ w3, w5, fun sig h => ?_, hts _ wl⟩
    · intro w hw a' U hW
      have hm : w ∈ LW := by
        rcases List.mem_cons.mp hw with e | e
        · rw [e]; exact w4
        · exact e
      exact word_at hW (LW_good hm) (hts w hm)
    · rw [h] at w6
      exact (Option.some.inj w6).symm
  have hwat := hW.at hk
  rw [show hV G V kk0 = .inr (ci, fs (V kk0)) from cf _] at hwat
  obtain ⟨r9, hr9, cell9, q1, q2, q3, -⟩ := hwat
  have hcls : s.vm.findClass y.cls = some cell9.cls := by
    have h1 := (hK.1 ci r9 hr9).2.1
    rw [hr9] at hci
    have h2 : r9.1 = y.cls := Option.some.inj hci
    rw [← h2, q2]
    exact h1
  have hpre : PreV s H y.cls (ad G kk0) (PH G (.ref (ad G kk0) :: As) (gN G) (hV G V)) As := by
    refine ⟨PH_blind, ⟨cell9, q1, by rw [q3]; rfl, hcls⟩, fun U hU hWm => ⟨rfl, by rw [hU]; exact hW, va_K.moved hWm.alike hK, ?_⟩⟩
    rw [hU]
    exact (hF.kept (fun a h1 h2 => hS.2.1 a h1 h2)).moved hWm
  have hrun := vx_runV (H := H) (locs := locs) (cells := cells) (slots := slots) (p := p) (e := e) (below := below) (meth := meth) (rest := rest) (As := As) (b := ad G kk0) (g := F0 m pc ls st0) ⟨hexec, hb, hml, hown, hts⟩ hE ⟨hcb, hts _ w1, hts _ w2⟩ hpre rfl hn hls.1 hst (lv_room hcat) d ⟨hmc, hms⟩
  refine run_on hrun hS (fun E N' h' hp => by obtain ⟨-, V', -, q, -⟩ := hp; cases q) (fun v N' h' H1 locs1 hp hWd hS1 => ?_)
  obtain ⟨p1, V', p2, p3, p4⟩ := hp
  subst p1; subst p2; cases p3; subst p4
  exact kk H1 locs1 ls hWd hS1 hls
theorem q_callS {idx nLy n dy : Nat} {y : MethodName} {ccy : ByteArray} {ret : Option FieldType} {As rest st0 : List Value} {o : Option Value} {V V1 : VV}
    (C : Cx G X own cc) (hR : xR X = R0) (d : decode cc pc = .ok (.invokestatic idx, 3)) (wl : .methodLink own idx y ∈ LW) (wy : YS y ccy nLy ret n) (hE : EvX G (xl X) y ccy nLy ret dy 0 0 As V (.ok o) V1) (hst : st0 = As.reverse ++ rest) (hn : As.length = n)
    (hcat : (rest.map fun v => v.category).sum ≤ 8) (hd : dy + 1 ≤ R0.frames) (hlo : 8 + (nLy + 11) + 40 * dy ≤ R0.locals) (hmc : cells ≤ R0.cells) (hms : slots ≤ R0.slots)
    (kk : At G X cells slots (pc + 3) lv (o.toList ++ rest) V1) : At G X cells slots pc lv st0 V := by
  obtain ⟨p, l, e, R, s, m, args, below, meth, c, Q, nL⟩ := X
  intro H locs ls hW hS hls
  subst hR
  obtain ⟨hexec, hb, hml, hown, hts, hK, hF, hlocks, -, hbs⟩ := C
  obtain ⟨w2, w3, w4, w5, w6⟩ := wy
  have hcb : CallB R s args own idx y ccy nLy ret (.code y ccy nLy ret :: LW) (rmD dy 0 0) 0 0 n := by
    refine ⟨rfl, rfl, hd, hlo, ?_, List.mem_cons_self, hts _ w4, hts _ w3, w5, fun sig h => ?_, hts _ wl⟩
    · intro w hw a' U hW
      have hm : w ∈ LW := by
        rcases List.mem_cons.mp hw with e | e
        · rw [e]; exact w4
        · exact e
      exact word_at hW (LW_good hm) (hts w hm)
    · rw [h] at w6
      exact (Option.some.inj w6).symm
  have hpre : PreS s H (PH G As (gN G) (hV G V)) As := by
    refine ⟨PH_blind, fun U hU hWm => ⟨rfl, by rw [hU]; exact hW, va_K.moved hWm.alike hK, ?_⟩⟩
    rw [hU]
    exact (hF.kept (fun a h1 h2 => hS.2.1 a h1 h2)).moved hWm
  have hrun := vx_runS (H := H) (locs := locs) (cells := cells) (slots := slots) (p := p) (e := e) (below := below) (meth := meth) (rest := rest) (As := As) (g := F0 m pc ls st0) ⟨hexec, hb, hml, hown, hts⟩ hE ⟨hcb, hts _ w2⟩ hpre rfl hn hls.1 hst (lv_room hcat) d ⟨hmc, hms⟩
  refine run_on hrun hS (fun E N' h' hp => by obtain ⟨-, V', -, q, -⟩ := hp; cases q) (fun v N' h' H1 locs1 hp hWd hS1 => ?_)
  obtain ⟨p1, V', p2, p3, p4⟩ := hp
  subst p1; subst p2; cases p3; subst p4
  exact kk H1 locs1 ls hWd hS1 hls
theorem qV0_i {idx kk0 a0 nLy dy : Nat} {y : MethodName} {ccy : ByteArray} {ret : Option FieldType} {rest : List Value} {z : Int} {V V1 : VV} (C : Cx G X own cc) (hR : xR X = room_1) (d : decode cc pc = .ok (.invokevirtual idx, 3)) (wl : .methodLink own idx y ∈ LW) (wy : YV y ccy nLy ret 0) (rc : RC G kk0 a0 y.cls) (hE : EvX G (xl X) y ccy nLy ret dy 0 0 (.ref a0 :: []) V (.ok (some (vI z))) V1) (hb : (Nat.ble (dy + 1) 16 && Nat.ble (8 + (nLy + 11) + 40 * dy) 626 && Nat.ble (rest.map fun v => v.category).sum 8) = true) (hc : cells ≤ 600086) (hs : slots ≤ 7301442)
    (kk : At G X cells slots (pc + 3) lv (vI z :: rest) V1) : At G X cells slots pc lv (.ref a0 :: rest) V := by
  simp only [Bool.and_eq_true] at hb
  exact q_callV C hR d wl wy rc hE rfl rfl (Nat.le_of_ble_eq_true hb.2) (Nat.le_of_ble_eq_true hb.1.1) (Nat.le_of_ble_eq_true hb.1.2) hc hs kk
theorem qV0_v {idx kk0 a0 nLy dy : Nat} {y : MethodName} {ccy : ByteArray} {ret : Option FieldType} {rest : List Value} {V V1 : VV} (C : Cx G X own cc) (hR : xR X = room_1) (d : decode cc pc = .ok (.invokevirtual idx, 3)) (wl : .methodLink own idx y ∈ LW) (wy : YV y ccy nLy ret 0) (rc : RC G kk0 a0 y.cls) (hE : EvX G (xl X) y ccy nLy ret dy 0 0 (.ref a0 :: []) V (.ok none) V1) (hb : (Nat.ble (dy + 1) 16 && Nat.ble (8 + (nLy + 11) + 40 * dy) 626 && Nat.ble (rest.map fun v => v.category).sum 8) = true) (hc : cells ≤ 600086) (hs : slots ≤ 7301442)
    (kk : At G X cells slots (pc + 3) lv (rest) V1) : At G X cells slots pc lv (.ref a0 :: rest) V := by
  simp only [Bool.and_eq_true] at hb
  exact q_callV C hR d wl wy rc hE rfl rfl (Nat.le_of_ble_eq_true hb.2) (Nat.le_of_ble_eq_true hb.1.1) (Nat.le_of_ble_eq_true hb.1.2) hc hs kk
theorem qS0_i {idx nLy dy : Nat} {y : MethodName} {ccy : ByteArray} {ret : Option FieldType} {rest : List Value} {z : Int} {V V1 : VV} (C : Cx G X own cc) (hR : xR X = room_1) (d : decode cc pc = .ok (.invokestatic idx, 3)) (wl : .methodLink own idx y ∈ LW) (wy : YS y ccy nLy ret 0) (hE : EvX G (xl X) y ccy nLy ret dy 0 0 [] V (.ok (some (vI z))) V1) (hb : (Nat.ble (dy + 1) 16 && Nat.ble (8 + (nLy + 11) + 40 * dy) 626 && Nat.ble (rest.map fun v => v.category).sum 8) = true) (hc : cells ≤ 600086) (hs : slots ≤ 7301442)
    (kk : At G X cells slots (pc + 3) lv (vI z :: rest) V1) : At G X cells slots pc lv (rest) V := by
  simp only [Bool.and_eq_true] at hb
  exact q_callS C hR d wl wy hE rfl rfl (Nat.le_of_ble_eq_true hb.2) (Nat.le_of_ble_eq_true hb.1.1) (Nat.le_of_ble_eq_true hb.1.2) hc hs kk
theorem qS0_v {idx nLy dy : Nat} {y : MethodName} {ccy : ByteArray} {ret : Option FieldType} {rest : List Value} {V V1 : VV} (C : Cx G X own cc) (hR : xR X = room_1) (d : decode cc pc = .ok (.invokestatic idx, 3)) (wl : .methodLink own idx y ∈ LW) (wy : YS y ccy nLy ret 0) (hE : EvX G (xl X) y ccy nLy ret dy 0 0 [] V (.ok none) V1) (hb : (Nat.ble (dy + 1) 16 && Nat.ble (8 + (nLy + 11) + 40 * dy) 626 && Nat.ble (rest.map fun v => v.category).sum 8) = true) (hc : cells ≤ 600086) (hs : slots ≤ 7301442)
    (kk : At G X cells slots (pc + 3) lv (rest) V1) : At G X cells slots pc lv (rest) V := by
  simp only [Bool.and_eq_true] at hb
  exact q_callS C hR d wl wy hE rfl rfl (Nat.le_of_ble_eq_true hb.2) (Nat.le_of_ble_eq_true hb.1.1) (Nat.le_of_ble_eq_true hb.1.2) hc hs kk
theorem qV1_i {idx kk0 a0 nLy dy : Nat} {y : MethodName} {ccy : ByteArray} {ret : Option FieldType} {rest : List Value} {a1 : Value} {z : Int} {V V1 : VV} (C : Cx G X own cc) (hR : xR X = room_1) (d : decode cc pc = .ok (.invokevirtual idx, 3)) (wl : .methodLink own idx y ∈ LW) (wy : YV y ccy nLy ret 1) (rc : RC G kk0 a0 y.cls) (hE : EvX G (xl X) y ccy nLy ret dy 0 0 (.ref a0 :: [a1]) V (.ok (some (vI z))) V1) (hb : (Nat.ble (dy + 1) 16 && Nat.ble (8 + (nLy + 11) + 40 * dy) 626 && Nat.ble (rest.map fun v => v.category).sum 8) = true) (hc : cells ≤ 600086) (hs : slots ≤ 7301442)
    (kk : At G X cells slots (pc + 3) lv (vI z :: rest) V1) : At G X cells slots pc lv (a1 :: .ref a0 :: rest) V := by
  simp only [Bool.and_eq_true] at hb
  exact q_callV C hR d wl wy rc hE rfl rfl (Nat.le_of_ble_eq_true hb.2) (Nat.le_of_ble_eq_true hb.1.1) (Nat.le_of_ble_eq_true hb.1.2) hc hs kk
theorem qV1_v {idx kk0 a0 nLy dy : Nat} {y : MethodName} {ccy : ByteArray} {ret : Option FieldType} {rest : List Value} {a1 : Value} {V V1 : VV} (C : Cx G X own cc) (hR : xR X = room_1) (d : decode cc pc = .ok (.invokevirtual idx, 3)) (wl : .methodLink own idx y ∈ LW) (wy : YV y ccy nLy ret 1) (rc : RC G kk0 a0 y.cls) (hE : EvX G (xl X) y ccy nLy ret dy 0 0 (.ref a0 :: [a1]) V (.ok none) V1) (hb : (Nat.ble (dy + 1) 16 && Nat.ble (8 + (nLy + 11) + 40 * dy) 626 && Nat.ble (rest.map fun v => v.category).sum 8) = true) (hc : cells ≤ 600086) (hs : slots ≤ 7301442)
    (kk : At G X cells slots (pc + 3) lv (rest) V1) : At G X cells slots pc lv (a1 :: .ref a0 :: rest) V := by
  simp only [Bool.and_eq_true] at hb
  exact q_callV C hR d wl wy rc hE rfl rfl (Nat.le_of_ble_eq_true hb.2) (Nat.le_of_ble_eq_true hb.1.1) (Nat.le_of_ble_eq_true hb.1.2) hc hs kk
theorem qS1_i {idx nLy dy : Nat} {y : MethodName} {ccy : ByteArray} {ret : Option FieldType} {rest : List Value} {a1 : Value} {z : Int} {V V1 : VV} (C : Cx G X own cc) (hR : xR X = room_1) (d : decode cc pc = .ok (.invokestatic idx, 3)) (wl : .methodLink own idx y ∈ LW) (wy : YS y ccy nLy ret 1) (hE : EvX G (xl X) y ccy nLy ret dy 0 0 [a1] V (.ok (some (vI z))) V1) (hb : (Nat.ble (dy + 1) 16 && Nat.ble (8 + (nLy + 11) + 40 * dy) 626 && Nat.ble (rest.map fun v => v.category).sum 8) = true) (hc : cells ≤ 600086) (hs : slots ≤ 7301442)
    (kk : At G X cells slots (pc + 3) lv (vI z :: rest) V1) : At G X cells slots pc lv (a1 :: rest) V := by
  simp only [Bool.and_eq_true] at hb
  exact q_callS C hR d wl wy hE rfl rfl (Nat.le_of_ble_eq_true hb.2) (Nat.le_of_ble_eq_true hb.1.1) (Nat.le_of_ble_eq_true hb.1.2) hc hs kk
theorem qS1_v {idx nLy dy : Nat} {y : MethodName} {ccy : ByteArray} {ret : Option FieldType} {rest : List Value} {a1 : Value} {V V1 : VV} (C : Cx G X own cc) (hR : xR X = room_1) (d : decode cc pc = .ok (.invokestatic idx, 3)) (wl : .methodLink own idx y ∈ LW) (wy : YS y ccy nLy ret 1) (hE : EvX G (xl X) y ccy nLy ret dy 0 0 [a1] V (.ok none) V1) (hb : (Nat.ble (dy + 1) 16 && Nat.ble (8 + (nLy + 11) + 40 * dy) 626 && Nat.ble (rest.map fun v => v.category).sum 8) = true) (hc : cells ≤ 600086) (hs : slots ≤ 7301442)
    (kk : At G X cells slots (pc + 3) lv (rest) V1) : At G X cells slots pc lv (a1 :: rest) V := by
  simp only [Bool.and_eq_true] at hb
  exact q_callS C hR d wl wy hE rfl rfl (Nat.le_of_ble_eq_true hb.2) (Nat.le_of_ble_eq_true hb.1.1) (Nat.le_of_ble_eq_true hb.1.2) hc hs kk
theorem qV2_i {idx kk0 a0 nLy dy : Nat} {y : MethodName} {ccy : ByteArray} {ret : Option FieldType} {rest : List Value} {a1 a2 : Value} {z : Int} {V V1 : VV} (C : Cx G X own cc) (hR : xR X = room_1) (d : decode cc pc = .ok (.invokevirtual idx, 3)) (wl : .methodLink own idx y ∈ LW) (wy : YV y ccy nLy ret 2) (rc : RC G kk0 a0 y.cls) (hE : EvX G (xl X) y ccy nLy ret dy 0 0 (.ref a0 :: [a1, a2]) V (.ok (some (vI z))) V1) (hb : (Nat.ble (dy + 1) 16 && Nat.ble (8 + (nLy + 11) + 40 * dy) 626 && Nat.ble (rest.map fun v => v.category).sum 8) = true) (hc : cells ≤ 600086) (hs : slots ≤ 7301442)
    (kk : At G X cells slots (pc + 3) lv (vI z :: rest) V1) : At G X cells slots pc lv (a2 :: a1 :: .ref a0 :: rest) V := by
  simp only [Bool.and_eq_true] at hb
  exact q_callV C hR d wl wy rc hE rfl rfl (Nat.le_of_ble_eq_true hb.2) (Nat.le_of_ble_eq_true hb.1.1) (Nat.le_of_ble_eq_true hb.1.2) hc hs kk
theorem qV2_v {idx kk0 a0 nLy dy : Nat} {y : MethodName} {ccy : ByteArray} {ret : Option FieldType} {rest : List Value} {a1 a2 : Value} {V V1 : VV} (C : Cx G X own cc) (hR : xR X = room_1) (d : decode cc pc = .ok (.invokevirtual idx, 3)) (wl : .methodLink own idx y ∈ LW) (wy : YV y ccy nLy ret 2) (rc : RC G kk0 a0 y.cls) (hE : EvX G (xl X) y ccy nLy ret dy 0 0 (.ref a0 :: [a1, a2]) V (.ok none) V1) (hb : (Nat.ble (dy + 1) 16 && Nat.ble (8 + (nLy + 11) + 40 * dy) 626 && Nat.ble (rest.map fun v => v.category).sum 8) = true) (hc : cells ≤ 600086) (hs : slots ≤ 7301442)
    (kk : At G X cells slots (pc + 3) lv (rest) V1) : At G X cells slots pc lv (a2 :: a1 :: .ref a0 :: rest) V := by
  simp only [Bool.and_eq_true] at hb
  exact q_callV C hR d wl wy rc hE rfl rfl (Nat.le_of_ble_eq_true hb.2) (Nat.le_of_ble_eq_true hb.1.1) (Nat.le_of_ble_eq_true hb.1.2) hc hs kk
theorem qS2_i {idx nLy dy : Nat} {y : MethodName} {ccy : ByteArray} {ret : Option FieldType} {rest : List Value} {a1 a2 : Value} {z : Int} {V V1 : VV} (C : Cx G X own cc) (hR : xR X = room_1) (d : decode cc pc = .ok (.invokestatic idx, 3)) (wl : .methodLink own idx y ∈ LW) (wy : YS y ccy nLy ret 2) (hE : EvX G (xl X) y ccy nLy ret dy 0 0 [a1, a2] V (.ok (some (vI z))) V1) (hb : (Nat.ble (dy + 1) 16 && Nat.ble (8 + (nLy + 11) + 40 * dy) 626 && Nat.ble (rest.map fun v => v.category).sum 8) = true) (hc : cells ≤ 600086) (hs : slots ≤ 7301442)
    (kk : At G X cells slots (pc + 3) lv (vI z :: rest) V1) : At G X cells slots pc lv (a2 :: a1 :: rest) V := by
  simp only [Bool.and_eq_true] at hb
  exact q_callS C hR d wl wy hE rfl rfl (Nat.le_of_ble_eq_true hb.2) (Nat.le_of_ble_eq_true hb.1.1) (Nat.le_of_ble_eq_true hb.1.2) hc hs kk
theorem qS2_v {idx nLy dy : Nat} {y : MethodName} {ccy : ByteArray} {ret : Option FieldType} {rest : List Value} {a1 a2 : Value} {V V1 : VV} (C : Cx G X own cc) (hR : xR X = room_1) (d : decode cc pc = .ok (.invokestatic idx, 3)) (wl : .methodLink own idx y ∈ LW) (wy : YS y ccy nLy ret 2) (hE : EvX G (xl X) y ccy nLy ret dy 0 0 [a1, a2] V (.ok none) V1) (hb : (Nat.ble (dy + 1) 16 && Nat.ble (8 + (nLy + 11) + 40 * dy) 626 && Nat.ble (rest.map fun v => v.category).sum 8) = true) (hc : cells ≤ 600086) (hs : slots ≤ 7301442)
    (kk : At G X cells slots (pc + 3) lv (rest) V1) : At G X cells slots pc lv (a2 :: a1 :: rest) V := by
  simp only [Bool.and_eq_true] at hb
  exact q_callS C hR d wl wy hE rfl rfl (Nat.le_of_ble_eq_true hb.2) (Nat.le_of_ble_eq_true hb.1.1) (Nat.le_of_ble_eq_true hb.1.2) hc hs kk
theorem qV3_i {idx kk0 a0 nLy dy : Nat} {y : MethodName} {ccy : ByteArray} {ret : Option FieldType} {rest : List Value} {a1 a2 a3 : Value} {z : Int} {V V1 : VV} (C : Cx G X own cc) (hR : xR X = room_1) (d : decode cc pc = .ok (.invokevirtual idx, 3)) (wl : .methodLink own idx y ∈ LW) (wy : YV y ccy nLy ret 3) (rc : RC G kk0 a0 y.cls) (hE : EvX G (xl X) y ccy nLy ret dy 0 0 (.ref a0 :: [a1, a2, a3]) V (.ok (some (vI z))) V1) (hb : (Nat.ble (dy + 1) 16 && Nat.ble (8 + (nLy + 11) + 40 * dy) 626 && Nat.ble (rest.map fun v => v.category).sum 8) = true) (hc : cells ≤ 600086) (hs : slots ≤ 7301442)
    (kk : At G X cells slots (pc + 3) lv (vI z :: rest) V1) : At G X cells slots pc lv (a3 :: a2 :: a1 :: .ref a0 :: rest) V := by
  simp only [Bool.and_eq_true] at hb
  exact q_callV C hR d wl wy rc hE rfl rfl (Nat.le_of_ble_eq_true hb.2) (Nat.le_of_ble_eq_true hb.1.1) (Nat.le_of_ble_eq_true hb.1.2) hc hs kk
theorem qV3_v {idx kk0 a0 nLy dy : Nat} {y : MethodName} {ccy : ByteArray} {ret : Option FieldType} {rest : List Value} {a1 a2 a3 : Value} {V V1 : VV} (C : Cx G X own cc) (hR : xR X = room_1) (d : decode cc pc = .ok (.invokevirtual idx, 3)) (wl : .methodLink own idx y ∈ LW) (wy : YV y ccy nLy ret 3) (rc : RC G kk0 a0 y.cls) (hE : EvX G (xl X) y ccy nLy ret dy 0 0 (.ref a0 :: [a1, a2, a3]) V (.ok none) V1) (hb : (Nat.ble (dy + 1) 16 && Nat.ble (8 + (nLy + 11) + 40 * dy) 626 && Nat.ble (rest.map fun v => v.category).sum 8) = true) (hc : cells ≤ 600086) (hs : slots ≤ 7301442)
    (kk : At G X cells slots (pc + 3) lv (rest) V1) : At G X cells slots pc lv (a3 :: a2 :: a1 :: .ref a0 :: rest) V := by
  simp only [Bool.and_eq_true] at hb
  exact q_callV C hR d wl wy rc hE rfl rfl (Nat.le_of_ble_eq_true hb.2) (Nat.le_of_ble_eq_true hb.1.1) (Nat.le_of_ble_eq_true hb.1.2) hc hs kk
theorem qS3_i {idx nLy dy : Nat} {y : MethodName} {ccy : ByteArray} {ret : Option FieldType} {rest : List Value} {a1 a2 a3 : Value} {z : Int} {V V1 : VV} (C : Cx G X own cc) (hR : xR X = room_1) (d : decode cc pc = .ok (.invokestatic idx, 3)) (wl : .methodLink own idx y ∈ LW) (wy : YS y ccy nLy ret 3) (hE : EvX G (xl X) y ccy nLy ret dy 0 0 [a1, a2, a3] V (.ok (some (vI z))) V1) (hb : (Nat.ble (dy + 1) 16 && Nat.ble (8 + (nLy + 11) + 40 * dy) 626 && Nat.ble (rest.map fun v => v.category).sum 8) = true) (hc : cells ≤ 600086) (hs : slots ≤ 7301442)
    (kk : At G X cells slots (pc + 3) lv (vI z :: rest) V1) : At G X cells slots pc lv (a3 :: a2 :: a1 :: rest) V := by
  simp only [Bool.and_eq_true] at hb
  exact q_callS C hR d wl wy hE rfl rfl (Nat.le_of_ble_eq_true hb.2) (Nat.le_of_ble_eq_true hb.1.1) (Nat.le_of_ble_eq_true hb.1.2) hc hs kk
theorem qS3_v {idx nLy dy : Nat} {y : MethodName} {ccy : ByteArray} {ret : Option FieldType} {rest : List Value} {a1 a2 a3 : Value} {V V1 : VV} (C : Cx G X own cc) (hR : xR X = room_1) (d : decode cc pc = .ok (.invokestatic idx, 3)) (wl : .methodLink own idx y ∈ LW) (wy : YS y ccy nLy ret 3) (hE : EvX G (xl X) y ccy nLy ret dy 0 0 [a1, a2, a3] V (.ok none) V1) (hb : (Nat.ble (dy + 1) 16 && Nat.ble (8 + (nLy + 11) + 40 * dy) 626 && Nat.ble (rest.map fun v => v.category).sum 8) = true) (hc : cells ≤ 600086) (hs : slots ≤ 7301442)
    (kk : At G X cells slots (pc + 3) lv (rest) V1) : At G X cells slots pc lv (a3 :: a2 :: a1 :: rest) V := by
  simp only [Bool.and_eq_true] at hb
  exact q_callS C hR d wl wy hE rfl rfl (Nat.le_of_ble_eq_true hb.2) (Nat.le_of_ble_eq_true hb.1.1) (Nat.le_of_ble_eq_true hb.1.2) hc hs kk
theorem qV4_i {idx kk0 a0 nLy dy : Nat} {y : MethodName} {ccy : ByteArray} {ret : Option FieldType} {rest : List Value} {a1 a2 a3 a4 : Value} {z : Int} {V V1 : VV} (C : Cx G X own cc) (hR : xR X = room_1) (d : decode cc pc = .ok (.invokevirtual idx, 3)) (wl : .methodLink own idx y ∈ LW) (wy : YV y ccy nLy ret 4) (rc : RC G kk0 a0 y.cls) (hE : EvX G (xl X) y ccy nLy ret dy 0 0 (.ref a0 :: [a1, a2, a3, a4]) V (.ok (some (vI z))) V1) (hb : (Nat.ble (dy + 1) 16 && Nat.ble (8 + (nLy + 11) + 40 * dy) 626 && Nat.ble (rest.map fun v => v.category).sum 8) = true) (hc : cells ≤ 600086) (hs : slots ≤ 7301442)
    (kk : At G X cells slots (pc + 3) lv (vI z :: rest) V1) : At G X cells slots pc lv (a4 :: a3 :: a2 :: a1 :: .ref a0 :: rest) V := by
  simp only [Bool.and_eq_true] at hb
  exact q_callV C hR d wl wy rc hE rfl rfl (Nat.le_of_ble_eq_true hb.2) (Nat.le_of_ble_eq_true hb.1.1) (Nat.le_of_ble_eq_true hb.1.2) hc hs kk
theorem qV4_v {idx kk0 a0 nLy dy : Nat} {y : MethodName} {ccy : ByteArray} {ret : Option FieldType} {rest : List Value} {a1 a2 a3 a4 : Value} {V V1 : VV} (C : Cx G X own cc) (hR : xR X = room_1) (d : decode cc pc = .ok (.invokevirtual idx, 3)) (wl : .methodLink own idx y ∈ LW) (wy : YV y ccy nLy ret 4) (rc : RC G kk0 a0 y.cls) (hE : EvX G (xl X) y ccy nLy ret dy 0 0 (.ref a0 :: [a1, a2, a3, a4]) V (.ok none) V1) (hb : (Nat.ble (dy + 1) 16 && Nat.ble (8 + (nLy + 11) + 40 * dy) 626 && Nat.ble (rest.map fun v => v.category).sum 8) = true) (hc : cells ≤ 600086) (hs : slots ≤ 7301442)
    (kk : At G X cells slots (pc + 3) lv (rest) V1) : At G X cells slots pc lv (a4 :: a3 :: a2 :: a1 :: .ref a0 :: rest) V := by
  simp only [Bool.and_eq_true] at hb
  exact q_callV C hR d wl wy rc hE rfl rfl (Nat.le_of_ble_eq_true hb.2) (Nat.le_of_ble_eq_true hb.1.1) (Nat.le_of_ble_eq_true hb.1.2) hc hs kk
theorem qS4_i {idx nLy dy : Nat} {y : MethodName} {ccy : ByteArray} {ret : Option FieldType} {rest : List Value} {a1 a2 a3 a4 : Value} {z : Int} {V V1 : VV} (C : Cx G X own cc) (hR : xR X = room_1) (d : decode cc pc = .ok (.invokestatic idx, 3)) (wl : .methodLink own idx y ∈ LW) (wy : YS y ccy nLy ret 4) (hE : EvX G (xl X) y ccy nLy ret dy 0 0 [a1, a2, a3, a4] V (.ok (some (vI z))) V1) (hb : (Nat.ble (dy + 1) 16 && Nat.ble (8 + (nLy + 11) + 40 * dy) 626 && Nat.ble (rest.map fun v => v.category).sum 8) = true) (hc : cells ≤ 600086) (hs : slots ≤ 7301442)
    (kk : At G X cells slots (pc + 3) lv (vI z :: rest) V1) : At G X cells slots pc lv (a4 :: a3 :: a2 :: a1 :: rest) V := by
  simp only [Bool.and_eq_true] at hb
  exact q_callS C hR d wl wy hE rfl rfl (Nat.le_of_ble_eq_true hb.2) (Nat.le_of_ble_eq_true hb.1.1) (Nat.le_of_ble_eq_true hb.1.2) hc hs kk
theorem qS4_v {idx nLy dy : Nat} {y : MethodName} {ccy : ByteArray} {ret : Option FieldType} {rest : List Value} {a1 a2 a3 a4 : Value} {V V1 : VV} (C : Cx G X own cc) (hR : xR X = room_1) (d : decode cc pc = .ok (.invokestatic idx, 3)) (wl : .methodLink own idx y ∈ LW) (wy : YS y ccy nLy ret 4) (hE : EvX G (xl X) y ccy nLy ret dy 0 0 [a1, a2, a3, a4] V (.ok none) V1) (hb : (Nat.ble (dy + 1) 16 && Nat.ble (8 + (nLy + 11) + 40 * dy) 626 && Nat.ble (rest.map fun v => v.category).sum 8) = true) (hc : cells ≤ 600086) (hs : slots ≤ 7301442)
    (kk : At G X cells slots (pc + 3) lv (rest) V1) : At G X cells slots pc lv (a4 :: a3 :: a2 :: a1 :: rest) V := by
  simp only [Bool.and_eq_true] at hb
  exact q_callS C hR d wl wy hE rfl rfl (Nat.le_of_ble_eq_true hb.2) (Nat.le_of_ble_eq_true hb.1.1) (Nat.le_of_ble_eq_true hb.1.2) hc hs kk
theorem qV5_i {idx kk0 a0 nLy dy : Nat} {y : MethodName} {ccy : ByteArray} {ret : Option FieldType} {rest : List Value} {a1 a2 a3 a4 a5 : Value} {z : Int} {V V1 : VV} (C : Cx G X own cc) (hR : xR X = room_1) (d : decode cc pc = .ok (.invokevirtual idx, 3)) (wl : .methodLink own idx y ∈ LW) (wy : YV y ccy nLy ret 5) (rc : RC G kk0 a0 y.cls) (hE : EvX G (xl X) y ccy nLy ret dy 0 0 (.ref a0 :: [a1, a2, a3, a4, a5]) V (.ok (some (vI z))) V1) (hb : (Nat.ble (dy + 1) 16 && Nat.ble (8 + (nLy + 11) + 40 * dy) 626 && Nat.ble (rest.map fun v => v.category).sum 8) = true) (hc : cells ≤ 600086) (hs : slots ≤ 7301442)
    (kk : At G X cells slots (pc + 3) lv (vI z :: rest) V1) : At G X cells slots pc lv (a5 :: a4 :: a3 :: a2 :: a1 :: .ref a0 :: rest) V := by
  simp only [Bool.and_eq_true] at hb
  exact q_callV C hR d wl wy rc hE rfl rfl (Nat.le_of_ble_eq_true hb.2) (Nat.le_of_ble_eq_true hb.1.1) (Nat.le_of_ble_eq_true hb.1.2) hc hs kk
theorem qV5_v {idx kk0 a0 nLy dy : Nat} {y : MethodName} {ccy : ByteArray} {ret : Option FieldType} {rest : List Value} {a1 a2 a3 a4 a5 : Value} {V V1 : VV} (C : Cx G X own cc) (hR : xR X = room_1) (d : decode cc pc = .ok (.invokevirtual idx, 3)) (wl : .methodLink own idx y ∈ LW) (wy : YV y ccy nLy ret 5) (rc : RC G kk0 a0 y.cls) (hE : EvX G (xl X) y ccy nLy ret dy 0 0 (.ref a0 :: [a1, a2, a3, a4, a5]) V (.ok none) V1) (hb : (Nat.ble (dy + 1) 16 && Nat.ble (8 + (nLy + 11) + 40 * dy) 626 && Nat.ble (rest.map fun v => v.category).sum 8) = true) (hc : cells ≤ 600086) (hs : slots ≤ 7301442)
    (kk : At G X cells slots (pc + 3) lv (rest) V1) : At G X cells slots pc lv (a5 :: a4 :: a3 :: a2 :: a1 :: .ref a0 :: rest) V := by
  simp only [Bool.and_eq_true] at hb
  exact q_callV C hR d wl wy rc hE rfl rfl (Nat.le_of_ble_eq_true hb.2) (Nat.le_of_ble_eq_true hb.1.1) (Nat.le_of_ble_eq_true hb.1.2) hc hs kk
theorem qS5_i {idx nLy dy : Nat} {y : MethodName} {ccy : ByteArray} {ret : Option FieldType} {rest : List Value} {a1 a2 a3 a4 a5 : Value} {z : Int} {V V1 : VV} (C : Cx G X own cc) (hR : xR X = room_1) (d : decode cc pc = .ok (.invokestatic idx, 3)) (wl : .methodLink own idx y ∈ LW) (wy : YS y ccy nLy ret 5) (hE : EvX G (xl X) y ccy nLy ret dy 0 0 [a1, a2, a3, a4, a5] V (.ok (some (vI z))) V1) (hb : (Nat.ble (dy + 1) 16 && Nat.ble (8 + (nLy + 11) + 40 * dy) 626 && Nat.ble (rest.map fun v => v.category).sum 8) = true) (hc : cells ≤ 600086) (hs : slots ≤ 7301442)
    (kk : At G X cells slots (pc + 3) lv (vI z :: rest) V1) : At G X cells slots pc lv (a5 :: a4 :: a3 :: a2 :: a1 :: rest) V := by
  simp only [Bool.and_eq_true] at hb
  exact q_callS C hR d wl wy hE rfl rfl (Nat.le_of_ble_eq_true hb.2) (Nat.le_of_ble_eq_true hb.1.1) (Nat.le_of_ble_eq_true hb.1.2) hc hs kk
theorem qS5_v {idx nLy dy : Nat} {y : MethodName} {ccy : ByteArray} {ret : Option FieldType} {rest : List Value} {a1 a2 a3 a4 a5 : Value} {V V1 : VV} (C : Cx G X own cc) (hR : xR X = room_1) (d : decode cc pc = .ok (.invokestatic idx, 3)) (wl : .methodLink own idx y ∈ LW) (wy : YS y ccy nLy ret 5) (hE : EvX G (xl X) y ccy nLy ret dy 0 0 [a1, a2, a3, a4, a5] V (.ok none) V1) (hb : (Nat.ble (dy + 1) 16 && Nat.ble (8 + (nLy + 11) + 40 * dy) 626 && Nat.ble (rest.map fun v => v.category).sum 8) = true) (hc : cells ≤ 600086) (hs : slots ≤ 7301442)
    (kk : At G X cells slots (pc + 3) lv (rest) V1) : At G X cells slots pc lv (a5 :: a4 :: a3 :: a2 :: a1 :: rest) V := by
  simp only [Bool.and_eq_true] at hb
  exact q_callS C hR d wl wy hE rfl rfl (Nat.le_of_ble_eq_true hb.2) (Nat.le_of_ble_eq_true hb.1.1) (Nat.le_of_ble_eq_true hb.1.2) hc hs kk
end
theorem hN8 {n : Nat} (h : 157 ≤ n) : 148 ≤ n := by omega
/-- a loop with ends inside, in a loop with ends inside -/
def bdl2 {α β γ : Type} (o : Option (Sum β α)) (f : α → Option (Sum β γ)) : Option (Sum β γ) := o.bind (fun s => match s with | .inl r => some (.inl r) | .inr a => f a)
theorem bdl2_of {α β γ : Type} {o : Option (Sum β α)} {f : α → Option (Sum β γ)} {t : Sum β γ} (h : bdl2 o f = some t) : ∃ s, o = some s ∧ (∀ q, s = .inl q → some (Sum.inl q) = some t) ∧ ∀ a, s = .inr a → f a = some t := by
  obtain ⟨s, h1, h2⟩ := Option.bind_eq_some_iff.mp h
  refine ⟨s, h1, fun q e => ?_, fun a e => ?_⟩
  · subst e; exact h2
  · subst e; exact h2
theorem bdl2_r {α β γ : Type} {a : α} {f : α → Option (Sum β γ)} : bdl2 (some (.inr a)) f = f a := rfl
theorem bdl_r {α β : Type} {a : α} {f : α → Option β} : bdl (some (.inr a)) f = f a := rfl
