/-! the law's loop, and the way to it -/
/-- at the end: 1 on the stack -/
def EndL (X : CT) : Prop := ∀ (G : GT) (V : VV) (cells slots : Nat) (lv : List (Nat × Value)), gB G = (xS X).heap.size → cells ≤ 600086 → slots ≤ 7301442 → At G X cells slots 512 lv [vI 1] V
theorem lw_loop {X : CT} {G : GT} {S : Su} {cells slots : Nat} (hend : EndL X) (hN : 157 ≤ gN G) (hB : gB G = (xS X).heap.size) (hx : xN X = 11) (C : Cx G X LN code) (hR : xR X = room_1) (hc : cells ≤ 600086) (hs : slots ≤ 7301442) :
    ∀ (n i : Nat) (V : VV) (P : Pl), i + n = 26 → CI V S P → mc P → P.2.1 ≤ 12 * (i : Int) → At G X cells slots 52 [(0, .ref (gSa G)), (1, .ref (gB G + 0)), (2, vI (S.2.2.length : Int)), (3, .ref (gC G + 148)), (4, vI (i : Int))] [] V := by
  intro n
  induction n with
  | zero =>
    intro i V P hi h hm hmi
    refine r_iload C dL_law_52 rfl ?_
    refine r_bipush C dL_law_54 (by decide +kernel) ?_
    refine r_icmpge (tgt := 500) C dL_law_56 rfl ⟨by omega, by omega⟩ ⟨by omega, by omega⟩ (fun _ => ?_) (fun c => absurd (by omega) c)
    refine r_aload_n C dL_law_500 rfl ?_
    refine qV0_i C hR dL_law_501 lL_179 w5_inconsistencies (rc_main (hN8 hN)) (ev5_inconsistencies C.lt (hN8 hN) (Q_inc h.1 hm)) rfl hc hs ?_
    refine r_ifne (tgt := 511) C dL_law_504 rfl ⟨by omega, by omega⟩ (fun c => absurd rfl c) (fun _ => ?_)
    refine r_iconst C dL_law_507 ?_
    refine r_goto (tgt := 512) C dL_law_508 rfl ?_
    exact hend G V cells slots _ hB hc hs
  | succ n ih =>
    intro i V P hi h hm hmi
    have hz := pkN_lt (G := G) (k := 10 + i) (n := 268435456) (by omega)
    obtain ⟨V1, P1, b1, b2, b3, b4⟩ := O_body h hm (by omega) hz
    have hI := ih (i + 1) V1 P1 (by omega) b2 b3 (by omega)
    refine r_iload C dL_law_52 rfl ?_
    refine r_bipush C dL_law_54 (by decide +kernel) ?_
    refine r_icmpge (tgt := 500) C dL_law_56 rfl ⟨by omega, by omega⟩ ⟨by omega, by omega⟩ (fun c => absurd c (by omega)) (fun _ => ?_)
    refine r_aload_n C dL_law_59 rfl ?_
    refine r_bipush C dL_law_60 (by decide +kernel) ?_
    refine r_iload C dL_law_62 rfl ?_
    refine r_iadd C dL_law_64 ?_
    refine r_top (show (10 : Int) + (i : Int) = ((10 + i : Nat) : Int) by omega) ?_
    refine r_ldci (z := 268435456) C dL_law_65 kkL_123 rfl ?_
    refine q_callSH (As := [.ref (gSa G), vI ((10 + i : Nat) : Int), vI ((268435456 : Nat) : Int)]) (rest := []) C hR dL_law_67 lL_41 wL_pick (hv_pick C.lt (by omega) (by omega)) rfl rfl (Nat.le_of_ble_eq_true rfl) (Nat.le_of_ble_eq_true rfl) (Nat.le_of_ble_eq_true rfl) hc hs (fun v N' h' q => ?_)
    obtain ⟨rfl, rfl, rfl⟩ := q
    refine r_istore (z := ((pkN G (10 + i) 268435456 : Nat) : Int)) C dL_law_70 (by rw [hx]; decide) ?_
    refine AtH.sw (lw_body (x2 := (S.2.2.length : Int)) (x4 := (i : Int)) (x5 := ((pkN G (10 + i) 268435456 : Nat) : Int)) hN hx C hR hc hs b1 ?_) ⟨rfl, rfl, rfl, rfl, rfl, rfl, trivial⟩
    rw [show (i : Int) + 1 = ((i + 1 : Nat) : Int) by omega]
    exact hI
/-- from the entry to the loop -/
theorem lw_front {U : UT} {X : CT} {B : Nat} {h0 : HT} (hx : xN X = 11) (hR : xR X = room_1) (hB : B = (xS X).heap.size) (hC : ∀ (n : Nat) (x : Bool) (C : Nat) (E : va_W), Cx (gT U B n x C E) X LN code)
    (hgo : ∀ (C : Nat) (E : va_W) (V : VV) (S : Su) (P : Pl), CI V S P → mc P → P.2.1 = 0 → At (gT U B 157 false C E) X 257 50000 52 [(0, .ref U.2.2.2.2.1.1), (1, .ref (B + 0)), (2, vI (S.2.2.length : Int)), (3, .ref (C + 148)), (4, vI ((0 : Nat) : Int))] [] V) : AtH (gT U B 148 true B []) X 0 0 0 [(0, .ref U.2.2.2.2.1.1)] [] 0 h0 := by
  obtain ⟨V1, V2, s1, s2, s3, s4, s5, s6⟩ := first_start
  have C1 := hC 148 true B []
  have hlt := C1.lt
  have hZ : gZ (gT U B 148 true B []) := ⟨rfl, rfl⟩
  refine r_new (n := 14) (fs := [.null, .null, .null, .null, .null, .null, .null, vI 0, vI 0, .null, .null, .null, .null, vI 0]) (G := gT U B 148 true B []) hZ C1 hR dL_law_0 oi5 wcL_19 wn5 wi_ChannelSchedule df5 (Nat.le_of_ble_eq_true rfl) (Nat.le_of_ble_eq_true rfl) ?_
  refine r_dup C1 dL_law_3 rfl ?_
  refine q_callI (a0 := B + 0) (As := []) (rest := [.ref (B + 0)]) C1 hR dL_law_4 lL_106 w5_init (ci5 hlt hZ rfl (upH_e rfl) s1 s2) rfl rfl (Nat.le_of_ble_eq_true rfl) (Nat.le_of_ble_eq_true rfl) (Nat.le_of_ble_eq_true rfl) (Nat.le_of_ble_eq_true rfl) (Nat.le_of_ble_eq_true rfl) (fun E N' h' q => by obtain ⟨-, V', -, q2, -⟩ := q; cases q2) (fun v N' h' q => ?_)
  obtain ⟨q1, V', q2, q3, q4⟩ := q
  subst q1; subst q2; cases q3; subst q4
  obtain ⟨Va, hVa⟩ : ∃ Va, Va = up2 V2 1 1 0 := ⟨_, rfl⟩
  rw [← hVa] at s3 s4 s5 s6 ⊢
  show AtH (gT U B 148 true B []) X 148 2636 7 [(0, .ref U.2.2.2.2.1.1)] [.ref (B + 0)] 148 (hV (gT U B 148 true B []) Va)
  refine r_astore_n C1 dL_law_7 (by rw [hx]; decide) ?_
  refine r_iconst C1 dL_law_8 ?_
  refine r_aload_n C1 dL_law_9 rfl ?_
  refine r_iconst C1 dL_law_10 ?_
  refine r_bipush C1 dL_law_11 (by decide +kernel) ?_
  refine q_callSH (As := [.ref U.2.2.2.2.1.1, vI ((0 : Nat) : Int), vI ((6 : Nat) : Int)]) (rest := [vI 1]) C1 hR dL_law_13 lL_41 wL_pick (hv_pick (G := gT U B 148 true B []) hlt (k := 0) (n := 6) (by omega) (by omega)) rfl rfl (Nat.le_of_ble_eq_true rfl) (Nat.le_of_ble_eq_true rfl) (Nat.le_of_ble_eq_true rfl) (Nat.le_of_ble_eq_true rfl) (Nat.le_of_ble_eq_true rfl) (fun v N' h' q => ?_)
  obtain ⟨rfl, rfl, rfl⟩ := q
  have hp6 := pkN_lt (G := gT U B 148 true B []) (k := 0) (n := 6) (by omega)
  obtain ⟨ships, hsh⟩ : ∃ ships : Nat, ships = 1 + pkN (gT U B 148 true B []) 0 6 := ⟨_, rfl⟩
  show AtH (gT U B 148 true B []) X 148 2636 16 _ [vI ((pkN (gT U B 148 true B []) 0 6 : Nat) : Int), vI 1] 148 (hV (gT U B 148 true B []) Va)
  refine r_iadd C1 dL_law_16 ?_
  refine r_top (show (1 : Int) + ((pkN (gT U B 148 true B []) 0 6 : Nat) : Int) = (ships : Int) by omega) ?_
  refine r_istore_n C1 dL_law_17 (by rw [hx]; decide) ?_
  refine r_aload_n C1 dL_law_18 rfl ?_
  refine r_aload_n C1 dL_law_19 rfl ?_
  refine r_iload_n C1 dL_law_20 rfl ?_
  refine lw_text (rest := [.ref (B + 0)]) (by omega) hR hB C1 (Nat.le_of_ble_eq_true rfl) (Nat.le_of_ble_eq_true rfl) (Nat.le_of_ble_eq_true rfl) (fun C2 ta tv g hBC hg => ?_)
  obtain ⟨L, hL⟩ : ∃ L : List Int, L = txt (gT U B 148 true B []) ships := ⟨_, rfl⟩
  rw [← hL] at hg ⊢
  obtain ⟨E2, hE2⟩ : ∃ E2 : va_W, E2 = [(ta, .inr (8, [.ref tv, vI 0, vI 0, vI 0])), (tv, arI (U.2.1 2) L.length g)] := ⟨_, rfl⟩
  rw [← hE2]
  have C2x := hC 148 true C2 E2
  have hTX : TXh (gT U B 148 true C2 E2) ta tv L.length g := hE2
  have hLl : L.length ≤ 17 + 17 * ships := by rw [hL]; exact txt_len _ _
  have hf : TF L.length g := ⟨by omega, fun i hi => by
    rw [hg i hi]
    have hm : L.getD i 0 ∈ L := by
      rw [List.getD_eq_getElem?_getD, List.getElem?_eq_getElem hi]
      exact List.getElem_mem hi
    rw [hL] at hm
    rw [hL]
    exact txt_rg ships (by omega) _ hm⟩
  obtain ⟨W1, W2, W3, w1, w2, w3, w4, w5, w6⟩ := say_ok hf s3
  refine qS2_i C2x hR dL_law_24 lL_111 wL_say (et_say hlt hTX hf (Nat.le_refl 148) w1 w2 w3) rfl (Nat.le_of_ble_eq_true rfl) (Nat.le_of_ble_eq_true rfl) ?_
  refine r_ifeq (tgt := 38) C2x dL_law_27 rfl ⟨by omega, by omega⟩ (fun c => absurd c (by decide)) (fun _ => ?_)
  obtain ⟨V4, S, P, l1, l2, l3, l4, l5⟩ := load_ok (G := gT U B 148 true B []) (V := W3) (ships := ships) (by omega) (by omega) (by rw [w4, hL]) (fun j hj => by rw [w5 j (by rw [hL]; exact hj), hg j (by rw [hL]; exact hj), hL]) (by rw [w6 0 (by omega) (by omega)]; exact s4) (by rw [w6 0 (by omega) (by omega)]; exact s5) (by rw [w6 0 (by omega) (by omega)]; exact s6)
  refine r_aload_n C2x dL_law_30 rfl ?_
  refine qV0_i C2x hR dL_law_31 lL_115 w5_load (rc_main (Nat.le_refl 148)) (ev5_load hlt (Nat.le_refl 148) l1) rfl (Nat.le_of_ble_eq_true rfl) (Nat.le_of_ble_eq_true rfl) ?_
  refine r_iload_n C2x dL_law_34 rfl ?_
  refine r_icmpeq (tgt := 40) C2x dL_law_35 rfl ⟨by omega, by omega⟩ ⟨by omega, by omega⟩ (fun _ => ?_) (fun c => absurd rfl c)
  refine r_newG (n := 12) (fs := [.null, .null, .null, .null, .null, vI 0, .null, .null, .null, .null, vI 0, vI 0]) (G := gT U B 148 true C2 E2) rfl (Or.inr (Nat.le_refl 148)) C2x hR dL_law_40 oi6 wcL_118 wn6 wi_ChannelScheduleLaw_Own df6 (Nat.le_of_ble_eq_true rfl) (Nat.le_of_ble_eq_true rfl) ?_
  have had : ad (gT U B 148 true C2 E2) (gN (gT U B 148 true C2 E2)) = C2 + 148 := ad_hi (Nat.le_refl 148)
  rw [had]
  refine r_dup C2x dL_law_43 rfl ?_
  refine r_aload_n C2x dL_law_44 rfl ?_
  refine q_callI (a0 := C2 + 148) (As := [.ref (B + 0)]) (rest := [.ref (C2 + 148)]) C2x hR dL_law_45 lL_120 w6_init (ci6 (G := gT U B 148 true C2 E2) hlt rfl hBC (upH_e rfl)) rfl rfl (Nat.le_of_ble_eq_true rfl) (Nat.le_of_ble_eq_true rfl) (Nat.le_of_ble_eq_true rfl) (Nat.le_of_ble_eq_true rfl) (Nat.le_of_ble_eq_true rfl) (fun E N' h' q => q) (fun v N' h' q => ?_)
  obtain ⟨rfl, rfl, rfl⟩ := q
  show AtH (gT U B 148 true C2 E2) X 257 (2636 + 40000 + 12 + 112) 48 _ [.ref (C2 + 148)] 157 _
  refine r_astore_n C2x dL_law_48 (by rw [hx]; decide) ?_
  refine r_iconst C2x dL_law_49 ?_
  refine r_istore C2x dL_law_50 (by rw [hx]; decide) ?_
  obtain ⟨V5, hV5⟩ : ∃ V5 : VV, V5 = fun k => if k < 148 then V4 k else zr := ⟨_, rfl⟩
  have hCI : CI V5 S P := l2.up (fun k hk => by rw [hV5]; exact if_pos hk)
  refine AtH.xF (n' := 157) ?_
  refine AtH.e (h' := hV (gT U B 157 false C2 E2) V5) (fun k hk => ?_) ?_
  · rw [hV5]
    unfold hOwn
    by_cases q : k < 148
    · rw [if_pos q, upH_n (by show k ≠ 148; omega)]
      show celOf B C2 U.2.1 k (V4 k) = celOf B C2 U.2.1 k (if k < 148 then V4 k else zr)
      rw [if_pos q]
    · rw [if_neg q]
      show celOf B C2 U.2.1 k zr = celOf B C2 U.2.1 k (if k < 148 then V4 k else zr)
      rw [if_neg q]
  · refine AtH.wd (k := 257) (n := 50000) (Nat.le_of_ble_eq_true rfl) (Nat.le_of_ble_eq_true rfl) ?_
    have hg9 := hgo C2 E2 V5 S P hCI l3 l4
    rw [l5] at hg9
    exact AtH.sw hg9 ⟨rfl, rfl, rfl, rfl, rfl, trivial⟩
