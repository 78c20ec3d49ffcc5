/-! a setup text: the reference reads it -/
theorem MT.of {V V' : VV} {F : Nat → Int} {N : Nat} {t : Tk} (h : MT V F N t) (h1 : V' 148 = V 148) (h2 : V' 151 = V 151) : MT V' F N t := by
  unfold MT at *
  rw [h1, h2]; exact h
theorem MT.up {V : VV} {F : Nat → Int} {N k i : Nat} {t : Tk} {z : Int} (h : MT V F N t) (h1 : k ≠ 148) (h2 : k ≠ 151) : MT (up2 V k i z) F N t := h.of (up2_r (Ne.symm h1)) (up2_r (Ne.symm h2))
/-- all but the parser's fields and the front of block 0 stays -/
def frS (V V' : VV) : Prop := (∀ k, k ≠ 148 → k ≠ 149 → V' k = V k) ∧ (∀ i, i ≠ 5 → i ≠ 6 → i ≠ 10 → i ≠ 11 → i ≠ 12 → i ≠ 13 → V' 148 i = V 148 i) ∧ ∀ t, 110 ≤ t ∨ t = 3 ∨ (5 ≤ t ∧ t < 10) → V' 149 t = V 149 t
theorem frS.tr {V V' V'' : VV} (h : frS V V') (h2 : frS V' V'') : frS V V'' := ⟨fun k a b => (h2.1 k a b).trans (h.1 k a b), fun i a b c d e f => (h2.2.1 i a b c d e f).trans (h.2.1 i a b c d e f), fun t ht => (h2.2.2 t ht).trans (h.2.2 t ht)⟩
theorem frS.rf {V : VV} : frS V V := ⟨fun _ _ _ => rfl, fun _ _ _ _ _ _ _ => rfl, fun _ _ => rfl⟩
theorem frS_up {V : VV} {i : Nat} {z : Int} (h : i < 110 ∧ i ≠ 3 ∧ ¬ (5 ≤ i ∧ i < 10)) : frS V (up2 V 149 i z) := ⟨fun k _ h2 => up2_r h2, fun i _ _ _ _ _ _ => up2_n (by omega), fun t ht => up2_n (by omega)⟩
theorem frS_G {V V' : VV} {F : Nat → Int} {N : Nat} {t : Tk} (h : mG V V' F N t) : frS V V' := ⟨fun k a _ => h.2.1 k a, fun i _ _ c d e f => h.2.2 i c d e f, fun t _ => by rw [h.2.1 149 (by omega)]⟩
theorem frS_E {V V' : VV} {e : Int × Int} (h : mE V V' e) : frS V V' := ⟨fun k a _ => h.2.2.1 k a, fun i a b c d e f => h.2.2.2 i a b c d e f, fun t _ => by rw [h.2.2.1 149 (by omega)]⟩
def sE (V V' : VV) (e : Int × Int) : Prop := V' 148 5 = e.1 ∧ V' 148 6 = e.2 ∧ frS V V'
theorem sE_of {V V1 V' : VV} {e : Int × Int} (h : frS V V1) (h2 : mE V1 V' e) : sE V V' e := ⟨h2.1, h2.2.1, h.tr (frS_E h2)⟩
theorem M_nameL {V : VV} {F : Nat → Int} {N i : Nat} {t : Tk} (hF : okF F N) (h : MT V F N t) (ht : okTk F N t) (hi : i < 10) (hl : t.2.2 - t.2.1 ≤ 6) : ∃ V' : VV, f6_parseShip_L90 ((10 + 10 * i : Nat) : Int) FU (t.2.1 : Int) V = some V' ∧ (∀ k, k ≠ 149 → V' k = V k) ∧ (∀ s, (s < 10 + 10 * i + 1 ∨ 10 + 10 * i + 7 ≤ s) → V' 149 s = V 149 s) ∧ ∀ j, j < t.2.2 - t.2.1 → V' 149 (10 + 10 * i + 1 + j) = F (t.2.1 + j) := by
  have hN := hF.1
  have ht1 := ht.1
  have ht2 := ht.2.1
  obtain ⟨len, hlen⟩ : ∃ len, len = t.2.2 - t.2.1 := ⟨_, rfl⟩
  rw [← hlen] at hl ⊢
  have key : ∀ (q m j : Nat) (W : VV), q + 1 ≤ m → len = j + q → (∀ k, k ≠ 149 → W k = V k) → (∀ s, (s < 10 + 10 * i + 1 ∨ 10 + 10 * i + 7 ≤ s) → W 149 s = V 149 s) → (∀ j', j' < j → W 149 (10 + 10 * i + 1 + j') = F (t.2.1 + j')) → ∃ W' : VV, f6_parseShip_L90 ((10 + 10 * i : Nat) : Int) m ((t.2.1 + j : Nat) : Int) W = some W' ∧ (∀ k, k ≠ 149 → W' k = V k) ∧ (∀ s, (s < 10 + 10 * i + 1 ∨ 10 + 10 * i + 7 ≤ s) → W' 149 s = V 149 s) ∧ ∀ j', j' < len → W' 149 (10 + 10 * i + 1 + j') = F (t.2.1 + j') := by
    intro q
    induction q with
    | zero =>
      intro m j W hm hl2 h1 h2 h3
      obtain ⟨m, rfl⟩ : ∃ q, m = q + 1 := ⟨m - 1, by omega⟩
      refine ⟨W, ?_, h1, h2, fun j' hj' => h3 j' (by omega)⟩
      rw [f6_parseShip_L90, h1 148 (by omega), h.2.2.2.2.1, nrm_of (by omega) (by omega), nrm_of (by omega) (by omega), if_pos (by omega)]
    | succ q ih =>
      intro m j W hm hl2 h1 h2 h3
      obtain ⟨m, rfl⟩ : ∃ q, m = q + 1 := ⟨m - 1, by omega⟩
      have e0 : ((10 + 10 * i : Nat) : Int) + 1 + ((t.2.1 + j : Nat) : Int) - (t.2.1 : Int) = ((10 + 10 * i + 1 + j : Nat) : Int) := by omega
      rw [f6_parseShip_L90, h1 148 (by omega), h.2.2.2.2.1, h.2.2.2.1, e0, nrm_of (by omega) (by omega), nrm_of (by omega) (by omega), if_neg (by omega), ck_t (by omega), ck_t (by omega), Int.toNat_natCast, Int.toNat_natCast, h1 151 (by omega), h.2.1 (t.2.1 + j) (by omega)]
      obtain ⟨W', g1, g2, g3, g4⟩ := ih m (j + 1) (up2 W 149 (10 + 10 * i + 1 + j) (F (t.2.1 + j))) (by omega) (by omega) (fun k k1 => by rw [up2_r k1, h1 k k1]) (fun s hs => by rw [up2_n (by omega), h2 s hs]) (fun j' hj' => by
        by_cases e : j' = j
        · subst e; rw [up2_s]
        · rw [up2_n (by omega), h3 j' (by omega)])
      rw [show ((t.2.1 + (j + 1) : Nat) : Int) = ((t.2.1 + j : Nat) : Int) + 1 by omega] at g1
      exact ⟨W', g1, g2, g3, g4⟩
  obtain ⟨W, g1, g2, g3, g4⟩ := key len FU 0 V (by have := FU_ge; omega) (by omega) (fun _ _ => rfl) (fun _ _ => rfl) (fun j' hj' => absurd hj' (by omega))
  rw [Nat.add_zero] at g1
  exact ⟨W, g1, g2, g3, g4⟩
theorem M_parseShip {V : VV} {F : Nat → Int} {N : Nat} {t : Tk} {hw cl : Int} {L : List Sh} (hF : okF F N) (h : MT V F N t) (ht : okTk F N t) (hw2 : isW F 2 t = true) (hS : rpN V 0 (hw, cl, L)) (hL : L.length ≤ 10) (hok : ∀ s ∈ L, okSh s) : (∃ (V' : VV) (p : Sh × Tk), sShip F N L t = .inr p ∧ okTk F N p.2 ∧ L.length < 10 ∧ f6_parseShip V = some (1, V') ∧ MT V' F N p.2 ∧ (V' 148 5 = V 148 5 ∧ V' 148 6 = V 148 6) ∧ frS V V' ∧ rpN V' 0 (hw, cl, L ++ [p.1]) ∧ V' 149 2 = V 149 2 ∧ okSh p.1) ∨ ∃ (V' : VV) (e : Int × Int), sShip F N L t = .inl e ∧ f6_parseShip V = some (0, V') ∧ sE V V' e := by
  have hN := hF.1
  have hct : V 149 4 = (L.length : Int) := hS.2.2.1
  unfold f6_parseShip sShip
  rw [hct, nrm_of (z := (L.length : Int)) (by omega) (by omega), nrm_of (z := 10) (by omega) (by omega)]
  by_cases c2 : L.length = 10
  · right
    obtain ⟨V', g1, g2⟩ := M_wrong2 (c := 4) h
    refine ⟨V', (4, t.2.1), ?_, ?_, sE_of frS.rf g2⟩
    · rw [if_pos ⟨c2, hw2⟩]; rfl
    · rw [if_pos (show (L.length : Int) = 10 by omega), g1]
  · have hL9 : L.length < 10 := by omega
    have hsw : sWord F N 2 t = .inr (nxk F N t) := if_pos hw2
    rw [if_neg (fun q => c2 q.1), if_neg (show ¬ (L.length : Int) = 10 by omega), hsw]
    obtain ⟨V1, g1, x1⟩ := M_nx hF h ht
    have o1 : okTk F N (nxk F N t) := nx_ok ht
    have p3 := o1.2.2.1
    have p1 := o1.1
    have p2 := o1.2.1
    rw [g1, bd_s]
    generalize nxk F N t = t1 at *
    have f1 := frS_G x1
    have e149 : V1 149 = V 149 := x1.2.1 149 (by omega)
    have hS1 : rpN V1 0 (hw, cl, L) := by unfold rpN at hS ⊢; rw [e149]; exact hS
    have hln : V1 148 10 - V1 148 12 = ((t1.2.2 - t1.2.1 : Nat) : Int) := by rw [x1.1.2.2.2.2.1, x1.1.2.2.2.1]; omega
    have hsn : ∀ q, sb (.inr t1 : PE Tk) q = (q t1 : PE (Sh × Tk)) := fun _ => rfl
    rw [hsn]
    unfold f6_isShortWord sName
    rw [x1.1.2.2.1, hln, nrm_of (z := (t1.1 : Int)) (by omega) (by omega), nrm_of (z := 1) (by omega) (by omega), nrm_of (z := 6) (by omega) (by omega), nrm_of (z := ((t1.2.2 - t1.2.1 : Nat) : Int)) (by omega) (by omega)]
    by_cases c : t1.1 = 1
    · rw [if_pos c, if_pos (show (t1.1 : Int) = 1 by omega)]
      by_cases c3 : 6 < t1.2.2 - t1.2.1
      · right
        obtain ⟨V', q1, q2⟩ := M_wrong3 (c := 3) x1.1
        refine ⟨V', (3, t1.2.1), ?_, ?_, sE_of f1 q2⟩
        · rw [if_pos c3]; rfl
        · rw [if_neg (show ¬ ((t1.2.2 - t1.2.1 : Nat) : Int) ≤ 6 by omega), q1, bd2_s, if_pos (show nrm 0 = 0 by decide +kernel)]
      · rw [if_neg c3, if_pos (show ((t1.2.2 - t1.2.1 : Nat) : Int) ≤ 6 by omega), bd2_s, if_neg (show ¬ nrm 1 = 0 by decide +kernel), hln, x1.1.2.2.2.1, M_shipNamed hS1 (by show L.length ≤ 10; omega) hok (by omega) (fun j hj => by rw [x1.1.2.1 _ (by omega)]; exact hF.2 _ (by omega)), bd_s]
        have hse : shN (V1 151) t1.2.1 (t1.2.2 - t1.2.1) L 0 = shN F t1.2.1 (t1.2.2 - t1.2.1) L 0 := by
          have : ∀ (l : List Sh) (i : Nat), (∀ s ∈ l, okSh s) → shN (V1 151) t1.2.1 (t1.2.2 - t1.2.1) l i = shN F t1.2.1 (t1.2.2 - t1.2.1) l i := by
            have hnm : ∀ (nn : List Int) (i : Nat), (∀ j, j < nn.length → V1 151 (i + j) = F (i + j)) → nmB (V1 151) nn i = nmB F nn i := by
              intro nn
              induction nn with
              | nil => intro i _; rfl
              | cons c nn ih =>
                intro i hh
                have h0 := hh 0 (by simp)
                rw [Nat.add_zero] at h0
                rw [nmB, nmB, h0, ih (i + 1) (fun j hj => by rw [show i + 1 + j = i + (j + 1) by omega]; exact hh (j + 1) (by simp; omega))]
            intro l
            induction l with
            | nil => intro i _; rfl
            | cons s l ih =>
              intro i hs
              rw [shN, shN, ih (i + 1) (fun s' h' => hs s' (List.mem_cons_of_mem _ h'))]
              have : shB (V1 151) t1.2.1 (t1.2.2 - t1.2.1) s = shB F t1.2.1 (t1.2.2 - t1.2.1) s := by
                unfold shB
                by_cases z : t1.2.2 - t1.2.1 = s.1.length
                · rw [hnm s.1 t1.2.1 (fun j hj => x1.1.2.1 _ (by omega))]
                · rw [decide_eq_false z, Bool.false_and, Bool.false_and]
              rw [this]
          exact this L 0 hok
        show _ ∨ _
        rw [hse]
        have hrg := shN_rg (F := F) (fr := t1.2.1) (len := t1.2.2 - t1.2.1) (l := L) (i := 0)
        by_cases c4 : shN F t1.2.1 (t1.2.2 - t1.2.1) L 0 = -1
        · rw [if_pos c4, if_pos (show nrm (shN F t1.2.1 (t1.2.2 - t1.2.1) L 0) = nrm (-1) by rw [c4])]
          obtain ⟨i, hi⟩ : ∃ i, i = L.length := ⟨_, rfl⟩
          have ei : 10 + V1 149 4 * 10 = ((10 + 10 * i : Nat) : Int) := by rw [e149, hct, hi]; omega
          have hnok := name_ok o1 c (by omega)
          rw [ei, ck_t (by omega), Int.toNat_natCast]
          obtain ⟨nn, hnn⟩ : ∃ nn, nn = (List.range (t1.2.2 - t1.2.1)).map (fun j => F (t1.2.1 + j)) := ⟨_, rfl⟩
          have hnl : nn.length = t1.2.2 - t1.2.1 := by rw [hnn, List.length_map, List.length_range]
          have hng : ∀ (j : Nat) (x : Int), nn[j]? = some x → j < t1.2.2 - t1.2.1 ∧ F (t1.2.1 + j) = x := fun j x hj => by
            have hjl := (List.getElem?_eq_some_iff.mp hj).1
            rw [hnl] at hjl
            rw [hnn, List.getElem?_map, List.getElem?_range hjl] at hj
            exact ⟨hjl, Option.some.inj hj⟩
          rw [← hnn] at hnok ⊢
          obtain ⟨U1, hU1⟩ : ∃ U, U = up2 V1 149 (10 + 10 * i) ((t1.2.2 - t1.2.1 : Nat) : Int) := ⟨_, rfl⟩
          have mU1 : MT U1 F N t1 := by rw [hU1]; exact x1.1.up (by omega) (by omega)
          rw [← hU1, mU1.2.2.2.1]
          obtain ⟨V2, g2, k2, s2, n2⟩ := M_nameL (i := i) hF mU1 o1 (by omega) (by omega)
          rw [g2, bd_s]
          have mV2 : MT V2 F N t1 := mU1.of (k2 148 (by omega)) (k2 151 (by omega))
          obtain ⟨V3, g3, x3⟩ := M_nx hF mV2 o1
          rw [g3, bd_s]
          have o3 : okTk F N (nxk F N t1) := nx_ok o1
          have e3 : ∀ s, (s < 10 + 10 * i ∨ 10 + 10 * i + 7 ≤ s) → V3 149 s = V 149 s := fun s hs => by rw [x3.2.1 149 (by omega), s2 s (by omega), hU1, up2_n (by omega), e149]
          have f3 : frS V V3 := by
            refine f1.tr ⟨fun k a b => by rw [x3.2.1 k a, k2 k b, hU1, up2_r b], fun i a b c d e f => by rw [x3.2.2 i c d e f, k2 148 (by omega), hU1, up2_r (by omega)], fun s hs => ?_⟩
            rw [e149]; exact e3 s (by omega)
          have e30 : V3 149 (10 + 10 * i) = (nn.length : Int) := by rw [x3.2.1 149 (by omega), s2 _ (by omega), hU1, up2_s, hnl]
          have e3n : ∀ (j : Nat) (x : Int), nn[j]? = some x → V3 149 (10 + 10 * i + 1 + j) = x := fun j x hj => by
            obtain ⟨q1, q2⟩ := hng j x hj
            rw [x3.2.1 149 (by omega), n2 j q1, q2]
          have hnl6 := hnok.1
          rcases M_parseRanged (x := 10 + 10 * i + 7) (y := ((10 + 10 * i : Nat) : Int) + 7) (lo := 1) (hi := 60) hF x3.1 o3 (by constructor <;> constructor <;> omega) (by omega) (by omega) with ⟨V4, v1, e4, g4, x4, b4⟩ | ⟨V4, e, e4, g4, x4⟩
          · rw [g4, bd2_s, if_neg (show ¬ nrm 1 = 0 by decide +kernel)]
            have f4 : frS V V4 := (f3.tr (frS_up (by omega))).tr (frS_G x4)
            rcases M_parseRanged (x := 10 + 10 * i + 8) (y := ((10 + 10 * i : Nat) : Int) + 8) (lo := 0) (hi := 9) hF x4.1 (nx_ok o3) (by constructor <;> constructor <;> omega) (by omega) (by omega) with ⟨V5, v2, e5, g5, x5, b5⟩ | ⟨V5, e, e5, g5, x5⟩
            · rw [g5, bd2_s, if_neg (show ¬ nrm 1 = 0 by decide +kernel)]
              have f5 : frS V V5 := (f4.tr (frS_up (by omega))).tr (frS_G x5)
              rcases M_parseRanged (x := 10 + 10 * i + 9) (y := ((10 + 10 * i : Nat) : Int) + 9) (lo := 1) (hi := 99) hF x5.1 (nx_ok (nx_ok o3)) (by constructor <;> constructor <;> omega) (by omega) (by omega) with ⟨V6, v3, e6, g6, x6, b6⟩ | ⟨V6, e, e6, g6, x6⟩
              · rw [g6, bd2_s, if_neg (show ¬ nrm 1 = 0 by decide +kernel)]
                have f6 : frS V V6 := (f5.tr (frS_up (by omega))).tr (frS_G x6)
                rcases M_semicolon hF x6.1 (nx_ok (nx_ok (nx_ok o3))) with ⟨V7, t7, e7, o7, g7, x7⟩ | ⟨V7, e, e7, g7, x7⟩
                · left
                  have f7 : frS V V7 := f6.tr (frS_G x7)
                  have r7 : ∀ s, V7 149 s = if s = 10 + 10 * i + 9 then v3 else if s = 10 + 10 * i + 8 then v2 else if s = 10 + 10 * i + 7 then v1 else V3 149 s := fun s => by
                    rw [x7.2.1 149 (by omega), x6.2.1 149 (by omega)]
                    by_cases z : s = 10 + 10 * i + 9
                    · rw [if_pos z, z, up2_s]
                    · rw [if_neg z, up2_n (by omega), x5.2.1 149 (by omega)]
                      by_cases z2 : s = 10 + 10 * i + 8
                      · rw [if_pos z2, z2, up2_s]
                      · rw [if_neg z2, up2_n (by omega), x4.2.1 149 (by omega)]
                        by_cases z3 : s = 10 + 10 * i + 7
                        · rw [if_pos z3, z3, up2_s]
                        · rw [if_neg z3, up2_n (by omega)]
                  have r4 : V7 149 4 = (i : Int) := by rw [r7, if_neg (by omega), if_neg (by omega), if_neg (by omega), e3 4 (by omega), hct, hi]
                  refine ⟨up2 V7 149 4 (V7 149 4 + 1), ((nn, v1, v2, v3), t7), ?_, o7, hL9, ?_, x7.1.up (by omega) (by omega), ⟨?_, ?_⟩, f7.tr (frS_up (by omega)), ?_, ?_, hnok.1, hnok.2, b4, b5, b6⟩
                  · simp only [sb]
                    rw [e4]; simp only
                    rw [e5]; simp only
                    rw [e6]; simp only
                    rw [e7]
                  · rw [g7, bd2_s, if_neg (show ¬ nrm 1 = 0 by decide +kernel)]
                  · rw [up2_r (by omega), x7.2.2 5 (by omega) (by omega) (by omega) (by omega), x6.2.2 5 (by omega) (by omega) (by omega) (by omega), up2_r (by omega), x5.2.2 5 (by omega) (by omega) (by omega) (by omega), up2_r (by omega), x4.2.2 5 (by omega) (by omega) (by omega) (by omega), up2_r (by omega), x3.2.2 5 (by omega) (by omega) (by omega) (by omega), k2 148 (by omega), hU1, up2_r (by omega), x1.2.2 5 (by omega) (by omega) (by omega) (by omega)]
                  · rw [up2_r (by omega), x7.2.2 6 (by omega) (by omega) (by omega) (by omega), x6.2.2 6 (by omega) (by omega) (by omega) (by omega), up2_r (by omega), x5.2.2 6 (by omega) (by omega) (by omega) (by omega), up2_r (by omega), x4.2.2 6 (by omega) (by omega) (by omega) (by omega), up2_r (by omega), x3.2.2 6 (by omega) (by omega) (by omega) (by omega), k2 148 (by omega), hU1, up2_r (by omega), x1.2.2 6 (by omega) (by omega) (by omega) (by omega)]
                  · have ws : ∀ s, s ≠ 4 → (s < 10 + 10 * i ∨ 10 + 10 * i + 10 ≤ s) → up2 V7 149 4 (V7 149 4 + 1) 149 s = V 149 s := fun s h4 hs => by
                      rw [up2_n (by omega), r7, if_neg (by omega), if_neg (by omega), if_neg (by omega), e3 s (by omega)]
                    refine ⟨by rw [ws 0 (by omega) (by omega)]; exact hS.1, by rw [ws (0 + 1) (by omega) (by omega)]; exact hS.2.1, ?_, fun i' s hs => ?_⟩
                    · show up2 V7 149 4 (V7 149 4 + 1) 149 4 = _
                      rw [up2_s, r4, List.length_append, ← hi]
                      simp
                    · have hs' : (L ++ [(nn, v1, v2, v3)])[i']? = some s := hs
                      rw [Nat.zero_add]
                      by_cases z : i' < L.length
                      · rw [List.getElem?_append_left z] at hs'
                        obtain ⟨q1, q2, q3, q4, q5⟩ := hS.2.2.2 i' s hs'
                        rw [Nat.zero_add] at q1 q2 q3 q4
                        have hsl := (hok s (List.mem_of_getElem? hs')).1
                        rw [ws (10 + 10 * i') (by omega) (by omega), ws (10 + 10 * i' + 7) (by omega) (by omega), ws (10 + 10 * i' + 8) (by omega) (by omega), ws (10 + 10 * i' + 9) (by omega) (by omega)]
                        refine ⟨q1, q2, q3, q4, fun j x hj => ?_⟩
                        have hjl := (List.getElem?_eq_some_iff.mp hj).1
                        rw [ws _ (by omega) (by omega)]
                        have := q5 j x hj
                        rw [Nat.zero_add] at this
                        exact this
                      · rw [List.getElem?_append_right (by omega)] at hs'
                        have hz : i' = L.length := by
                          have := (List.getElem?_eq_some_iff.mp hs').1
                          simp at this; omega
                        subst hz
                        rw [Nat.sub_self] at hs'
                        have hse2 : s = (nn, v1, v2, v3) := by simpa using hs'.symm
                        subst hse2
                        rw [← hi]
                        refine ⟨?_, ?_, ?_, ?_, fun j x hj => ?_⟩
                        · rw [up2_n (by omega), r7, if_neg (by omega), if_neg (by omega), if_neg (by omega), e30]
                        · rw [up2_n (by omega), r7, if_neg (by omega), if_neg (by omega), if_pos (by omega)]
                        · rw [up2_n (by omega), r7, if_neg (by omega), if_pos (by omega)]
                        · rw [up2_n (by omega), r7, if_pos (by omega)]
                        · have hj1 := (hng j x hj).1
                          rw [up2_n (by omega), r7, if_neg (by omega), if_neg (by omega), if_neg (by omega), e3n j x hj]
                  · rw [up2_n (by omega), r7, if_neg (by omega), if_neg (by omega), if_neg (by omega), e3 2 (by omega)]
                · right
                  refine ⟨V7, e, ?_, ?_, sE_of f6 x7⟩
                  · simp only [sb]
                    rw [e4]; simp only
                    rw [e5]; simp only
                    rw [e6]; simp only
                    rw [e7]
                  · rw [g7, bd2_s, if_pos (show nrm 0 = 0 by decide +kernel)]
              · right
                refine ⟨V6, e, ?_, ?_, sE_of f5 x6⟩
                · simp only [sb]
                  rw [e4]; simp only
                  rw [e5]; simp only
                  rw [e6]
                · rw [g6, bd2_s, if_pos (show nrm 0 = 0 by decide +kernel)]
            · right
              refine ⟨V5, e, ?_, ?_, sE_of f4 x5⟩
              · simp only [sb]
                rw [e4]; simp only
                rw [e5]
              · rw [g5, bd2_s, if_pos (show nrm 0 = 0 by decide +kernel)]
          · right
            refine ⟨V4, e, ?_, ?_, sE_of f3 x4⟩
            · simp only [sb]
              rw [e4]
            · rw [g4, bd2_s, if_pos (show nrm 0 = 0 by decide +kernel)]
        · right
          obtain ⟨V', q1, q2⟩ := M_wrong2 (c := 3) x1.1
          refine ⟨V', (3, t1.2.1), ?_, ?_, sE_of f1 q2⟩
          · rw [if_neg c4]; rfl
          · rw [if_neg (show ¬ nrm (shN F t1.2.1 (t1.2.2 - t1.2.1) L 0) = nrm (-1) by rw [nrm_of (by omega) (by omega), nrm_of (by omega) (by omega)]; exact c4), q1]
    · right
      obtain ⟨V', q1, q2⟩ := M_wrong2 (c := 1) x1.1
      refine ⟨V', (1, t1.2.1), ?_, ?_, sE_of f1 q2⟩
      · rw [if_neg c]; rfl
      · rw [if_neg (show ¬ (t1.1 : Int) = 1 by omega), q1, bd2_s, if_pos (show nrm 0 = 0 by decide +kernel)]
