/-! a setup text: the class reads it -/
def sName (F : Nat → Int) (N : Nat) (L : List Sh) (t : Tk) : PE (List Int × Tk) := if t.1 = 1 then (if 6 < t.2.2 - t.2.1 then .inl (3, t.2.1) else if shN F t.2.1 (t.2.2 - t.2.1) L 0 = -1 then .inr ((List.range (t.2.2 - t.2.1)).map (fun j => F (t.2.1 + j)), nxk F N t) else .inl (3, t.2.1)) else .inl (1, t.2.1)
def sShip (F : Nat → Int) (N : Nat) (L : List Sh) (t : Tk) : PE (Sh × Tk) := sb (if L.length = 10 ∧ isW F 2 t = true then .inl (4, t.2.1) else sWord F N 2 t) (fun t1 => sb (sName F N L t1) (fun p => sb (sNum F 1 60 p.2) (fun v1 => sb (sNum F 0 9 (nxk F N p.2)) (fun v2 => sb (sNum F 1 99 (nxk F N (nxk F N p.2))) (fun v3 => sb (sSem F N (nxk F N (nxk F N (nxk F N p.2)))) (fun t6 => .inr ((p.1, v1, v2, v3), t6)))))))
def sShips (F : Nat → Int) (N : Nat) : Nat → List Sh → Tk → PE (List Sh)
  | 0, L, _ => .inr L
  | n + 1, L, t => if L ≠ [] ∧ t.1 = 0 then .inr L else sb (sShip F N L t) (fun p => sShips F N n (L ++ [p.1]) p.2)
def sSet (F : Nat → Int) (N : Nat) (t : Tk) : PE ((Int × Int × Int) × Tk) := sb (sWord F N 1 t) (fun t1 => sb (sNum F 0 30 t1) (fun hw => sb (sNum F 0 30 (nxk F N t1)) (fun cl => sb (sNum F 0 9 (nxk F N (nxk F N t1))) (fun th => sb (sSem F N (nxk F N (nxk F N (nxk F N t1)))) (fun t5 => .inr ((hw, cl, th), t5))))))
def sSetup (F : Nat → Int) (N : Nat) : PE (Int × Int × Int × List Sh) := sb (sSet F N (tok F N 0)) (fun p => sb (sShips F N 11 [] p.2) (fun L => .inr (p.1.1, p.1.2.1, p.1.2.2, L)))
theorem XT.up {V : VV} {F : Nat → Int} {N k i : Nat} {t : Tk} {z : Int} (h : XT V F N t) (h1 : k ≠ 1) (h2 : k ≠ 2) : XT (up2 V k i z) F N t := ⟨by rw [up2_r (Ne.symm h1)]; exact h.1, fun j hj => by rw [up2_r (Ne.symm h2)]; exact h.2.1 j hj, by rw [up2_r (Ne.symm h1)]; exact h.2.2.1, by rw [up2_r (Ne.symm h1)]; exact h.2.2.2.1, by rw [up2_r (Ne.symm h1)]; exact h.2.2.2.2⟩
theorem XT.of {V V' : VV} {F : Nat → Int} {N : Nat} {t : Tk} (h : XT V F N t) (h1 : ∀ i, i ≠ 2 → i ≠ 3 → i ≠ 7 → V' 1 i = V 1 i) (h2 : V' 2 = V 2) : XT V' F N t := ⟨by rw [h1 1 (by omega) (by omega) (by omega)]; exact h.1, fun j hj => by rw [h2]; exact h.2.1 j hj, by rw [h1 4 (by omega) (by omega) (by omega)]; exact h.2.2.1, by rw [h1 5 (by omega) (by omega) (by omega)]; exact h.2.2.2.1, by rw [h1 6 (by omega) (by omega) (by omega)]; exact h.2.2.2.2⟩
/-- all but the input's fields and the draft stays -/
def frD (d : Nat) (V V' : VV) : Prop := ∀ k, k ≠ 1 → ¬ (aS d ≤ k ∧ k < aS d + 22) → V' k = V k
theorem frD.tr {d : Nat} {V V' V'' : VV} (h : frD d V V') (h2 : frD d V' V'') : frD d V V'' := fun k h1 h3 => (h2 k h1 h3).trans (h k h1 h3)
theorem frD_of {d : Nat} {V V' : VV} (h : ∀ k, k ≠ 1 → V' k = V k) : frD d V V' := fun k h1 _ => h k h1
theorem frD_up {d k i : Nat} {V : VV} {z : Int} (h : aS d ≤ k ∧ k < aS d + 22) : frD d V (up2 V k i z) := fun c _ h2 => up2_r (fun e => h2 (e ▸ h))
theorem X_takeName {V : VV} {F : Nat → Int} {N d i : Nat} {t : Tk} (hF : okF F N) (h : XT V F N t) (ht : okTk F N t) (hd : d < 2) (hi : i < 10) (c : t.1 = 1) (hl : t.2.2 - t.2.1 ≤ 6) : ∃ V' : VV, f4_takeName V d i (t.2.1 : Int) ((t.2.2 - t.2.1 : Nat) : Int) = some V' ∧ (∀ k, k ≠ aS d + (2 + 2 * i) → k ≠ aS d + (2 + 2 * i) + 1 → V' k = V k) ∧ V' (aS d + (2 + 2 * i)) 1 = ((t.2.2 - t.2.1 : Nat) : Int) ∧ (∀ s, s ≠ 1 → V' (aS d + (2 + 2 * i)) s = V (aS d + (2 + 2 * i)) s) ∧ ∀ j, j < t.2.2 - t.2.1 → V' (aS d + (2 + 2 * i) + 1) j = F (t.2.1 + j) := by
  obtain ⟨o1, o2, o3⟩ := ht.2.2.2.1 c
  have hN := hF.1
  have ht1 := ht.1
  have ht2 := ht.2.1
  obtain ⟨sc, hsc⟩ : ∃ sc, sc = aS d + (2 + 2 * i) := ⟨_, rfl⟩
  have hsc9 : 9 ≤ sc := by rw [hsc]; unfold aS; omega
  obtain ⟨len, hlen⟩ : ∃ len, len = t.2.2 - t.2.1 := ⟨_, rfl⟩
  rw [← hsc, ← hlen]
  rw [← hlen] at o1 o2 o3 hl
  have key : ∀ (q m j : Nat) (W : VV), q + 1 ≤ m → len = j + q → (∀ k, k ≠ sc → k ≠ sc + 1 → W k = V k) → W sc 1 = (len : Int) → (∀ s, s ≠ 1 → W sc s = V sc s) → (∀ j', j' < j → W (sc + 1) j' = F (t.2.1 + j')) → ∃ W' : VV, f4_takeName_L19 d i (t.2.1 : Int) m (j : Int) W = some W' ∧ (∀ k, k ≠ sc → k ≠ sc + 1 → W' k = V k) ∧ W' sc 1 = (len : Int) ∧ (∀ s, s ≠ 1 → W' sc s = V sc s) ∧ ∀ j', j' < len → W' (sc + 1) j' = F (t.2.1 + j') := by
    intro q
    induction q with
    | zero =>
      intro m j W hm hl2 h1 h2 h3 h4
      obtain ⟨m, rfl⟩ : ∃ q, m = q + 1 := ⟨m - 1, by omega⟩
      refine ⟨W, ?_, h1, h2, h3, fun j' hj' => h4 j' (by omega)⟩
      rw [f4_takeName_L19, ← hsc, h2, nrm_of (by omega) (by omega), nrm_of (by omega) (by omega), if_pos (by omega)]
    | succ q ih =>
      intro m j W hm hl2 h1 h2 h3 h4
      obtain ⟨m, rfl⟩ : ∃ q, m = q + 1 := ⟨m - 1, by omega⟩
      have hc := o3 j (by omega)
      have hb := h.2.1 (t.2.1 + j) (by omega)
      have e0 : Int.toNat ((t.2.1 : Int) + (j : Int)) = t.2.1 + j := by omega
      have hw : wB (wB (F (t.2.1 + j))) = F (t.2.1 + j) := by unfold wB; omega
      rw [f4_takeName_L19, ← hsc, h2, nrm_of (by omega) (by omega), nrm_of (by omega) (by omega), if_neg (by omega), ck_t (by omega), ck_t (by omega), Int.toNat_natCast, e0, h1 2 (by omega) (by omega), hb, hw]
      obtain ⟨W', g1, g2, g3, g4, g5⟩ := ih m (j + 1) (up2 W (sc + 1) j (F (t.2.1 + j))) (by omega) (by omega) (fun k k1 k2 => by rw [up2_r k2, h1 k k1 k2]) (by rw [up2_r (by omega), h2]) (fun s hs => by rw [up2_r (by omega), h3 s hs]) (fun j' hj' => by
        by_cases e : j' = j
        · subst e; rw [up2_s]
        · rw [up2_n (by omega), h4 j' (by omega)])
      rw [Int.natCast_add, Int.natCast_one] at g1
      exact ⟨W', g1, g2, g3, g4, g5⟩
  obtain ⟨W, g1, g2, g3, g4, g5⟩ := key len FU 0 (up2 V sc 1 (len : Int)) (by have := FU_ge; omega) (by omega) (fun k k1 k2 => up2_r k1) (up2_s _ _ _ _) (fun s hs => up2_n (by omega)) (fun j' hj' => absurd hj' (by omega))
  rw [nc0] at g1
  refine ⟨W, ?_, g2, g3, g4, g5⟩
  have hm : (if nrm 6 ≤ nrm (len : Int) then some (6 : Int) else some (len : Int)) = some (len : Int) := by
    rw [nrm_of (by omega) (by omega), nrm_of (by omega) (by omega)]
    by_cases q : (6 : Int) ≤ (len : Int)
    · rw [if_pos q]; congr 1; omega
    · rw [if_neg q]
  unfold f4_takeName
  rw [ck_t hd, ck_t hi, hm, bd_s, ← hsc, g1, bd_s]
theorem name_ok {F : Nat → Int} {N : Nat} {t : Tk} (ht : okTk F N t) (c : t.1 = 1) (hl : t.2.2 - t.2.1 ≤ 6) : (1 ≤ ((List.range (t.2.2 - t.2.1)).map (fun j => F (t.2.1 + j))).length ∧ ((List.range (t.2.2 - t.2.1)).map (fun j => F (t.2.1 + j))).length ≤ 6) ∧ ∀ x ∈ (List.range (t.2.2 - t.2.1)).map (fun j => F (t.2.1 + j)), 97 ≤ x ∧ x ≤ 122 := by
  obtain ⟨o1, o2, o3⟩ := ht.2.2.2.1 c
  rw [List.length_map, List.length_range]
  refine ⟨⟨o1, hl⟩, fun x hx => ?_⟩
  obtain ⟨j, hj, rfl⟩ := List.mem_map.mp hx
  exact o3 j (List.mem_range.mp hj)
theorem X_readNewName {V : VV} {F : Nat → Int} {N d : Nat} {t : Tk} {hw cl : Int} {L : List Sh} (hF : okF F N) (h : XT V F N t) (ht : okTk F N t) (hd : d < 2) (h3 : V 0 3 = (d : Int)) (hS : rpS V (aS d) (hw, cl, L)) (hL : L.length < 10) (hok : ∀ s ∈ L, okSh s) : (∃ (V' : VV) (p : List Int × Tk), sName F N L t = .inr p ∧ okTk F N p.2 ∧ f5_readNewName V d L.length = some (1, V') ∧ XT V' F N p.2 ∧ (V' 1 2 = V 1 2 ∧ V' 1 3 = V 1 3) ∧ ((1 ≤ p.1.length ∧ p.1.length ≤ 6) ∧ ∀ x ∈ p.1, 97 ≤ x ∧ x ≤ 122) ∧ (∀ k, k ≠ 1 → k ≠ aS d + (2 + 2 * L.length) → k ≠ aS d + (2 + 2 * L.length) + 1 → V' k = V k) ∧ V' (aS d + (2 + 2 * L.length)) 1 = (p.1.length : Int) ∧ ∀ (j : Nat) (c : Int), p.1[j]? = some c → V' (aS d + (2 + 2 * L.length) + 1) j = c) ∨ ∃ (V' : VV) (e : Int × Int), sName F N L t = .inl e ∧ f5_readNewName V d L.length = some (0, V') ∧ xE V V' e := by
  have hN := hF.1
  have ht1 := ht.1
  have ht2 := ht.2.1
  have ht3 := ht.2.2.1
  have hdd : (V 0 3).toNat = d := by rw [h3]; omega
  have hln : V 1 6 - V 1 5 = ((t.2.2 - t.2.1 : Nat) : Int) := by rw [h.2.2.2.2, h.2.2.2.1]; omega
  unfold f5_readNewName sName
  rw [ck_t hd, ck_t hL, h.2.2.1, hln, hdd, nrm_of (z := (t.1 : Int)) (by omega) (by omega), nrm_of (z := 1) (by omega) (by omega)]
  by_cases c : t.1 = 1
  · rw [if_pos c, if_pos (show (t.1 : Int) = 1 by omega), nrm_of (z := 6) (by omega) (by omega), nrm_of (z := ((t.2.2 - t.2.1 : Nat) : Int)) (by omega) (by omega)]
    by_cases c2 : 6 < t.2.2 - t.2.1
    · right
      obtain ⟨V', g1, g2⟩ := X_fail2 (c := 3) h
      refine ⟨V', _, if_pos c2, ?_, g2⟩
      rw [if_pos (by omega), g1]
    · rw [if_neg c2, if_neg (show ¬ (6 : Int) < ((t.2.2 - t.2.1 : Nat) : Int) by omega), ck_t hd, h.2.2.2.1, X_shipNamed hd hS (by show L.length ≤ 10; omega) hok (by omega) (fun j hj => by rw [h.2.1 _ (by omega)]; exact wB_in _), bd_s, shN_eq (F' := F) hok (fun j hj => ⟨h.2.1 _ (by omega), hF.2 _ (by omega)⟩)]
      have hrg := shN_rg (F := F) (fr := t.2.1) (len := t.2.2 - t.2.1) (l := L) (i := 0)
      by_cases c3 : shN F t.2.1 (t.2.2 - t.2.1) L 0 = -1
      · left
        obtain ⟨W, g1, g2, g3, g4, g5⟩ := X_takeName (i := L.length) hF h ht hd hL c (by omega)
        have ha : ∀ j, aS d + j ≠ 1 := fun j => by unfold aS; omega
        have ha2 : ∀ j, aS d + j ≠ 2 := fun j => by unfold aS; omega
        have hWT : XT W F N t := h.of (fun i _ _ _ => by rw [g2 1 (Ne.symm (ha _)) (by unfold aS; omega)]) (g2 2 (Ne.symm (ha2 _)) (by unfold aS; omega))
        obtain ⟨V', q1, q2, -⟩ := X_nx hF hWT ht
        have hn := name_ok ht c (by omega)
        refine ⟨V', ((List.range (t.2.2 - t.2.1)).map (fun j => F (t.2.1 + j)), nxk F N t), if_pos c3, nx_ok ht, ?_, q2.1, ⟨?_, ?_⟩, hn, fun k k1 k2 k3 => ?_, ?_, fun j x hj => ?_⟩
        · rw [if_pos (show nrm (shN F t.2.1 (t.2.2 - t.2.1) L 0) = nrm (-1) by rw [c3]), g1, bd_s, q1, bd_s]
        · rw [q2.2.2.1, g2 1 (Ne.symm (ha _)) (by unfold aS; omega)]
        · rw [q2.2.2.2, g2 1 (Ne.symm (ha _)) (by unfold aS; omega)]
        · rw [q2.2.1 k k1, g2 k k2 k3]
        · rw [q2.2.1 _ (ha _), g3, List.length_map, List.length_range]
        · have hjl := (List.getElem?_eq_some_iff.mp hj).1
          rw [List.length_map, List.length_range] at hjl
          have hx : F (t.2.1 + j) = x := by
            rw [List.getElem?_map, List.getElem?_range hjl] at hj
            exact Option.some.inj hj
          rw [q2.2.1 _ (by rw [Nat.add_assoc]; exact ha _), g5 j hjl, hx]
      · right
        obtain ⟨V', g1, g2⟩ := X_fail2 (c := 3) h
        refine ⟨V', _, if_neg c3, ?_, g2⟩
        rw [if_neg (show ¬ nrm (shN F t.2.1 (t.2.2 - t.2.1) L 0) = nrm (-1) by rw [nrm_of (by omega) (by omega), nrm_of (by omega) (by omega)]; exact c3), g1]
  · right
    obtain ⟨V', g1, g2⟩ := X_fail2 (c := 1) h
    refine ⟨V', _, if_neg c, ?_, g2⟩
    rw [if_neg (show ¬ (t.1 : Int) = 1 by omega), g1]
/-- the reader's ends over the draft -/
def dE (d : Nat) (V V' : VV) (e : Int × Int) : Prop := V' 1 2 = e.1 ∧ V' 1 3 = e.2 ∧ frD d V V'
theorem dE_of {d : Nat} {V V1 V' : VV} {e : Int × Int} (h : frD d V V1) (h2 : xE V1 V' e) : dE d V V' e := ⟨h2.1, h2.2.1, h.tr (frD_of h2.2.2)⟩
theorem X_readShip {V : VV} {F : Nat → Int} {N d : Nat} {t : Tk} {hw cl : Int} {L : List Sh} (hF : okF F N) (h : XT V F N t) (ht : okTk F N t) (hd : d < 2) (h3 : V 0 3 = (d : Int)) (hS : rpS V (aS d) (hw, cl, L)) (hL : L.length ≤ 10) (hok : ∀ s ∈ L, okSh s) : (∃ (V' : VV) (p : Sh × Tk), sShip F N L t = .inr p ∧ okTk F N p.2 ∧ L.length < 10 ∧ f5_readShip V = some (1, V') ∧ XT V' F N p.2 ∧ (V' 1 2 = V 1 2 ∧ V' 1 3 = V 1 3) ∧ frD d V V' ∧ rpS V' (aS d) (hw, cl, L ++ [p.1]) ∧ V' (aS d) 2 = V (aS d) 2 ∧ okSh p.1) ∨ ∃ (V' : VV) (e : Int × Int), sShip F N L t = .inl e ∧ f5_readShip V = some (0, V') ∧ dE d V V' e := by
  have hN := hF.1
  have hdd : (V 0 3).toNat = d := by rw [h3]; omega
  have ha : ∀ j, aS d + j ≠ 1 := fun j => by unfold aS; omega
  have ha1 : aS d ≠ 1 := by unfold aS; omega
  have ha2 : ∀ j, aS d + j ≠ 2 := fun j => by unfold aS; omega
  have ha22 : aS d ≠ 2 := by unfold aS; omega
  have ha0 : ∀ j, aS d + j ≠ 0 := fun j => by unfold aS; omega
  have ha00 : aS d ≠ 0 := by unfold aS; omega
  have hct : V (aS d) 3 = (L.length : Int) := hS.2.2.1
  unfold f5_readShip sShip
  rw [X_isWord hF h ht (by decide) (by decide), bd_s]
  by_cases c : isW F 2 t = true
  · rw [if_pos c, if_neg (show ¬ nrm 1 = 0 by decide +kernel), hdd, ck_t hd, hct, nrm_of (z := (L.length : Int)) (by omega) (by omega), nrm_of (z := 10) (by omega) (by omega)]
    by_cases c2 : L.length = 10
    · right
      obtain ⟨V', g1, g2⟩ := X_fail2 (c := 4) h
      refine ⟨V', (4, t.2.1), ?_, ?_, dE_of (fun _ _ _ => rfl) g2⟩
      · rw [if_pos ⟨c2, c⟩]; rfl
      · rw [if_pos (show (L.length : Int) = 10 by omega), g1]
    · have hL9 : L.length < 10 := by omega
      rw [if_neg (fun q => c2 q.1), if_neg (show ¬ (L.length : Int) = 10 by omega)]
      rcases X_takeWord (k := 2) hF h ht (by decide) (by decide) with ⟨V1, t1, e1, o1, g1, x1⟩ | ⟨V1, e, e1, g1, x1⟩
      · rw [e1, g1, bd2_s, if_neg (show ¬ nrm 1 = 0 by decide +kernel)]
        have v103 : V1 0 3 = (d : Int) := by rw [x1.2.1 0 (by omega), h3]
        have v1d : (V1 0 3).toNat = d := by rw [v103]; omega
        have v1c : V1 (aS d) 3 = (L.length : Int) := by rw [x1.2.1 _ ha1, hct]
        have hS1 : rpS V1 (aS d) (hw, cl, L) := by
          unfold rpS at hS ⊢
          simp only [x1.2.1 _ ha1, x1.2.1 _ (ha _), Nat.add_assoc]
          simp only [Nat.add_assoc] at hS
          exact hS
        have f1 : frD d V V1 := frD_of x1.2.1
        rw [v1d, ck_t hd, v1c, ck_t (by omega), Int.toNat_natCast]
        obtain ⟨i, hi⟩ : ∃ i, i = L.length := ⟨_, rfl⟩
        obtain ⟨sc, hsc⟩ : ∃ sc, sc = aS d + (2 + 2 * i) := ⟨_, rfl⟩
        have hscr : aS d ≤ sc ∧ sc < aS d + 22 := by rw [hsc]; omega
        have hsc1 : sc ≠ 1 := by rw [hsc]; exact ha _
        have hsc2 : sc ≠ 2 := by rw [hsc]; exact ha2 _
        have hsc0 : sc ≠ 0 := by rw [hsc]; exact ha0 _
        have hscA : sc ≠ aS d := by rw [hsc]; omega
        rcases X_readNewName hF x1.1 o1 hd v103 hS1 hL9 hok with ⟨V2, p, e2, o2, g2, xt2, ⟨er2, er3⟩, nok, fr2, n1, n2⟩ | ⟨V2, e, e2, g2, x2⟩
        · rw [← hi, ← hsc] at fr2 n1 n2
          rw [← hi] at g2 ⊢
          rw [g2, bd2_s, if_neg (show ¬ nrm 1 = 0 by decide +kernel), ← hsc]
          have f2 : frD d V V2 := f1.tr (fun k k1 k2 => fr2 k k1 (by omega) (by omega))
          rcases X_takeNumber (lo := 1) (hi := 60) hF xt2 o2 (by constructor <;> constructor <;> omega) with ⟨V3, v1, e3, g3, x3, m3, b3⟩ | ⟨V3, e, e3, g3, x3⟩
          · rw [g3, bd2_s, if_neg (show ¬ nrm 1 = 0 by decide +kernel), m3]
            obtain ⟨U3, hU3⟩ : ∃ U, U = up2 V3 sc 2 v1 := ⟨_, rfl⟩
            have xtU3 : XT U3 F N (nxk F N p.2) := by rw [hU3]; exact x3.1.up hsc1 hsc2
            have fU3 : frD d V U3 := by rw [hU3]; exact (f2.tr (frD_of x3.2.1)).tr (frD_up hscr)
            rw [← hU3]
            rcases X_takeNumber (lo := 0) (hi := 9) hF xtU3 (nx_ok o2) (by constructor <;> constructor <;> omega) with ⟨V4, v2, e4, g4, x4, m4, b4⟩ | ⟨V4, e, e4, g4, x4⟩
            · rw [g4, bd2_s, if_neg (show ¬ nrm 1 = 0 by decide +kernel), m4]
              obtain ⟨U4, hU4⟩ : ∃ U, U = up2 V4 sc 3 v2 := ⟨_, rfl⟩
              have xtU4 : XT U4 F N (nxk F N (nxk F N p.2)) := by rw [hU4]; exact x4.1.up hsc1 hsc2
              have fU4 : frD d V U4 := by rw [hU4]; exact (fU3.tr (frD_of x4.2.1)).tr (frD_up hscr)
              rw [← hU4]
              rcases X_takeNumber (lo := 1) (hi := 99) hF xtU4 (nx_ok (nx_ok o2)) (by constructor <;> constructor <;> omega) with ⟨V5, v3, e5, g5, x5, m5, b5⟩ | ⟨V5, e, e5, g5, x5⟩
              · rw [g5, bd2_s, if_neg (show ¬ nrm 1 = 0 by decide +kernel), m5]
                -- what has become of the cells
                have k5 : ∀ k, k ≠ 1 → k ≠ sc → k ≠ sc + 1 → V5 k = V k := fun k k1 k2 k3 => by
                  rw [x5.2.1 k k1, hU4, up2_r k2, x4.2.1 k k1, hU3, up2_r k2, x3.2.1 k k1, fr2 k k1 k2 k3, x1.2.1 k k1]
                have s51 : V5 sc 1 = (p.1.length : Int) := by rw [x5.2.1 _ hsc1, hU4, up2_n (by omega), x4.2.1 _ hsc1, hU3, up2_n (by omega), x3.2.1 _ hsc1, n1]
                have s52 : V5 sc 2 = v1 := by rw [x5.2.1 _ hsc1, hU4, up2_n (by omega), x4.2.1 _ hsc1, hU3, up2_s]
                have s53 : V5 sc 3 = v2 := by rw [x5.2.1 _ hsc1, hU4, up2_s]
                have s5n : ∀ (j : Nat) (c : Int), p.1[j]? = some c → V5 (sc + 1) j = c := fun j c hj => by rw [x5.2.1 _ (by omega), hU4, up2_r (by omega), x4.2.1 _ (by omega), hU3, up2_r (by omega), x3.2.1 _ (by omega), n2 j c hj]
                have d5 : ((up2 V5 sc 4 v3) 0 3).toNat = d := by rw [up2_r (Ne.symm hsc0), k5 0 (by omega) (Ne.symm hsc0) (by omega), h3]; omega
                have a5 : (up2 V5 sc 4 v3) (aS d) 3 = (L.length : Int) := by rw [up2_r (Ne.symm hscA), k5 _ ha1 (Ne.symm hscA) (by omega), hct]
                rw [d5, ck_t hd, a5]
                obtain ⟨U5, hU5⟩ : ∃ U, U = up2 (up2 V5 sc 4 v3) (aS d) 3 ((L.length : Int) + 1) := ⟨_, rfl⟩
                have xtU5 : XT U5 F N (nxk F N (nxk F N (nxk F N p.2))) := by rw [hU5]; exact (x5.1.up hsc1 hsc2).up ha1 ha22
                have fU5 : frD d V U5 := by rw [hU5]; exact ((fU4.tr (frD_of x5.2.1)).tr (frD_up hscr)).tr (frD_up (by omega))
                rw [← hU5]
                rcases X_takeSemicolon hF xtU5 (nx_ok (nx_ok (nx_ok o2))) with ⟨V6, t6, e6, o6, g6, x6⟩ | ⟨V6, e, e6, g6, x6⟩
                · left
                  refine ⟨V6, ((p.1, v1, v2, v3), t6), ?_, o6, (by omega), ?_, x6.1, ⟨?_, ?_⟩, fU5.tr (frD_of x6.2.1), ?_, ?_, nok.1, nok.2, b3, b4, b5⟩
                  · simp only [sb]
                    rw [e2]; simp only
                    rw [e3]; simp only
                    rw [e4]; simp only
                    rw [e5]; simp only
                    rw [e6]
                  · rw [g6, bd2_s, ck_t (Or.inr rfl)]
                  · rw [x6.2.2.1, hU5, up2_r (Ne.symm ha1), up2_r (Ne.symm hsc1), x5.2.2.1, hU4, up2_r (Ne.symm hsc1), x4.2.2.1, hU3, up2_r (Ne.symm hsc1), x3.2.2.1, er2, x1.2.2.1]
                  · rw [x6.2.2.2, hU5, up2_r (Ne.symm ha1), up2_r (Ne.symm hsc1), x5.2.2.2, hU4, up2_r (Ne.symm hsc1), x4.2.2.2, hU3, up2_r (Ne.symm hsc1), x3.2.2.2, er3, x1.2.2.2]
                  · have w6 : ∀ k, k ≠ 1 → k ≠ aS d → k ≠ sc → k ≠ sc + 1 → V6 k = V k := fun k k1 k2 k3 k4 => by rw [x6.2.1 k k1, hU5, up2_r k2, up2_r k3, k5 k k1 k3 k4]
                    have wA : ∀ j, j ≠ 3 → V6 (aS d) j = V (aS d) j := fun j hj => by rw [x6.2.1 _ ha1, hU5, up2_n (by omega), up2_r (Ne.symm hscA), k5 _ ha1 (Ne.symm hscA) (by omega)]
                    have wS : ∀ j, j ≠ 4 → V6 sc j = V5 sc j := fun j hj => by rw [x6.2.1 _ hsc1, hU5, up2_r hscA, up2_n (by omega)]
                    refine ⟨by rw [wA 0 (by omega)]; exact hS.1, by rw [wA 1 (by omega)]; exact hS.2.1, ?_, fun i' s hs => ?_⟩
                    · show V6 (aS d) 3 = _
                      rw [x6.2.1 _ ha1, hU5, up2_s, List.length_append]
                      simp
                    · have hs' : (L ++ [(p.1, v1, v2, v3)])[i']? = some s := hs
                      by_cases z : i' < L.length
                      · rw [List.getElem?_append_left z] at hs'
                        obtain ⟨q1, q2, q3, q4, q5⟩ := hS.2.2.2 i' s hs'
                        rw [w6 (aS d + (2 + 2 * i')) (ha _) (by omega) (by omega) (by omega), w6 (aS d + (2 + 2 * i') + 1) (by rw [Nat.add_assoc]; exact ha _) (by omega) (by omega) (by omega)]
                        exact ⟨q1, q2, q3, q4, q5⟩
                      · rw [List.getElem?_append_right (by omega)] at hs'
                        have hz : i' = L.length := by
                          have := (List.getElem?_eq_some_iff.mp hs').1
                          simp at this; omega
                        subst hz
                        rw [Nat.sub_self] at hs'
                        have hse : s = (p.1, v1, v2, v3) := by simpa using hs'.symm
                        subst hse
                        rw [← hi, ← hsc, wS 1 (by omega), wS 2 (by omega), wS 3 (by omega)]
                        refine ⟨s51, s52, s53, ?_, fun j x hj => ?_⟩
                        · rw [x6.2.1 _ hsc1, hU5, up2_r hscA, up2_s]
                        · rw [x6.2.1 _ (by omega), hU5, up2_r (by omega), up2_r (by omega)]
                          exact s5n j x hj
                  · rw [x6.2.1 _ ha1, hU5, up2_n (by omega), up2_r (Ne.symm hscA), k5 _ ha1 (Ne.symm hscA) (by omega)]
                · right
                  refine ⟨V6, e, ?_, ?_, dE_of fU5 x6⟩
                  · simp only [sb]
                    rw [e2]; simp only
                    rw [e3]; simp only
                    rw [e4]; simp only
                    rw [e5]; simp only
                    rw [e6]
                  · rw [g6, bd2_s, ck_t (Or.inl rfl)]
              · right
                refine ⟨V5, e, ?_, ?_, dE_of fU4 x5⟩
                · simp only [sb]
                  rw [e2]; simp only
                  rw [e3]; simp only
                  rw [e4]; simp only
                  rw [e5]
                · rw [g5, bd2_s, if_pos (show nrm 0 = 0 by decide +kernel)]
            · right
              refine ⟨V4, e, ?_, ?_, dE_of fU3 x4⟩
              · simp only [sb]
                rw [e2]; simp only
                rw [e3]; simp only
                rw [e4]
              · rw [g4, bd2_s, if_pos (show nrm 0 = 0 by decide +kernel)]
          · right
            refine ⟨V3, e, ?_, ?_, dE_of f2 x3⟩
            · simp only [sb]
              rw [e2]; simp only
              rw [e3]
            · rw [g3, bd2_s, if_pos (show nrm 0 = 0 by decide +kernel)]
        · right
          refine ⟨V2, e, ?_, ?_, dE_of f1 x2⟩
          · simp only [sb]
            rw [e2]
          · rw [← hi] at g2 ⊢
            rw [g2, bd2_s, if_pos (show nrm 0 = 0 by decide +kernel)]
      · exfalso
        unfold sWord at e1
        rw [if_pos c] at e1
        cases e1
  · right
    rw [if_neg c, if_pos (show nrm 0 = 0 by decide +kernel), if_neg (fun q => c q.2)]
    rcases X_takeWord (k := 2) hF h ht (by decide) (by decide) with ⟨V1, t1, e1, o1, g1, x1⟩ | ⟨V1, e, e1, g1, x1⟩
    · exfalso
      unfold sWord at e1
      rw [if_neg c] at e1
      cases e1
    · refine ⟨V1, e, by rw [e1]; rfl, ?_, dE_of (fun _ _ _ => rfl) x1⟩
      rw [g1, bd2_s, if_pos (show nrm 0 = 0 by decide +kernel)]
