/-! scripts: the reference reads them -/
def frT (V V' : VV) : Prop := (∀ k, k ≠ 148 → k ≠ 153 → V' k = V k) ∧ ∀ i, i ≠ 5 → i ≠ 6 → i ≠ 10 → i ≠ 11 → i ≠ 12 → i ≠ 13 → V' 148 i = V 148 i
theorem frT.tr {V V' V'' : VV} (h : frT V V') (h2 : frT V' V'') : frT V V'' := ⟨fun k a b => (h2.1 k a b).trans (h.1 k a b), fun i a b c d e f => (h2.2 i a b c d e f).trans (h.2 i a b c d e f)⟩
theorem frT.rf {V : VV} : frT V V := ⟨fun _ _ _ => rfl, fun _ _ _ _ _ _ _ => rfl⟩
theorem frT_up {V : VV} {i : Nat} {z : Int} : frT V (up2 V 153 i z) := ⟨fun k _ h2 => up2_r h2, fun i _ _ _ _ _ _ => up2_n (by omega)⟩
theorem frT_G {V V' : VV} {F : Nat → Int} {N : Nat} {t : Tk} (h : mG V V' F N t) : frT V V' := ⟨fun k a _ => h.2.1 k a, fun i _ _ c d e f => h.2.2 i c d e f⟩
theorem frT_E {V V' : VV} {e : Int × Int} (h : mE V V' e) : frT V V' := ⟨fun k a _ => h.2.2.1 k a, fun i a b c d e f => h.2.2.2 i a b c d e f⟩
def tE (V V' : VV) (e : Int × Int) : Prop := V' 148 5 = e.1 ∧ V' 148 6 = e.2 ∧ frT V V'
theorem tE_of {V V1 V' : VV} {e : Int × Int} (h : frT V V1) (h2 : mE V1 V' e) : tE V V' e := ⟨h2.1, h2.2.1, h.tr (frT_E h2)⟩
def MC (V : VV) (cs : List Cm) : Prop := ∀ (i : Nat) (c : Cm), cs[i]? = some c → V 153 (5 * i) = c.1 ∧ (c.1 ≤ 1 → V 153 (5 * i + 1) = c.2.1 ∧ V 153 (5 * i + 2) = c.2.2.1 ∧ V 153 (5 * i + 3) = c.2.2.2.1 ∧ (c.1 = 1 → V 153 (5 * i + 4) = c.2.2.2.2)) ∧ (2 ≤ c.1 → V 153 (5 * i + 1) = c.2.2.2.1 ∧ (c.1 = 3 → V 153 (5 * i + 2) = c.2.2.2.2))
theorem shN_long {F : Nat → Int} {fr len : Nat} : ∀ {l : List Sh} {i : Nat}, (∀ s ∈ l, okSh s) → 6 < len → shN F fr len l i = -1 := by
  intro l
  induction l with
  | nil => intro i _ _; rfl
  | cons s l ih =>
    intro i hs hl
    have h1 := (hs s List.mem_cons_self).1
    rw [shN, ih (fun s' h => hs s' (List.mem_cons_of_mem _ h)) hl]
    unfold shB
    rw [decide_eq_false (by omega), Bool.false_and, if_neg (by decide)]
theorem nmB_ex {F F' : Nat → Int} : ∀ {t : List Int} {i : Nat}, (∀ j, j < t.length → F (i + j) = F' (i + j)) → nmB F t i = nmB F' t i := by
  intro t
  induction t with
  | nil => intro i _; rfl
  | cons c t ih =>
    intro i hh
    have h0 := hh 0 (by simp)
    rw [Nat.add_zero] at h0
    rw [nmB, nmB, h0, ih (fun j hj => by rw [show i + 1 + j = i + (j + 1) by omega]; exact hh (j + 1) (by simp; omega))]
theorem shN_ex {F F' : Nat → Int} {fr len : Nat} (h : ∀ j, j < len → F (fr + j) = F' (fr + j)) : ∀ {l : List Sh} {i : Nat}, shN F fr len l i = shN F' fr len l i := by
  intro l
  induction l with
  | nil => intro i; rfl
  | cons s l ih =>
    intro i
    rw [shN, shN, ih]
    have : shB F fr len s = shB F' fr len s := by
      unfold shB
      by_cases z : len = s.1.length
      · rw [nmB_ex (fun j hj => h j (by omega))]
      · rw [decide_eq_false z, Bool.false_and, Bool.false_and]
    rw [this]
theorem M_isShort {V : VV} {F : Nat → Int} {N : Nat} {t : Tk} (hF : okF F N) (h : MT V F N t) (ht : okTk F N t) : (t.1 = 1 ∧ t.2.2 - t.2.1 ≤ 6 ∧ f6_isShortWord V = some (1, V)) ∨ (t.1 = 1 ∧ 6 < t.2.2 - t.2.1 ∧ ∃ V' : VV, f6_isShortWord V = some (0, V') ∧ mE V V' (3, t.2.1)) ∨ (t.1 ≠ 1 ∧ ∃ V' : VV, f6_isShortWord V = some (0, V') ∧ mE V V' (1, t.2.1)) := by
  have hN := hF.1
  have p1 := ht.1
  have p2 := ht.2.1
  have p3 := ht.2.2.1
  have hln : V 148 10 - V 148 12 = ((t.2.2 - t.2.1 : Nat) : Int) := by rw [h.2.2.2.2.1, h.2.2.2.1]; omega
  unfold f6_isShortWord
  rw [h.2.2.1, hln, nrm_of (z := (t.1 : Int)) (by omega) (by omega), nrm_of (z := 1) (by omega) (by omega), nrm_of (z := 6) (by omega) (by omega), nrm_of (z := ((t.2.2 - t.2.1 : Nat) : Int)) (by omega) (by omega)]
  by_cases c : t.1 = 1
  · rw [if_pos (show (t.1 : Int) = 1 by omega)]
    by_cases c3 : 6 < t.2.2 - t.2.1
    · right; left
      obtain ⟨V', q1, q2⟩ := M_wrong3 (c := 3) h
      refine ⟨c, c3, V', ?_, q2⟩
      rw [if_neg (show ¬ ((t.2.2 - t.2.1 : Nat) : Int) ≤ 6 by omega), q1]
    · left
      exact ⟨c, by omega, if_pos (by omega)⟩
  · right; right
    obtain ⟨V', q1, q2⟩ := M_wrong2 (c := 1) h
    refine ⟨c, V', ?_, q2⟩
    rw [if_neg (show ¬ (t.1 : Int) = 1 by omega), q1]
/-- ship and way -/
theorem M_shipAndWay {V : VV} {F : Nat → Int} {N x : Nat} {t : Tk} {S : Su} {y y2 : Int} (hF : okF F N) (h : MT V F N t) (ht : okTk F N t) (hS : rpN V 0 S) (ho : okS S) (hy : y = (x : Int)) (hy2 : y2 = ((x + 1 : Nat) : Int)) (hx : x + 1 < 150) : (∃ (V1 V' : VV) (p : (Int × Int) × Tk), sShW F N S t = .inr p ∧ okTk F N p.2 ∧ f6_parseShipName V y = some (1, V1) ∧ f6_parseDirection V1 y2 = some (1, V') ∧ MT V' F N p.2 ∧ (V' 148 5 = V 148 5 ∧ V' 148 6 = V 148 6) ∧ frT V V' ∧ (∀ j, V' 153 j = if j = x + 1 then p.1.2 else if j = x then p.1.1 else V 153 j) ∧ isSp S p.1.1 ∧ (p.1.2 = 0 ∨ p.1.2 = 1)) ∨ (∃ (V' : VV) (e : Int × Int), sShW F N S t = .inl e ∧ f6_parseShipName V y = some (0, V') ∧ tE V V' e) ∨ ∃ (V1 V' : VV) (e : Int × Int), sShW F N S t = .inl e ∧ f6_parseShipName V y = some (1, V1) ∧ f6_parseDirection V1 y2 = some (0, V') ∧ tE V V' e := by
  subst hy; subst hy2
  have hN := hF.1
  have p1 := ht.1
  have p2 := ht.2.1
  have hsl := ho.2.2.1
  have hln : V 148 10 - V 148 12 = ((t.2.2 - t.2.1 : Nat) : Int) := by rw [h.2.2.2.2.1, h.2.2.2.1]; omega
  have hrg := shN_rg (F := F) (fr := t.2.1) (len := t.2.2 - t.2.1) (l := S.2.2) (i := 0)
  unfold f6_parseShipName sShW
  rcases M_isShort hF h ht with ⟨c, c6, g⟩ | ⟨c, c6, V', g, q⟩ | ⟨c, V', g, q⟩
  · rw [g, bd2_s, if_neg (show ¬ nrm 1 = 0 by decide +kernel), if_pos c, hln, h.2.2.2.1, M_shipNamed hS hsl.2 ho.2.2.2 (by omega) (fun j hj => by rw [h.2.1 _ (by omega)]; exact hF.2 _ (by omega)), bd_s, ck_t (by omega), Int.toNat_natCast, up2_s, shN_ex (F' := F) (fun j hj => h.2.1 _ (by omega))]
    generalize shN F t.2.1 (t.2.2 - t.2.1) S.2.2 0 = z at *
    by_cases c3 : z = -1
    · right; left
      obtain ⟨V', q1, q2⟩ := M_wrong2 (c := 3) (h.up (k := 153) (i := x) (z := z) (by omega) (by omega))
      rw [if_pos c3, if_pos (show nrm z = nrm (-1) by rw [c3]), q1]
      exact ⟨V', _, rfl, rfl, tE_of frT_up q2⟩
    · rw [if_neg c3, if_neg (show ¬ nrm z = nrm (-1) by rw [nrm_of (by omega) (by omega), nrm_of (by omega) (by omega)]; exact c3)]
      obtain ⟨V1, g1, x1⟩ := M_nx hF (h.up (k := 153) (i := x) (z := z) (by omega) (by omega)) ht
      have o1 : okTk F N (nxk F N t) := nx_ok ht
      have f1 : frT V V1 := frT_up.tr (frT_G x1)
      rw [g1, bd_s]
      generalize nxk F N t = t1 at *
      have wd : ∀ k, k < 12 → 1 ≤ k → f6_isWord V1 k = some (if isW F k t1 = true then 1 else 0) := fun k a b => M_isWord hF x1.1 o1 a b
      have ends : ∀ w : Int, ∃ V' : VV, bd (f6_token (up2 V1 153 (x + 1) w)) (fun W19 => some ((1 : Int), W19)) = some (1, V') ∧ MT V' F N (nxk F N t1) ∧ (V' 148 5 = V 148 5 ∧ V' 148 6 = V 148 6) ∧ frT V V' ∧ ∀ j, V' 153 j = if j = x + 1 then w else if j = x then z else V 153 j := by
        intro w
        obtain ⟨V2, g2, x2⟩ := M_nx hF (x1.1.up (k := 153) (i := x + 1) (z := w) (by omega) (by omega)) o1
        refine ⟨V2, by rw [g2, bd_s], x2.1, ⟨?_, ?_⟩, (f1.tr frT_up).tr (frT_G x2), fun j => ?_⟩
        · rw [x2.2.2 5 (by omega) (by omega) (by omega) (by omega), up2_r (by omega), x1.2.2 5 (by omega) (by omega) (by omega) (by omega), up2_r (by omega)]
        · rw [x2.2.2 6 (by omega) (by omega) (by omega) (by omega), up2_r (by omega), x1.2.2 6 (by omega) (by omega) (by omega) (by omega), up2_r (by omega)]
        · rw [x2.2.1 153 (by omega)]
          by_cases e : j = x + 1
          · rw [if_pos e, e, up2_s]
          · rw [if_neg e, up2_n (by omega), x1.2.1 153 (by omega)]
            by_cases e2 : j = x
            · rw [if_pos e2, e2, up2_s]
            · rw [if_neg e2, up2_n (by omega)]
      by_cases c10 : isW F 10 t1 = true
      · left
        obtain ⟨V2, g2, x2, a1, a2, a3⟩ := ends 1
        rw [if_pos c10]
        refine ⟨V1, V2, _, rfl, nx_ok o1, rfl, ?_, x2, a1, a2, a3, ⟨by show 0 ≤ z; omega, by show z < _; omega⟩, Or.inr rfl⟩
        unfold f6_parseDirection
        rw [wd 10 (by decide) (by decide), bd_s, if_pos c10, if_neg (show ¬ nrm 1 = 0 by decide +kernel), bd_s, if_neg (show ¬ nrm 1 = 0 by decide +kernel), bd_s, ck_t (by omega), Int.toNat_natCast, g2]
      · rw [if_neg c10]
        by_cases c11 : isW F 11 t1 = true
        · left
          obtain ⟨V2, g2, x2, a1, a2, a3⟩ := ends 0
          rw [if_pos c11]
          refine ⟨V1, V2, _, rfl, nx_ok o1, rfl, ?_, x2, a1, a2, a3, ⟨by show 0 ≤ z; omega, by show z < _; omega⟩, Or.inl rfl⟩
          unfold f6_parseDirection
          rw [wd 10 (by decide) (by decide), wd 11 (by decide) (by decide), bd_s, if_neg c10, if_pos (show nrm 0 = 0 by decide +kernel), bd_s, if_pos c11, if_neg (show ¬ nrm 1 = 0 by decide +kernel), bd_s, if_pos (show nrm 0 = 0 by decide +kernel), bd_s, ck_t (by omega), Int.toNat_natCast, g2]
        · right; right
          obtain ⟨V', q1, q2⟩ := M_wrong2 (c := 1) x1.1
          rw [if_neg c11]
          refine ⟨V1, V', _, rfl, rfl, ?_, tE_of f1 q2⟩
          unfold f6_parseDirection
          rw [wd 10 (by decide) (by decide), wd 11 (by decide) (by decide), bd_s, if_neg c10, if_pos (show nrm 0 = 0 by decide +kernel), bd_s, if_neg c11, if_pos (show nrm 0 = 0 by decide +kernel), q1]
  · right; left
    rw [g, bd2_s, if_pos (show nrm 0 = 0 by decide +kernel), if_pos c, if_pos (shN_long ho.2.2.2 c6)]
    exact ⟨V', _, rfl, rfl, tE_of frT.rf q⟩
  · right; left
    rw [g, bd2_s, if_pos (show nrm 0 = 0 by decide +kernel), if_neg c]
    exact ⟨V', _, rfl, rfl, tE_of frT.rf q⟩
theorem M_args {V : VV} {F : Nat → Int} {N x : Nat} {t : Tk} {S : Su} {v y : Int} (hF : okF F N) (h : MT V F N t) (ht : okTk F N t) (hS : rpN V 0 S) (ho : okS S) (hv : 0 ≤ v ∧ v ≤ 6) (hy : y = (x : Int)) (hx : x + 3 < 150) : (∃ (V' : VV) (p : Cm × Tk), sArg F N S v t = .inr p ∧ okTk F N p.2 ∧ f6_parseArguments V v y = some (1, V') ∧ MT V' F N p.2 ∧ (V' 148 5 = V 148 5 ∧ V' 148 6 = V 148 6) ∧ frT V V' ∧ (∀ j, j < x ∨ x + 3 < j → V' 153 j = V 153 j) ∧ p.1.1 = v ∧ (v ≤ 1 → V' 153 x = p.1.2.1 ∧ V' 153 (x + 1) = p.1.2.2.1 ∧ V' 153 (x + 2) = p.1.2.2.2.1 ∧ (v = 1 → V' 153 (x + 3) = p.1.2.2.2.2)) ∧ (2 ≤ v → V' 153 x = p.1.2.2.2.1 ∧ (v = 3 → V' 153 (x + 1) = p.1.2.2.2.2))) ∨ ∃ (V' : VV) (e : Int × Int), sArg F N S v t = .inl e ∧ f6_parseArguments V v y = some (0, V') ∧ tE V V' e := by
  subst hy
  unfold f6_parseArguments sArg sTl
  rw [nrm_of (z := v) (by omega) (by omega), nrm_of (z := 3) (by omega) (by omega), nrm_of (z := 1) (by omega) (by omega)]
  by_cases cv : v ≤ 1
  · rw [if_pos cv, if_neg (show ¬ v = 3 by omega), if_pos cv]
    rcases M_shipAndWay (x := x) (y := (x : Int)) (y2 := (x : Int) + 1) hF h ht hS ho rfl (by omega) (by omega) with ⟨V1, V2, p, e1, o2, g1, g2, x2, er2, f2, a2, s2, y2⟩ | ⟨V', e, e1, g1, q⟩ | ⟨V1, V', e, e1, g1, g2, q⟩
    · rw [e1, g1, bd2_s, if_neg (show ¬ nrm 1 = 0 by decide +kernel), g2, bd2_s, if_neg (show ¬ nrm 1 = 0 by decide +kernel)]
      rcases M_parseNumber (x := x + 2) (y := (x : Int) + 2) hF x2 o2 (by omega) (by omega) with ⟨V3, f, e3, g3, x3, b3⟩ | ⟨V3, e, e3, g3, x3⟩
      · rw [g3, bd2_s, if_neg (show ¬ nrm 1 = 0 by decide +kernel)]
        have f3 : frT V V3 := (f2.tr frT_up).tr (frT_G x3)
        have er3 : V3 148 5 = V 148 5 ∧ V3 148 6 = V 148 6 := ⟨by rw [x3.2.2 5 (by omega) (by omega) (by omega) (by omega), up2_r (by omega), er2.1], by rw [x3.2.2 6 (by omega) (by omega) (by omega) (by omega), up2_r (by omega), er2.2]⟩
        have a3 : ∀ j, V3 153 j = if j = x + 2 then f else if j = x + 1 then p.1.2 else if j = x then p.1.1 else V 153 j := fun j => by
          rw [x3.2.1 153 (by omega)]
          by_cases e : j = x + 2
          · rw [if_pos e, e, up2_s]
          · rw [if_neg e, up2_n (by omega), a2 j]
        by_cases c0 : v = 0
        · left
          rw [if_pos c0]
          refine ⟨V3, ((v, p.1.1, p.1.2, f, 0), nxk F N p.2), ?_, nx_ok o2, rfl, x3.1, er3, f3, fun j hj => ?_, rfl, fun _ => ⟨?_, ?_, ?_, fun q => absurd q (by omega)⟩, fun q => absurd q (by omega)⟩
          · simp only [sb]
            rw [e3]; simp only
            rw [if_neg (show ¬ (v = 1 ∨ v = 3) by omega)]
          · rw [a3, if_neg (by omega), if_neg (by omega), if_neg (by omega)]
          · rw [a3, if_neg (by omega), if_neg (by omega), if_pos rfl]
          · rw [a3, if_neg (by omega), if_pos rfl]
          · rw [a3, if_pos rfl]
        · rw [if_neg c0]
          rcases M_parseNumber (x := x + 3) (y := (x : Int) + 3) hF x3.1 (nx_ok o2) (by omega) (by omega) with ⟨V4, g, e4, g4, x4, b4⟩ | ⟨V4, e, e4, g4, x4⟩
          · left
            have a4 : ∀ j, V4 153 j = if j = x + 3 then g else V3 153 j := fun j => by
              rw [x4.2.1 153 (by omega)]
              by_cases e : j = x + 3
              · rw [if_pos e, e, up2_s]
              · rw [if_neg e, up2_n (by omega)]
            refine ⟨V4, ((v, p.1.1, p.1.2, f, g), nxk F N (nxk F N p.2)), ?_, nx_ok (nx_ok o2), by rw [g4, bd2_s, if_neg (show ¬ nrm 1 = 0 by decide +kernel)], x4.1, ⟨?_, ?_⟩, (f3.tr frT_up).tr (frT_G x4), fun j hj => ?_, rfl, fun _ => ⟨?_, ?_, ?_, fun q => ?_⟩, fun q => absurd q (by omega)⟩
            · simp only [sb]
              rw [e3]; simp only
              rw [if_pos (show v = 1 ∨ v = 3 by omega), e4]
            · rw [x4.2.2 5 (by omega) (by omega) (by omega) (by omega), up2_r (by omega), er3.1]
            · rw [x4.2.2 6 (by omega) (by omega) (by omega) (by omega), up2_r (by omega), er3.2]
            · rw [a4, if_neg (by omega), a3, if_neg (by omega), if_neg (by omega), if_neg (by omega)]
            · rw [a4, if_neg (by omega), a3, if_neg (by omega), if_neg (by omega), if_pos rfl]
            · rw [a4, if_neg (by omega), a3, if_neg (by omega), if_pos rfl]
            · rw [a4, if_neg (by omega), a3, if_pos rfl]
            · rw [a4, if_pos rfl]
          · right
            refine ⟨V4, e, ?_, by rw [g4, bd2_s, if_pos (show nrm 0 = 0 by decide +kernel)], tE_of f3 x4⟩
            simp only [sb]
            rw [e3]; simp only
            rw [if_pos (show v = 1 ∨ v = 3 by omega), e4]
      · right
        refine ⟨V3, e, ?_, by rw [g3, bd2_s, if_pos (show nrm 0 = 0 by decide +kernel)], tE_of f2 x3⟩
        simp only [sb]
        rw [e3]
    · right
      rw [e1, g1, bd2_s, if_pos (show nrm 0 = 0 by decide +kernel)]
      exact ⟨V', e, rfl, rfl, q⟩
    · right
      rw [e1, g1, bd2_s, if_neg (show ¬ nrm 1 = 0 by decide +kernel), g2, bd2_s, if_pos (show nrm 0 = 0 by decide +kernel)]
      exact ⟨V', e, rfl, rfl, q⟩
  · rw [if_neg cv, if_neg cv]
    rcases M_parseNumber (x := x) (y := (x : Int)) hF h ht rfl (by omega) with ⟨V3, f, e3, g3, x3, b3⟩ | ⟨V3, e, e3, g3, x3⟩
    · have f3 : frT V V3 := frT_up.tr (frT_G x3)
      have er3 : V3 148 5 = V 148 5 ∧ V3 148 6 = V 148 6 := ⟨by rw [x3.2.2 5 (by omega) (by omega) (by omega) (by omega), up2_r (by omega)], by rw [x3.2.2 6 (by omega) (by omega) (by omega) (by omega), up2_r (by omega)]⟩
      have a3 : ∀ j, V3 153 j = if j = x then f else V 153 j := fun j => by
        rw [x3.2.1 153 (by omega)]
        by_cases e : j = x
        · rw [if_pos e, e, up2_s]
        · rw [if_neg e, up2_n (by omega)]
      by_cases c3 : v = 3
      · rw [if_pos c3, g3, bd2_s, if_neg (show ¬ nrm 1 = 0 by decide +kernel)]
        rcases M_parseNumber (x := x + 1) (y := (x : Int) + 1) hF x3.1 (nx_ok ht) (by omega) (by omega) with ⟨V4, g, e4, g4, x4, b4⟩ | ⟨V4, e, e4, g4, x4⟩
        · left
          have a4 : ∀ j, V4 153 j = if j = x + 1 then g else V3 153 j := fun j => by
            rw [x4.2.1 153 (by omega)]
            by_cases e : j = x + 1
            · rw [if_pos e, e, up2_s]
            · rw [if_neg e, up2_n (by omega)]
          refine ⟨V4, ((v, 0, 0, f, g), nxk F N (nxk F N t)), ?_, nx_ok (nx_ok ht), by rw [g4, bd2_s, if_neg (show ¬ nrm 1 = 0 by decide +kernel)], x4.1, ⟨?_, ?_⟩, (f3.tr frT_up).tr (frT_G x4), fun j hj => ?_, rfl, fun q => absurd q cv, fun _ => ⟨?_, fun _ => ?_⟩⟩
          · simp only [sb]
            rw [e3]; simp only
            rw [if_pos (show v = 1 ∨ v = 3 by omega), e4]
          · rw [x4.2.2 5 (by omega) (by omega) (by omega) (by omega), up2_r (by omega), er3.1]
          · rw [x4.2.2 6 (by omega) (by omega) (by omega) (by omega), up2_r (by omega), er3.2]
          · rw [a4, if_neg (by omega), a3, if_neg (by omega)]
          · rw [a4, if_neg (by omega), a3, if_pos rfl]
          · rw [a4, if_pos rfl]
        · right
          refine ⟨V4, e, ?_, by rw [g4, bd2_s, if_pos (show nrm 0 = 0 by decide +kernel)], tE_of f3 x4⟩
          simp only [sb]
          rw [e3]; simp only
          rw [if_pos (show v = 1 ∨ v = 3 by omega), e4]
      · left
        rw [if_neg c3, g3, bd2_s, ck_t (Or.inr rfl)]
        refine ⟨V3, ((v, 0, 0, f, 0), nxk F N t), ?_, nx_ok ht, rfl, x3.1, er3, f3, fun j hj => by rw [a3, if_neg (by omega)], rfl, fun q => absurd q cv, fun _ => ⟨by rw [a3, if_pos rfl], fun q => absurd q c3⟩⟩
        simp only [sb]
        rw [e3]; simp only
        rw [if_neg (show ¬ (v = 1 ∨ v = 3) by omega)]
    · right
      refine ⟨V3, e, ?_, ?_, tE_of frT.rf x3⟩
      · simp only [sb]
        rw [e3]
      · by_cases c3 : v = 3
        · rw [if_pos c3, g3, bd2_s, if_pos (show nrm 0 = 0 by decide +kernel)]
        · rw [if_neg c3, g3, bd2_s, ck_t (Or.inl rfl)]
theorem M_commandHere {V : VV} {F : Nat → Int} {N : Nat} {t : Tk} (hF : okF F N) (h : MT V F N t) (ht : okTk F N t) : f6_commandHere V = some (vrb F t) := by
  have w : ∀ k, k < 12 → 1 ≤ k → f6_isWord V k = some (if isW F k t = true then 1 else 0) := fun k a b => M_isWord hF h ht a b
  have stp : ∀ (m : Nat) (j : Nat) (k : Nat) (z z' : Int), z = (j : Int) → z' = z + 1 → j ≤ 6 → k = j + 3 → f6_commandHere_L2 V (m + 1) z = if isW F k t = true then some z else f6_commandHere_L2 V m z' := by
    intro m j k z z' hz hz' hj hk
    subst hz; subst hz'
    have hn : f6_nameOf V (j : Int) = some k := by
      have : ∀ j, j ≤ 6 → f6_nameOf V ((j : Nat) : Int) = some (j + 3) := by
        intro j hj
        have hc : j = 0 ∨ j = 1 ∨ j = 2 ∨ j = 3 ∨ j = 4 ∨ j = 5 ∨ j = 6 := by omega
        unfold f6_nameOf
        rw [nrm_of (by omega) (by omega)]
        rcases hc with e | e | e | e | e | e | e <;> subst e <;> rfl
      rw [this j hj, hk]
    rw [f6_commandHere_L2, nrm_of (z := 6) (by omega) (by omega), nrm_of (z := (j : Int)) (by omega) (by omega), if_neg (by omega), hn, bd_s, ck_t (by omega), w k (by omega) (by omega), bd_s]
    by_cases c : isW F k t = true
    · rw [if_pos c, if_pos c, if_neg (by decide +kernel)]
    · rw [if_neg c, if_neg c, if_pos (by decide +kernel)]
  have e7 : f6_commandHere_L2 V (4992 + 1) 7 = some (-1) := by rw [f6_commandHere_L2, if_pos (show nrm 6 < nrm 7 by decide +kernel)]
  unfold f6_commandHere vrb
  rw [show FU = 4992 + 1 + 1 + 1 + 1 + 1 + 1 + 1 + 1 from rfl, stp _ 0 3 0 1 rfl rfl (by omega) rfl, stp _ 1 4 1 2 rfl rfl (by omega) rfl, stp _ 2 5 2 3 rfl rfl (by omega) rfl, stp _ 3 6 3 4 rfl rfl (by omega) rfl, stp _ 4 7 4 5 rfl rfl (by omega) rfl, stp _ 5 8 5 6 rfl rfl (by omega) rfl, stp _ 6 9 6 7 rfl rfl (by omega) rfl, e7]
  (repeat' split) <;> rfl
theorem M_scL {F : Nat → Int} {N : Nat} {S : Su} (hF : okF F N) (ho : okS S) : ∀ (n m : Nat) (cs : List Cm) (t : Tk) (V : VV), n + 1 ≤ m → cs.length + n = 31 → cs.length ≤ 30 → MT V F N t → okTk F N t → rpN V 0 S → MC V cs → (∃ (V' : VV) (cs' : List Cm), sScript F N S n cs t = .inr cs' ∧ f6_parseScript_L2 m (cs.length : Int) V = some ((cs'.length : Int), V') ∧ (V' 148 5 = V 148 5 ∧ V' 148 6 = V 148 6) ∧ frT V V' ∧ MC V' cs') ∨ ∃ (V' : VV) (e : Int × Int), sScript F N S n cs t = .inl e ∧ f6_parseScript_L2 m (cs.length : Int) V = some (-1, V') ∧ tE V V' e := by
  intro n
  induction n with
  | zero => intro m cs t V _ h1 h2; omega
  | succ n ih =>
    intro m cs t V hm hl hl2 h ht hS hC
    obtain ⟨m, rfl⟩ : ∃ q, m = q + 1 := ⟨m - 1, by omega⟩
    have ht3 := ht.2.2.1
    have hvr := vrb_rg (F := F) (t := t)
    rw [f6_parseScript_L2, sScript, h.2.2.1, nrm_of (z := (t.1 : Int)) (by omega) (by omega)]
    by_cases c : t.1 = 0
    · left
      rw [if_pos c, if_pos (show (t.1 : Int) = 0 by omega)]
      exact ⟨V, cs, rfl, rfl, ⟨rfl, rfl⟩, frT.rf, hC⟩
    rw [if_neg c, if_neg (show ¬ (t.1 : Int) = 0 by omega), M_commandHere hF h ht, bd_s]
    unfold sCmd
    generalize vrb F t = v at *
    rw [nrm_of (z := v) (by omega) (by omega), nrm_of (z := -1) (by omega) (by omega), nrm_of (z := (cs.length : Int)) (by omega) (by omega), nrm_of (z := 30) (by omega) (by omega)]
    by_cases c1 : v = -1
    · right
      obtain ⟨V', q1, q2⟩ := M_wrong (c := 1) h
      rw [if_pos c1, if_pos c1, q1, bd2_s, bd2_s, if_pos (show nrm 0 = 0 by decide +kernel)]
      exact ⟨V', _, rfl, rfl, tE_of frT.rf q2⟩
    rw [if_neg c1, if_neg c1]
    by_cases c2 : cs.length = 30
    · right
      obtain ⟨V', q1, q2⟩ := M_wrong3 (c := 4) h
      rw [if_pos c2, if_neg (show ¬ (cs.length : Int) < 30 by omega), q1, bd2_s, if_pos (show nrm 0 = 0 by decide +kernel)]
      exact ⟨V', _, rfl, rfl, tE_of frT.rf q2⟩
    obtain ⟨i, hi⟩ : ∃ i, i = cs.length := ⟨_, rfl⟩
    rw [if_neg c2, if_pos (show (cs.length : Int) < 30 by omega), bd2_s, if_neg (show ¬ nrm 1 = 0 by decide +kernel)]
    obtain ⟨V1, g1, x1⟩ := M_nx hF h ht
    have o1 : okTk F N (nxk F N t) := nx_ok ht
    have e5 : (cs.length : Int) * 5 = ((5 * i : Nat) : Int) := by rw [hi]; omega
    rw [g1, bd_s, e5, ck_t (by omega), Int.toNat_natCast]
    generalize nxk F N t = t1 at *
    have f1 : frT V (up2 V1 153 (5 * i) v) := (frT_G x1).tr frT_up
    have hS1 : rpN (up2 V1 153 (5 * i) v) 0 S := rpN_of hS (by rw [up2_r (by omega), x1.2.1 149 (by omega)])
    rcases M_args (x := 5 * i + 1) (y := ((5 * i : Nat) : Int) + 1) (v := v) hF (x1.1.up (k := 153) (i := 5 * i) (z := v) (by omega) (by omega)) o1 hS1 ho (by omega) (by omega) (by omega) with ⟨V2, p, e2, o2, g2, x2, er2, f2, k2, pv, a2, b2⟩ | ⟨V2, e, e2, g2, x2⟩
    · rw [e2, g2, bd2_s, if_neg (show ¬ nrm 1 = 0 by decide +kernel)]
      have er2' : V2 148 5 = V 148 5 ∧ V2 148 6 = V 148 6 := ⟨by rw [er2.1, up2_r (by omega), x1.2.2 5 (by omega) (by omega) (by omega) (by omega)], by rw [er2.2, up2_r (by omega), x1.2.2 6 (by omega) (by omega) (by omega) (by omega)]⟩
      rcases M_semicolon hF x2 o2 with ⟨V3, t3, e3, o3, g3, x3⟩ | ⟨V3, e, e3, g3, x3⟩
      · rw [g3, bd2_s, if_neg (show ¬ nrm 1 = 0 by decide +kernel)]
        have hspec : sb (.inr p : PE (Cm × Tk)) (fun p => sb (sSem F N p.2) (fun t' => .inr (p.1, t'))) = (.inr (p.1, t3) : PE (Cm × Tk)) := by
          simp only [sb]
          rw [e3]
        rw [hspec]
        have f3 : frT V V3 := (f1.tr f2).tr (frT_G x3)
        have k3 : ∀ j, j < 5 * i ∨ 5 * i + 4 < j → V3 153 j = V 153 j := fun j hj => by rw [x3.2.1 153 (by omega), k2 j (by omega), up2_n (by omega), x1.2.1 153 (by omega)]
        have z3 : V3 153 (5 * i) = v := by rw [x3.2.1 153 (by omega), k2 _ (by omega), up2_s]
        have hlen : (cs ++ [p.1]).length = cs.length + 1 := by simp
        have hC3 : MC V3 (cs ++ [p.1]) := by
          intro j y hj
          by_cases z : j < cs.length
          · rw [List.getElem?_append_left z] at hj
            have := hC j y hj
            rw [k3 _ (by omega), k3 _ (by omega), k3 _ (by omega), k3 _ (by omega), k3 _ (by omega)]
            exact this
          · rw [List.getElem?_append_right (by omega)] at hj
            have hz : j = cs.length := by
              have := (List.getElem?_eq_some_iff.mp hj).1
              simp at this; omega
            subst hz
            rw [Nat.sub_self] at hj
            have hy : y = p.1 := by simpa using hj.symm
            subst hy
            rw [← hi, pv, z3, x3.2.1 153 (by omega)]
            exact ⟨rfl, a2, b2⟩
        have hI := ih m (cs ++ [p.1]) t3 V3 (by omega) (by omega) (by omega) x3.1 o3 (rpN_of hS (by rw [f3.1 149 (by omega) (by omega)])) hC3
        rw [hlen, Int.natCast_add, Int.natCast_one] at hI
        rcases hI with ⟨V4, cs', b1, b3, b4, b5, b6⟩ | ⟨V4, e, b1, b3, b4⟩
        · left
          exact ⟨V4, cs', b1, b3, ⟨by rw [b4.1, x3.2.2 5 (by omega) (by omega) (by omega) (by omega), er2'.1], by rw [b4.2, x3.2.2 6 (by omega) (by omega) (by omega) (by omega), er2'.2]⟩, f3.tr b5, b6⟩
        · right
          exact ⟨V4, e, b1, b3, b4.1, b4.2.1, f3.tr b4.2.2⟩
      · right
        rw [g3, bd2_s, if_pos (show nrm 0 = 0 by decide +kernel)]
        refine ⟨V3, e, ?_, rfl, tE_of (f1.tr f2) x3⟩
        simp only [sb]
        rw [e3]
    · right
      rw [e2, g2, bd2_s, if_pos (show nrm 0 = 0 by decide +kernel)]
      exact ⟨V2, e, rfl, rfl, x2.1, x2.2.1, f1.tr x2.2.2⟩
theorem M_parseScript {V : VV} {F : Nat → Int} {N : Nat} {S : Su} (hF : okF F N) (ho : okS S) (h : MT V F N (tok F N 0)) (hS : rpN V 0 S) : (∃ (V' : VV) (cs : List Cm), sScript F N S 31 [] (tok F N 0) = .inr cs ∧ f6_parseScript V = some ((cs.length : Int), V') ∧ (V' 148 5 = V 148 5 ∧ V' 148 6 = V 148 6) ∧ frT V V' ∧ MC V' cs) ∨ ∃ (V' : VV) (e : Int × Int), sScript F N S 31 [] (tok F N 0) = .inl e ∧ f6_parseScript V = some (-1, V') ∧ tE V V' e :=
  M_scL hF ho 31 FU [] (tok F N 0) V (by have := FU_ge; omega) rfl (by simp) h (tok_ok (Nat.zero_le _)) hS (fun i c hc => by simp at hc)
