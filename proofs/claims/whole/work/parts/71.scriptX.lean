/-! scripts: the class reads them -/
abbrev Cm : Type := Int × Int × Int × Int × Int
def vrb (F : Nat → Int) (t : Tk) : Int := if isW F 3 t = true then 0 else if isW F 4 t = true then 1 else if isW F 5 t = true then 2 else if isW F 6 t = true then 3 else if isW F 7 t = true then 4 else if isW F 8 t = true then 5 else if isW F 9 t = true then 6 else -1
theorem vrb_rg {F : Nat → Int} {t : Tk} : -1 ≤ vrb F t ∧ vrb F t ≤ 6 := by
  unfold vrb
  (repeat' split) <;> omega
def sShW (F : Nat → Int) (N : Nat) (S : Su) (t : Tk) : PE ((Int × Int) × Tk) := if t.1 = 1 then (if shN F t.2.1 (t.2.2 - t.2.1) S.2.2 0 = -1 then .inl (3, t.2.1) else if isW F 10 (nxk F N t) = true then .inr ((shN F t.2.1 (t.2.2 - t.2.1) S.2.2 0, 1), nxk F N (nxk F N t)) else if isW F 11 (nxk F N t) = true then .inr ((shN F t.2.1 (t.2.2 - t.2.1) S.2.2 0, 0), nxk F N (nxk F N t)) else .inl (1, (nxk F N t).2.1)) else .inl (1, t.2.1)
def sTl (F : Nat → Int) (N : Nat) (v : Int) (t : Tk) : PE ((Int × Int) × Tk) := sb (sNum F 0 9999 t) (fun f => if v = 1 ∨ v = 3 then sb (sNum F 0 9999 (nxk F N t)) (fun g => .inr ((f, g), nxk F N (nxk F N t))) else .inr ((f, 0), nxk F N t))
def sArg (F : Nat → Int) (N : Nat) (S : Su) (v : Int) (t : Tk) : PE (Cm × Tk) := if v ≤ 1 then sb (sShW F N S t) (fun p => sb (sTl F N v p.2) (fun r => .inr ((v, p.1.1, p.1.2, r.1.1, r.1.2), r.2))) else sb (sTl F N v t) (fun r => .inr ((v, 0, 0, r.1.1, r.1.2), r.2))
def sCmd (F : Nat → Int) (N : Nat) (S : Su) (k : Nat) (t : Tk) : PE (Cm × Tk) := if vrb F t = -1 then .inl (1, t.2.1) else if k = 30 then .inl (4, t.2.1) else sb (sArg F N S (vrb F t) (nxk F N t)) (fun p => sb (sSem F N p.2) (fun t' => .inr (p.1, t')))
def sScript (F : Nat → Int) (N : Nat) (S : Su) : Nat → List Cm → Tk → PE (List Cm)
  | 0, cs, _ => .inr cs
  | n + 1, cs, t => if t.1 = 0 then .inr cs else sb (sCmd F N S cs.length t) (fun p => sScript F N S n (cs ++ [p.1]) p.2)
def okCm (S : Su) (c : Cm) : Prop := (0 ≤ c.1 ∧ c.1 ≤ 6) ∧ (c.1 ≤ 1 → isSp S c.2.1 ∧ (c.2.2.1 = 0 ∨ c.2.2.1 = 1)) ∧ (0 ≤ c.2.2.2.1 ∧ c.2.2.2.1 ≤ 9999) ∧ (0 ≤ c.2.2.2.2 ∧ c.2.2.2.2 ≤ 9999)
def XC (V : VV) (cs : List Cm) : Prop := V 3 0 = (cs.length : Int) ∧ ∀ (i : Nat) (c : Cm), cs[i]? = some c → V 4 i = c.1 ∧ (c.1 ≤ 1 → V 5 i = c.2.1 ∧ V 6 i = c.2.2.1) ∧ V 7 i = c.2.2.2.1 ∧ (c.1 = 1 ∨ c.1 = 3 → V 8 i = c.2.2.2.2)
def frC (V V' : VV) : Prop := ∀ k, k ≠ 1 → ¬ (3 ≤ k ∧ k < 9) → V' k = V k
theorem frC.tr {V V' V'' : VV} (h : frC V V') (h2 : frC V' V'') : frC V V'' := fun k a b => (h2 k a b).trans (h k a b)
theorem frC.rf {V : VV} : frC V V := fun _ _ _ => rfl
theorem frC_of {V V' : VV} (h : ∀ k, k ≠ 1 → V' k = V k) : frC V V' := fun k a _ => h k a
theorem frC_up {V : VV} {k i : Nat} {z : Int} (h : 3 ≤ k ∧ k < 9) : frC V (up2 V k i z) := fun c _ h2 => up2_r (fun e => h2 (e ▸ h))
def cE (V V' : VV) (e : Int × Int) : Prop := V' 1 2 = e.1 ∧ V' 1 3 = e.2 ∧ frC V V'
theorem cE_of {V V1 V' : VV} {e : Int × Int} (h : frC V V1) (h2 : xE V1 V' e) : cE V V' e := ⟨h2.1, h2.2.1, h.tr (frC_of h2.2.2)⟩
theorem X_verb {V : VV} {F : Nat → Int} {N : Nat} {t : Tk} (hF : okF F N) (h : XT V F N t) (ht : okTk F N t) : f5_verbRead V = some (vrb F t) := by
  have w : ∀ k, k < 12 → 1 ≤ k → f0_isWord V k = some (if isW F k t = true then 1 else 0) := fun k a b => X_isWord hF h ht a b
  unfold f5_verbRead vrb
  rw [w 3 (by decide) (by decide), bd_s]
  by_cases c3 : isW F 3 t = true
  · rw [if_pos c3, if_pos c3, if_neg (by decide +kernel)]
  rw [if_neg c3, if_neg c3, if_pos (by decide +kernel), w 4 (by decide) (by decide), bd_s]
  by_cases c4 : isW F 4 t = true
  · rw [if_pos c4, if_pos c4, if_neg (by decide +kernel)]
  rw [if_neg c4, if_neg c4, if_pos (by decide +kernel), w 5 (by decide) (by decide), bd_s]
  by_cases c5 : isW F 5 t = true
  · rw [if_pos c5, if_pos c5, if_neg (by decide +kernel)]
  rw [if_neg c5, if_neg c5, if_pos (by decide +kernel), w 6 (by decide) (by decide), bd_s]
  by_cases c6 : isW F 6 t = true
  · rw [if_pos c6, if_pos c6, if_neg (by decide +kernel)]
  rw [if_neg c6, if_neg c6, if_pos (by decide +kernel), w 7 (by decide) (by decide), bd_s]
  by_cases c7 : isW F 7 t = true
  · rw [if_pos c7, if_pos c7, if_neg (by decide +kernel)]
  rw [if_neg c7, if_neg c7, if_pos (by decide +kernel), w 8 (by decide) (by decide), bd_s]
  by_cases c8 : isW F 8 t = true
  · rw [if_pos c8, if_pos c8, if_neg (by decide +kernel)]
  rw [if_neg c8, if_neg c8, if_pos (by decide +kernel), w 9 (by decide) (by decide), bd_s]
  by_cases c9 : isW F 9 t = true
  · rw [if_pos c9, if_pos c9, if_neg (by decide +kernel)]
  rw [if_neg c9, if_neg c9, if_pos (by decide +kernel)]
theorem X_readShipAndWay {V : VV} {F : Nat → Int} {N i q : Nat} {t : Tk} {S : Su} (hF : okF F N) (h : XT V F N t) (ht : okTk F N t) (hq : q < 2) (h2 : (V 0 2).toNat = q) (hS : rpS V (aS q) S) (ho : okS S) (hi : i < 30) : (∃ (V' : VV) (p : (Int × Int) × Tk), sShW F N S t = .inr p ∧ okTk F N p.2 ∧ f5_readShipAndWay V (i : Int) = some (1, V') ∧ XT V' F N p.2 ∧ (V' 1 2 = V 1 2 ∧ V' 1 3 = V 1 3) ∧ (V' 5 i = p.1.1 ∧ V' 6 i = p.1.2) ∧ ((∀ k, k ≠ 1 → k ≠ 5 → k ≠ 6 → V' k = V k) ∧ ∀ j, j ≠ i → V' 5 j = V 5 j ∧ V' 6 j = V 6 j) ∧ isSp S p.1.1 ∧ (p.1.2 = 0 ∨ p.1.2 = 1)) ∨ ∃ (V' : VV) (e : Int × Int), sShW F N S t = .inl e ∧ f5_readShipAndWay V (i : Int) = some (0, V') ∧ cE V V' e := by
  have hN := hF.1
  have ht1 := ht.1
  have ht2 := ht.2.1
  have ht3 := ht.2.2.1
  have hsl := ho.2.2.1
  have hln : V 1 6 - V 1 5 = ((t.2.2 - t.2.1 : Nat) : Int) := by rw [h.2.2.2.2, h.2.2.2.1]; omega
  unfold f5_readShipAndWay sShW
  rw [h.2.2.1, hln, h2, nrm_of (z := (t.1 : Int)) (by omega) (by omega), nrm_of (z := 1) (by omega) (by omega)]
  by_cases c : t.1 = 1
  · rw [if_pos c, if_pos (show (t.1 : Int) = 1 by omega), ck_t hq, h.2.2.2.1, X_shipNamed hq hS hsl.2 ho.2.2.2 (by omega) (fun j hj => by rw [h.2.1 _ (by omega)]; exact wB_in _), bd_s, shN_eq (F' := F) ho.2.2.2 (fun j hj => ⟨h.2.1 _ (by omega), hF.2 _ (by omega)⟩)]
    have hrg := shN_rg (F := F) (fr := t.2.1) (len := t.2.2 - t.2.1) (l := S.2.2) (i := 0)
    generalize shN F t.2.1 (t.2.2 - t.2.1) S.2.2 0 = z at *
    by_cases c3 : z = -1
    · right
      obtain ⟨V', g1, g2⟩ := X_fail2 (c := 3) h
      refine ⟨V', _, if_pos c3, ?_, cE_of frC.rf g2⟩
      rw [if_pos (show nrm z = nrm (-1) by rw [c3]), g1]
    · rw [if_neg c3, if_neg (show ¬ nrm z = nrm (-1) by rw [nrm_of (by omega) (by omega), nrm_of (by omega) (by omega)]; exact c3), ck_t (by omega), Int.toNat_natCast]
      have xt0 : XT (up2 V 5 i z) F N t := h.up (by omega) (by omega)
      obtain ⟨V1, g1, x1, -⟩ := X_nx hF xt0 ht
      have o1 : okTk F N (nxk F N t) := nx_ok ht
      have f1 : frC V V1 := (frC_up (by omega)).tr (frC_of x1.2.1)
      rw [g1, bd_s, X_isWord hF x1.1 o1 (by decide) (by decide), bd_s, X_isWord hF x1.1 o1 (by decide) (by decide), bd_s]
      generalize nxk F N t = t1 at *
      have ends : ∀ w : Int, (w = 0 ∨ w = 1) → ∃ V' : VV, ck (w = 0 ∨ w = 1) (bd (f0_readToken (up2 V1 6 i w)) (fun W25 => some ((1 : Int), W25))) = some (1, V') ∧ XT V' F N (nxk F N t1) ∧ (V' 1 2 = V 1 2 ∧ V' 1 3 = V 1 3) ∧ (V' 5 i = z ∧ V' 6 i = w) ∧ ((∀ k, k ≠ 1 → k ≠ 5 → k ≠ 6 → V' k = V k) ∧ ∀ j, j ≠ i → V' 5 j = V 5 j ∧ V' 6 j = V 6 j) := by
        intro w hw
        obtain ⟨V2, g2, x2, -⟩ := X_nx hF (x1.1.up (k := 6) (i := i) (z := w) (by omega) (by omega)) o1
        refine ⟨V2, by rw [ck_t hw, g2, bd_s], x2.1, ⟨?_, ?_⟩, ⟨?_, ?_⟩, fun k k1 k2 k3 => ?_, fun j hj => ⟨?_, ?_⟩⟩
        · rw [x2.2.2.1, up2_r (by omega), x1.2.2.1, up2_r (by omega)]
        · rw [x2.2.2.2, up2_r (by omega), x1.2.2.2, up2_r (by omega)]
        · rw [x2.2.1 5 (by omega), up2_r (by omega), x1.2.1 5 (by omega), up2_s]
        · rw [x2.2.1 6 (by omega), up2_s]
        · rw [x2.2.1 k k1, up2_r k3, x1.2.1 k k1, up2_r k2]
        · rw [x2.2.1 5 (by omega), up2_r (by omega), x1.2.1 5 (by omega), up2_n (by omega)]
        · rw [x2.2.1 6 (by omega), up2_n (by omega), x1.2.1 6 (by omega), up2_r (by omega)]
      by_cases c10 : isW F 10 t1 = true
      · left
        obtain ⟨V2, g2, x2, a1, a2, a3⟩ := ends 1 (Or.inr rfl)
        rw [if_pos c10, if_pos c10, if_neg (show ¬ nrm 1 = 0 by decide +kernel)]
        exact ⟨V2, _, rfl, nx_ok o1, g2, x2, a1, a2, a3, ⟨by show 0 ≤ z; omega, by show z < _; omega⟩, Or.inr rfl⟩
      · rw [if_neg c10, if_neg c10, if_pos (show nrm 0 = 0 by decide +kernel)]
        by_cases c11 : isW F 11 t1 = true
        · left
          obtain ⟨V2, g2, x2, a1, a2, a3⟩ := ends 0 (Or.inl rfl)
          rw [if_pos c11, if_pos c11, if_neg (show ¬ nrm 1 = 0 by decide +kernel)]
          exact ⟨V2, _, rfl, nx_ok o1, g2, x2, a1, a2, a3, ⟨by show 0 ≤ z; omega, by show z < _; omega⟩, Or.inl rfl⟩
        · right
          obtain ⟨V', q1, q2⟩ := X_fail2 (c := 1) x1.1
          rw [if_neg c11, if_neg c11, if_pos (show nrm 0 = 0 by decide +kernel), q1]
          exact ⟨V', _, rfl, rfl, cE_of f1 q2⟩
  · right
    obtain ⟨V', g1, g2⟩ := X_fail2 (c := 1) h
    refine ⟨V', _, if_neg c, ?_, cE_of frC.rf g2⟩
    rw [if_neg (show ¬ (t.1 : Int) = 1 by omega), g1]
/-- the end of a command: its numbers and its semicolon -/
def xtl (c r2 : Int) (W : VV) : Option (Int × VV) := bd2 (f0_takeNumber W 0 9999) (fun r22 W23 => (if nrm r22 = 0 then some (0, W23) else (if nrm r2 = nrm 3 then bd2 (f0_takeNumber (up2 W23 7 (Int.toNat c) (W23 1 7)) 0 9999) (fun r27 W28 => (if nrm r27 = 0 then some (0, W28) else bd2 (f0_takeSemicolon (up2 (up2 W28 8 (Int.toNat c) (W28 1 7)) 3 0 (((up2 W28 8 (Int.toNat c) (W28 1 7)) 3 0) + 1))) (fun r31 W32 => ck (r31 = 0 ∨ r31 = 1) (some (r31, W32))))) else (if nrm r2 = nrm 1 then bd2 (f0_takeNumber (up2 W23 7 (Int.toNat c) (W23 1 7)) 0 9999) (fun r36 W37 => (if nrm r36 = 0 then some (0, W37) else bd2 (f0_takeSemicolon (up2 (up2 W37 8 (Int.toNat c) (W37 1 7)) 3 0 (((up2 W37 8 (Int.toNat c) (W37 1 7)) 3 0) + 1))) (fun r40 W41 => ck (r40 = 0 ∨ r40 = 1) (some (r40, W41))))) else bd2 (f0_takeSemicolon (up2 (up2 (up2 W23 7 (Int.toNat c) (W23 1 7)) 8 (Int.toNat c) ((up2 W23 7 (Int.toNat c) (W23 1 7)) 1 7)) 3 0 (((up2 (up2 W23 7 (Int.toNat c) (W23 1 7)) 8 (Int.toNat c) ((up2 W23 7 (Int.toNat c) (W23 1 7)) 1 7)) 3 0) + 1))) (fun r44 W45 => ck (r44 = 0 ∨ r44 = 1) (some (r44, W45)))))))
theorem X_cmd_eq {V : VV} : f5_readCommand V = bd (f5_verbRead V) (fun r2 => (if nrm r2 = nrm (-1) then bd2 (f0_fail V 1) (fun r5 W6 => ck (r5 = 0 ∨ r5 = 1) (some (r5, W6))) else (if nrm (V 3 0) = nrm 30 then bd2 (f0_fail V 4) (fun r10 W11 => ck (r10 = 0 ∨ r10 = 1) (some (r10, W11))) else ck ((0:Int) ≤ (V 3 0) ∧ (V 3 0) < 30) (bd (f0_readToken (up2 V 4 (Int.toNat (V 3 0)) r2)) (fun W15 => (if nrm r2 = 0 then bd2 (f5_readShipAndWay W15 (V 3 0)) (fun r18 W19 => (if nrm r18 = 0 then some (0, W19) else xtl (V 3 0) r2 W19)) else (if nrm r2 = nrm 1 then bd2 (f5_readShipAndWay W15 (V 3 0)) (fun r49 W50 => (if nrm r49 = 0 then some (0, W50) else xtl (V 3 0) r2 W50)) else xtl (V 3 0) r2 W15))))))) := rfl
theorem X_xtl {W : VV} {F : Nat → Int} {N i : Nat} {t : Tk} {v : Int} (hF : okF F N) (h : XT W F N t) (ht : okTk F N t) (hv : 0 ≤ v ∧ v ≤ 6) (hi : i < 30) (h3 : W 3 0 = (i : Int)) : (∃ (V' : VV) (r : (Int × Int) × Tk) (t' : Tk), sTl F N v t = .inr r ∧ sSem F N r.2 = .inr t' ∧ okTk F N t' ∧ xtl (i : Int) v W = some (1, V') ∧ XT V' F N t' ∧ (V' 1 2 = W 1 2 ∧ V' 1 3 = W 1 3) ∧ (V' 7 i = r.1.1 ∧ (v = 1 ∨ v = 3 → V' 8 i = r.1.2) ∧ V' 3 0 = (i : Int) + 1) ∧ ((∀ k, k ≠ 1 → k ≠ 3 → k ≠ 7 → k ≠ 8 → V' k = W k) ∧ ∀ j, j ≠ i → V' 7 j = W 7 j ∧ V' 8 j = W 8 j) ∧ (0 ≤ r.1.1 ∧ r.1.1 ≤ 9999) ∧ (0 ≤ r.1.2 ∧ r.1.2 ≤ 9999)) ∨ ∃ (V' : VV) (e : Int × Int), sb (sTl F N v t) (fun r => sb (sSem F N r.2) (fun t' => .inr (r.1, t'))) = (.inl e : PE ((Int × Int) × Tk)) ∧ xtl (i : Int) v W = some (0, V') ∧ cE W V' e := by
  unfold xtl sTl
  rcases X_takeNumber (lo := 0) (hi := 9999) hF h ht (by constructor <;> constructor <;> omega) with ⟨V1, f, e1, g1, x1, m1, b1⟩ | ⟨V1, e, e1, g1, x1⟩
  · have hsn : ∀ (q : Int → PE ((Int × Int) × Tk)), sb (.inr f : PE Int) q = q f := fun _ => rfl
    rw [g1, bd2_s, if_neg (show ¬ nrm 1 = 0 by decide +kernel), m1, e1, hsn, Int.toNat_natCast, nrm_of (z := v) (by omega) (by omega), nrm_of (z := 3) (by omega) (by omega), nrm_of (z := 1) (by omega) (by omega)]
    obtain ⟨U1, hU1⟩ : ∃ U, U = up2 V1 7 i f := ⟨_, rfl⟩
    have xU1 : XT U1 F N (nxk F N t) := by rw [hU1]; exact x1.1.up (by omega) (by omega)
    have fU1 : frC W U1 := by rw [hU1]; exact (frC_of x1.2.1).tr (frC_up (by omega))
    rw [← hU1]
    have two : (∃ (V' : VV) (r : (Int × Int) × Tk) (t' : Tk), sb (sNum F 0 9999 (nxk F N t)) (fun g => .inr ((f, g), nxk F N (nxk F N t))) = .inr r ∧ sSem F N r.2 = .inr t' ∧ okTk F N t' ∧ bd2 (f0_takeNumber U1 0 9999) (fun r27 W28 => (if nrm r27 = 0 then some (0, W28) else bd2 (f0_takeSemicolon (up2 (up2 W28 8 i (W28 1 7)) 3 0 (((up2 W28 8 i (W28 1 7)) 3 0) + 1))) (fun r31 W32 => ck (r31 = 0 ∨ r31 = 1) (some (r31, W32))))) = some (1, V') ∧ XT V' F N t' ∧ (V' 1 2 = W 1 2 ∧ V' 1 3 = W 1 3) ∧ (V' 7 i = r.1.1 ∧ (v = 1 ∨ v = 3 → V' 8 i = r.1.2) ∧ V' 3 0 = (i : Int) + 1) ∧ ((∀ k, k ≠ 1 → k ≠ 3 → k ≠ 7 → k ≠ 8 → V' k = W k) ∧ ∀ j, j ≠ i → V' 7 j = W 7 j ∧ V' 8 j = W 8 j) ∧ (0 ≤ r.1.1 ∧ r.1.1 ≤ 9999) ∧ (0 ≤ r.1.2 ∧ r.1.2 ≤ 9999)) ∨ ∃ (V' : VV) (e : Int × Int), sb (sb (sNum F 0 9999 (nxk F N t)) (fun g => .inr ((f, g), nxk F N (nxk F N t)))) (fun r => sb (sSem F N r.2) (fun t' => .inr (r.1, t'))) = (.inl e : PE ((Int × Int) × Tk)) ∧ bd2 (f0_takeNumber U1 0 9999) (fun r27 W28 => (if nrm r27 = 0 then some (0, W28) else bd2 (f0_takeSemicolon (up2 (up2 W28 8 i (W28 1 7)) 3 0 (((up2 W28 8 i (W28 1 7)) 3 0) + 1))) (fun r31 W32 => ck (r31 = 0 ∨ r31 = 1) (some (r31, W32))))) = some (0, V') ∧ cE W V' e := by
      rcases X_takeNumber (lo := 0) (hi := 9999) hF xU1 (nx_ok ht) (by constructor <;> constructor <;> omega) with ⟨V2, g, e2, g2, x2, m2, b2⟩ | ⟨V2, e, e2, g2, x2⟩
      · rw [g2, bd2_s, if_neg (show ¬ nrm 1 = 0 by decide +kernel), m2, e2]
        have c2 : (up2 V2 8 i g) 3 0 = (i : Int) := by rw [up2_r (by omega), x2.2.1 3 (by omega), hU1, up2_r (by omega), x1.2.1 3 (by omega), h3]
        rw [c2]
        obtain ⟨U2, hU2⟩ : ∃ U, U = up2 (up2 V2 8 i g) 3 0 ((i : Int) + 1) := ⟨_, rfl⟩
        have xU2 : XT U2 F N (nxk F N (nxk F N t)) := by rw [hU2]; exact (x2.1.up (by omega) (by omega)).up (by omega) (by omega)
        have fU2 : frC W U2 := by rw [hU2]; exact ((fU1.tr (frC_of x2.2.1)).tr (frC_up (by omega))).tr (frC_up (by omega))
        rw [← hU2]
        rcases X_takeSemicolon hF xU2 (nx_ok (nx_ok ht)) with ⟨V3, t3, e3, o3, g3, x3⟩ | ⟨V3, e, e3, g3, x3⟩
        · left
          refine ⟨V3, ((f, g), nxk F N (nxk F N t)), t3, rfl, e3, o3, by rw [g3, bd2_s, ck_t (Or.inr rfl)], x3.1, ⟨?_, ?_⟩, ⟨?_, fun _ => ?_, ?_⟩, ⟨fun k k1 k2 k3 k4 => ?_, fun j hj => ⟨?_, ?_⟩⟩, b1, b2⟩
          · rw [x3.2.2.1, hU2, up2_r (by omega), up2_r (by omega), x2.2.2.1, hU1, up2_r (by omega), x1.2.2.1]
          · rw [x3.2.2.2, hU2, up2_r (by omega), up2_r (by omega), x2.2.2.2, hU1, up2_r (by omega), x1.2.2.2]
          · rw [x3.2.1 7 (by omega), hU2, up2_r (by omega), up2_r (by omega), x2.2.1 7 (by omega), hU1, up2_s]
          · rw [x3.2.1 8 (by omega), hU2, up2_r (by omega), up2_s]
          · rw [x3.2.1 3 (by omega), hU2, up2_s]
          · rw [x3.2.1 k k1, hU2, up2_r k2, up2_r k4, x2.2.1 k k1, hU1, up2_r k3, x1.2.1 k k1]
          · rw [x3.2.1 7 (by omega), hU2, up2_r (by omega), up2_r (by omega), x2.2.1 7 (by omega), hU1, up2_n (by omega), x1.2.1 7 (by omega)]
          · rw [x3.2.1 8 (by omega), hU2, up2_r (by omega), up2_n (by omega), x2.2.1 8 (by omega), hU1, up2_r (by omega), x1.2.1 8 (by omega)]
        · right
          refine ⟨V3, e, ?_, by rw [g3, bd2_s, ck_t (Or.inl rfl)], cE_of fU2 x3⟩
          simp only [sb]
          rw [e3]
      · right
        rw [g2, bd2_s, if_pos (show nrm 0 = 0 by decide +kernel), e2]
        exact ⟨V2, e, rfl, rfl, cE_of fU1 x2⟩
    by_cases c3 : v = 3
    · rw [if_pos c3, if_pos (Or.inr c3)]
      exact two
    · rw [if_neg c3]
      by_cases c1 : v = 1
      · rw [if_pos c1, if_pos (Or.inl c1)]
        exact two
      · rw [if_neg c1, if_neg (fun q => q.elim c1 c3)]
        have m7 : U1 1 7 = f := by rw [hU1, up2_r (by omega), m1]
        have c2 : (up2 U1 8 i f) 3 0 = (i : Int) := by rw [up2_r (by omega), hU1, up2_r (by omega), x1.2.1 3 (by omega), h3]
        rw [m7, c2]
        obtain ⟨U2, hU2⟩ : ∃ U, U = up2 (up2 U1 8 i f) 3 0 ((i : Int) + 1) := ⟨_, rfl⟩
        have xU2 : XT U2 F N (nxk F N t) := by rw [hU2]; exact (xU1.up (by omega) (by omega)).up (by omega) (by omega)
        have fU2 : frC W U2 := by rw [hU2]; exact (fU1.tr (frC_up (by omega))).tr (frC_up (by omega))
        rw [← hU2]
        rcases X_takeSemicolon hF xU2 (nx_ok ht) with ⟨V3, t3, e3, o3, g3, x3⟩ | ⟨V3, e, e3, g3, x3⟩
        · left
          refine ⟨V3, ((f, 0), nxk F N t), t3, rfl, e3, o3, by rw [g3, bd2_s, ck_t (Or.inr rfl)], x3.1, ⟨?_, ?_⟩, ⟨?_, fun q => absurd q (fun q => q.elim c1 c3), ?_⟩, ⟨fun k k1 k2 k3 k4 => ?_, fun j hj => ⟨?_, ?_⟩⟩, b1, by show (0 : Int) ≤ 0 ∧ (0 : Int) ≤ 9999; omega⟩
          · rw [x3.2.2.1, hU2, up2_r (by omega), up2_r (by omega), hU1, up2_r (by omega), x1.2.2.1]
          · rw [x3.2.2.2, hU2, up2_r (by omega), up2_r (by omega), hU1, up2_r (by omega), x1.2.2.2]
          · rw [x3.2.1 7 (by omega), hU2, up2_r (by omega), up2_r (by omega), hU1, up2_s]
          · rw [x3.2.1 3 (by omega), hU2, up2_s]
          · rw [x3.2.1 k k1, hU2, up2_r k2, up2_r k4, hU1, up2_r k3, x1.2.1 k k1]
          · rw [x3.2.1 7 (by omega), hU2, up2_r (by omega), up2_r (by omega), hU1, up2_n (by omega), x1.2.1 7 (by omega)]
          · rw [x3.2.1 8 (by omega), hU2, up2_r (by omega), up2_n (by omega), hU1, up2_r (by omega), x1.2.1 8 (by omega)]
        · right
          refine ⟨V3, e, ?_, by rw [g3, bd2_s, ck_t (Or.inl rfl)], cE_of fU2 x3⟩
          simp only [sb]
          rw [e3]
  · right
    rw [g1, bd2_s, if_pos (show nrm 0 = 0 by decide +kernel), e1]
    exact ⟨V1, e, rfl, rfl, cE_of frC.rf x1⟩
theorem X_readCommand {V : VV} {F : Nat → Int} {N q : Nat} {t : Tk} {S : Su} {cs : List Cm} (hF : okF F N) (h : XT V F N t) (ht : okTk F N t) (hq : q < 2) (h2 : (V 0 2).toNat = q) (hS : rpS V (aS q) S) (ho : okS S) (hC : XC V cs) (hl : cs.length ≤ 30) : (∃ (V' : VV) (p : Cm × Tk), sCmd F N S cs.length t = .inr p ∧ cs.length < 30 ∧ okTk F N p.2 ∧ f5_readCommand V = some (1, V') ∧ XT V' F N p.2 ∧ (V' 1 2 = V 1 2 ∧ V' 1 3 = V 1 3) ∧ XC V' (cs ++ [p.1]) ∧ frC V V' ∧ okCm S p.1) ∨ ∃ (V' : VV) (e : Int × Int), sCmd F N S cs.length t = .inl e ∧ f5_readCommand V = some (0, V') ∧ cE V V' e := by
  have hvr := vrb_rg (F := F) (t := t)
  have ha : ∀ j, aS q + j ≠ 1 ∧ ¬ (3 ≤ aS q + j ∧ aS q + j < 9) := fun j => by unfold aS; omega
  have ha0 : aS q ≠ 1 ∧ ¬ (3 ≤ aS q ∧ aS q < 9) := by unfold aS; omega
  rw [X_cmd_eq, X_verb hF h ht, bd_s]
  unfold sCmd
  generalize vrb F t = v at *
  rw [hC.1, nrm_of (z := v) (by omega) (by omega), nrm_of (z := -1) (by omega) (by omega), nrm_of (z := (cs.length : Int)) (by omega) (by omega), nrm_of (z := 30) (by omega) (by omega)]
  by_cases c : v = -1
  · right
    obtain ⟨V', g1, g2⟩ := X_fail2 (c := 1) h
    rw [if_pos c, if_pos c, g1]
    exact ⟨V', _, rfl, rfl, cE_of frC.rf g2⟩
  rw [if_neg c, if_neg c]
  by_cases c2 : cs.length = 30
  · right
    obtain ⟨V', g1, g2⟩ := X_fail2 (c := 4) h
    rw [if_pos c2, if_pos (show (cs.length : Int) = 30 by omega), g1]
    exact ⟨V', _, rfl, rfl, cE_of frC.rf g2⟩
  obtain ⟨i, hi⟩ : ∃ i, i = cs.length := ⟨_, rfl⟩
  rw [if_neg c2, if_neg (show ¬ (cs.length : Int) = 30 by omega), ck_t (by omega), Int.toNat_natCast, ← hi]
  obtain ⟨V1, g1, x1, -⟩ := X_nx hF (h.up (k := 4) (i := i) (z := v) (by omega) (by omega)) ht
  have o1 : okTk F N (nxk F N t) := nx_ok ht
  rw [g1, bd_s]
  generalize nxk F N t = t1 at *
  have f1 : frC V V1 := (frC_up (by omega)).tr (frC_of x1.2.1)
  have er1 : V1 1 2 = V 1 2 ∧ V1 1 3 = V 1 3 := ⟨by rw [x1.2.2.1, up2_r (by omega)], by rw [x1.2.2.2, up2_r (by omega)]⟩
  have k1 : ∀ k, k ≠ 1 → k ≠ 4 → V1 k = V k := fun k a b => by rw [x1.2.1 k a, up2_r b]
  have v4 : V1 4 i = v := by rw [x1.2.1 4 (by omega), up2_s]
  have v4n : ∀ j, j ≠ i → V1 4 j = V 4 j := fun j hj => by rw [x1.2.1 4 (by omega), up2_n (by omega)]
  -- the record behind a whole command
  have rcd : ∀ (V' : VV) (cm : Cm), cm.1 = v → V' 3 0 = (i : Int) + 1 → (∀ j, V' 4 j = V1 4 j) → (v ≤ 1 → V' 5 i = cm.2.1 ∧ V' 6 i = cm.2.2.1) → V' 7 i = cm.2.2.2.1 → (v = 1 ∨ v = 3 → V' 8 i = cm.2.2.2.2) → (∀ j, j ≠ i → V' 5 j = V 5 j ∧ V' 6 j = V 6 j ∧ V' 7 j = V 7 j ∧ V' 8 j = V 8 j) → XC V' (cs ++ [cm]) := by
    intro V' cm r1 r2 r3 r4 r5 r6 r7
    refine ⟨by rw [r2, List.length_append, ← hi]; simp, fun j x hj => ?_⟩
    by_cases z : j < cs.length
    · rw [List.getElem?_append_left z] at hj
      obtain ⟨q1, q2, q3, q4⟩ := hC.2 j x hj
      obtain ⟨s1, s2, s3, s4⟩ := r7 j (by omega)
      rw [r3, v4n j (by omega), s1, s2, s3, s4]
      exact ⟨q1, q2, q3, q4⟩
    · rw [List.getElem?_append_right (by omega)] at hj
      have hz : j = cs.length := by
        have := (List.getElem?_eq_some_iff.mp hj).1
        simp at this; omega
      subst hz
      rw [Nat.sub_self] at hj
      have hx : x = cm := by simpa using hj.symm
      subst hx
      rw [← hi, r3, v4, r1]
      exact ⟨rfl, r4, r5, r6⟩
  have hsn : ∀ (α : Type) (z : α) (w : α → PE (Cm × Tk)), sb (.inr z : PE α) w = w z := fun _ _ _ => rfl
  unfold sArg
  by_cases cv : v ≤ 1
  · rw [if_pos cv]
    have c30 : V1 3 0 = (i : Int) := by rw [k1 3 (by omega) (by omega), hC.1, hi]
    have hS1 : rpS V1 (aS q) S := rpS_of ho hS (fun k a b => k1 k (by unfold aS at a; omega) (by unfold aS at a; omega))
    have way : (∃ (V' : VV) (p : Cm × Tk), sb (sb (sShW F N S t1) (fun p => sb (sTl F N v p.2) (fun r => .inr ((v, p.1.1, p.1.2, r.1.1, r.1.2), r.2)))) (fun p => sb (sSem F N p.2) (fun t' => .inr (p.1, t'))) = (.inr p : PE (Cm × Tk)) ∧ i < 30 ∧ okTk F N p.2 ∧ bd2 (f5_readShipAndWay V1 (i : Int)) (fun r18 W19 => (if nrm r18 = 0 then some (0, W19) else xtl (i : Int) v W19)) = some (1, V') ∧ XT V' F N p.2 ∧ (V' 1 2 = V 1 2 ∧ V' 1 3 = V 1 3) ∧ XC V' (cs ++ [p.1]) ∧ frC V V' ∧ okCm S p.1) ∨ ∃ (V' : VV) (e : Int × Int), sb (sb (sShW F N S t1) (fun p => sb (sTl F N v p.2) (fun r => .inr ((v, p.1.1, p.1.2, r.1.1, r.1.2), r.2)))) (fun p => sb (sSem F N p.2) (fun t' => .inr (p.1, t'))) = (.inl e : PE (Cm × Tk)) ∧ bd2 (f5_readShipAndWay V1 (i : Int)) (fun r18 W19 => (if nrm r18 = 0 then some (0, W19) else xtl (i : Int) v W19)) = some (0, V') ∧ cE V V' e := by
      rcases X_readShipAndWay hF x1.1 o1 hq (by rw [k1 0 (by omega) (by omega), h2]) hS1 ho (show i < 30 by omega) with ⟨V2, p, e2, o2, g2, x2, er2, a2, ⟨k2, n2⟩, s2, y2⟩ | ⟨V2, e, e2, g2, x2⟩
      · rw [e2, g2, bd2_s, if_neg (show ¬ nrm 1 = 0 by decide +kernel)]
        rcases X_xtl (v := v) hF x2 o2 (by omega) (show i < 30 by omega) (by rw [k2 3 (by omega) (by omega) (by omega), c30]) with ⟨V3, r, t3, e3, e4, o3, g3, x3, er3, ⟨a3, b3, d3⟩, ⟨k3, n3⟩, y3, z3⟩ | ⟨V3, e, e3, g3, x3⟩
        · left
          refine ⟨V3, ((v, p.1.1, p.1.2, r.1.1, r.1.2), t3), ?_, by omega, o3, g3, x3, ⟨?_, ?_⟩, rcd V3 _ rfl d3 (fun j => by rw [k3 4 (by omega) (by omega) (by omega) (by omega), k2 4 (by omega) (by omega) (by omega)]) (fun _ => ⟨by rw [k3 5 (by omega) (by omega) (by omega) (by omega)]; exact a2.1, by rw [k3 6 (by omega) (by omega) (by omega) (by omega)]; exact a2.2⟩) a3 b3 (fun j hj => ⟨?_, ?_, ?_, ?_⟩), fun k q1 q2 => ?_, ⟨by show 0 ≤ v ∧ v ≤ 6; omega, fun _ => ⟨s2, y2⟩, y3, z3⟩⟩
          · simp only [sb]
            rw [e3]; simp only
            rw [e4]
          · rw [er3.1, er2.1, er1.1]
          · rw [er3.2, er2.2, er1.2]
          · rw [k3 5 (by omega) (by omega) (by omega) (by omega), (n2 j hj).1, k1 5 (by omega) (by omega)]
          · rw [k3 6 (by omega) (by omega) (by omega) (by omega), (n2 j hj).2, k1 6 (by omega) (by omega)]
          · rw [(n3 j hj).1, k2 7 (by omega) (by omega) (by omega), k1 7 (by omega) (by omega)]
          · rw [(n3 j hj).2, k2 8 (by omega) (by omega) (by omega), k1 8 (by omega) (by omega)]
          · rw [k3 k q1 (by omega) (by omega) (by omega), k2 k q1 (by omega) (by omega), k1 k q1 (by omega)]
        · right
          refine ⟨V3, e, ?_, g3, x3.1, x3.2.1, (f1.tr (fun k q1 q2 => k2 k q1 (by omega) (by omega))).tr x3.2.2⟩
          simp only [sb] at e3 ⊢
          cases hq9 : sTl F N v p.2 with
          | inl e9 => rw [hq9] at e3; simp only at e3 ⊢; rw [Sum.inl.inj e3]
          | inr r9 =>
            rw [hq9] at e3
            simp only at e3 ⊢
            cases hq8 : sSem F N r9.2 with
            | inl e8 => rw [hq8] at e3; simp only at e3 ⊢; rw [Sum.inl.inj e3]
            | inr r8 => rw [hq8] at e3; cases e3
      · right
        rw [e2, g2, bd2_s, if_pos (show nrm 0 = 0 by decide +kernel)]
        exact ⟨V2, e, rfl, rfl, x2.1, x2.2.1, f1.tr x2.2.2⟩
    by_cases c0 : v = 0
    · rw [if_pos c0]
      exact way
    · rw [if_neg c0, if_pos (show v = nrm 1 by rw [nrm_of (by omega) (by omega)]; omega)]
      exact way
  · rw [if_neg cv, if_neg (show ¬ v = 0 by omega), if_neg (show ¬ v = nrm 1 by rw [nrm_of (by omega) (by omega)]; omega)]
    rcases X_xtl (v := v) hF x1.1 o1 (by omega) (show i < 30 by omega) (by rw [k1 3 (by omega) (by omega), hC.1, hi]) with ⟨V3, r, t3, e3, e4, o3, g3, x3, er3, ⟨a3, b3, d3⟩, ⟨k3, n3⟩, y3, z3⟩ | ⟨V3, e, e3, g3, x3⟩
    · left
      refine ⟨V3, ((v, 0, 0, r.1.1, r.1.2), t3), ?_, by omega, o3, g3, x3, ⟨?_, ?_⟩, rcd V3 _ rfl d3 (fun j => by rw [k3 4 (by omega) (by omega) (by omega) (by omega)]) (fun q => absurd q cv) a3 b3 (fun j hj => ⟨?_, ?_, ?_, ?_⟩), fun k q1 q2 => ?_, ⟨by show 0 ≤ v ∧ v ≤ 6; omega, fun q => absurd q cv, y3, z3⟩⟩
      · simp only [sb]
        rw [e3]; simp only
        rw [e4]
      · rw [er3.1, er1.1]
      · rw [er3.2, er1.2]
      · rw [k3 5 (by omega) (by omega) (by omega) (by omega), k1 5 (by omega) (by omega)]
      · rw [k3 6 (by omega) (by omega) (by omega) (by omega), k1 6 (by omega) (by omega)]
      · rw [(n3 j hj).1, k1 7 (by omega) (by omega)]
      · rw [(n3 j hj).2, k1 8 (by omega) (by omega)]
      · rw [k3 k q1 (by omega) (by omega) (by omega), k1 k q1 (by omega)]
    · right
      refine ⟨V3, e, ?_, g3, x3.1, x3.2.1, f1.tr x3.2.2⟩
      simp only [sb] at e3 ⊢
      cases hq9 : sTl F N v t1 with
      | inl e9 => rw [hq9] at e3; simp only at e3 ⊢; rw [Sum.inl.inj e3]
      | inr r9 =>
        rw [hq9] at e3
        simp only at e3 ⊢
        cases hq8 : sSem F N r9.2 with
        | inl e8 => rw [hq8] at e3; simp only at e3 ⊢; rw [Sum.inl.inj e3]
        | inr r8 => rw [hq8] at e3; cases e3
theorem X_scL {F : Nat → Int} {N q : Nat} {S : Su} (hF : okF F N) (hq : q < 2) (ho : okS S) : ∀ (n m : Nat) (cs : List Cm) (t : Tk) (V : VV), n + 1 ≤ m → cs.length + n = 31 → cs.length ≤ 30 → XT V F N t → okTk F N t → (V 0 2).toNat = q → rpS V (aS q) S → XC V cs → (∀ c ∈ cs, okCm S c) → (∃ (V' : VV) (cs' : List Cm), sScript F N S n cs t = .inr cs' ∧ f5_readScript_L17 m (cs.length : Int) V = some (1, V') ∧ (V' 1 2 = V 1 2 ∧ V' 1 3 = V 1 3) ∧ frC V V' ∧ XC V' cs' ∧ cs'.length ≤ 30 ∧ ∀ c ∈ cs', okCm S c) ∨ ∃ (V' : VV) (e : Int × Int), sScript F N S n cs t = .inl e ∧ f5_readScript_L17 m (cs.length : Int) V = some (0, V') ∧ cE V V' e := by
  intro n
  induction n with
  | zero => intro m cs t V _ h1 h2; omega
  | succ n ih =>
    intro m cs t V hm hl hl2 h ht h2 hS hC hok
    obtain ⟨m, rfl⟩ : ∃ q, m = q + 1 := ⟨m - 1, by omega⟩
    have ht3 := ht.2.2.1
    rw [f5_readScript_L17, sScript, h.2.2.1, nrm_of (z := 30) (by omega) (by omega), nrm_of (z := (cs.length : Int)) (by omega) (by omega), nrm_of (z := (t.1 : Int)) (by omega) (by omega), if_neg (show ¬ (30 : Int) < (cs.length : Int) by omega)]
    by_cases c : t.1 = 0
    · left
      rw [if_pos c, if_pos (show (t.1 : Int) = 0 by omega)]
      exact ⟨V, cs, rfl, rfl, ⟨rfl, rfl⟩, frC.rf, hC, hl2, hok⟩
    · rw [if_neg c, if_neg (show ¬ (t.1 : Int) = 0 by omega)]
      rcases X_readCommand hF h ht hq h2 hS ho hC hl2 with ⟨V1, p, e1, l1, o1, g1, x1, er, c1, f1, k1⟩ | ⟨V1, e, e1, g1, x1⟩
      · rw [e1, g1, bd2_s, if_neg (show ¬ nrm 1 = 0 by decide +kernel)]
        have hlen : (cs ++ [p.1]).length = cs.length + 1 := by simp
        have hI := ih m (cs ++ [p.1]) p.2 V1 (by omega) (by omega) (by omega) x1 o1 (by rw [f1 0 (by omega) (by omega), h2]) (rpS_of ho hS (fun k a b => f1 k (by unfold aS at a; omega) (by unfold aS at a; omega))) c1 (fun s hs => by
          rcases List.mem_append.mp hs with q | q
          · exact hok s q
          · rw [List.mem_singleton.mp q]; exact k1)
        rw [hlen, Int.natCast_add, Int.natCast_one] at hI
        rcases hI with ⟨V2, cs', a1, a2, a4, a5, a6, a7⟩ | ⟨V2, e, a1, a2, a3⟩
        · left
          exact ⟨V2, cs', a1, a2, ⟨a4.1.trans er.1, a4.2.trans er.2⟩, f1.tr a5, a6, a7⟩
        · right
          exact ⟨V2, e, a1, a2, a3.1, a3.2.1, f1.tr a3.2.2⟩
      · right
        rw [e1, g1, bd2_s, if_pos (show nrm 0 = 0 by decide +kernel)]
        exact ⟨V1, e, rfl, rfl, x1⟩
theorem X_readScript {V : VV} {F : Nat → Int} {N q : Nat} {S : Su} (hF : okF F N) (h1 : V 1 1 = (N : Int)) (hb : ∀ j, j < N → V 2 j = wB (F j)) (hq : q < 2) (h2 : (V 0 2).toNat = q) (hS : rpS V (aS q) S) (ho : okS S) : (∃ (V' : VV) (cs : List Cm), sScript F N S 31 [] (tok F N 0) = .inr cs ∧ f5_readScript V = some (1, V') ∧ (V' 1 2 = 0 ∧ V' 1 3 = -1) ∧ frC V V' ∧ XC V' cs ∧ cs.length ≤ 30 ∧ ∀ c ∈ cs, okCm S c) ∨ ∃ (V' : VV) (e : Int × Int), sScript F N S 31 [] (tok F N 0) = .inl e ∧ f5_readScript V = some (0, V') ∧ cE V V' e := by
  obtain ⟨W, w1, w2, w3, w4, w5⟩ := X_start hF h1 hb
  have ht0 := tok_ok (F := F) (N := N) (a := 0) (Nat.zero_le _)
  have f0 : frC V (up2 W 3 0 0) := (frC_of w5).tr (frC_up (by omega))
  have hL := X_scL hF hq ho 31 FU [] (tok F N 0) (up2 W 3 0 0) (by have := FU_ge; omega) rfl (by simp) (w2.up (by omega) (by omega)) ht0 (by rw [f0 0 (by omega) (by omega), h2]) (rpS_of ho hS (fun k a b => f0 k (by unfold aS at a; omega) (by unfold aS at a; omega))) ⟨by rw [up2_s]; rfl, fun i c hc => by simp at hc⟩ (fun c hc => absurd hc List.not_mem_nil)
  rw [show ((([] : List Cm).length : Nat) : Int) = 0 from rfl] at hL
  unfold f5_readScript
  rw [w1, bd_s]
  rcases hL with ⟨V2, cs', a1, a2, a4, a5, a6, a7⟩ | ⟨V2, e, a1, a2, a3⟩
  · left
    exact ⟨V2, cs', a1, a2, ⟨by rw [a4.1, up2_r (by omega), w3], by rw [a4.2, up2_r (by omega), w4]⟩, f0.tr a5, a6, a7⟩
  · right
    exact ⟨V2, e, a1, a2, a3.1, a3.2.1, f0.tr a3.2.2⟩
