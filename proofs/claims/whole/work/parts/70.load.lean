/-! load -/
theorem isW_1 {F : Nat → Int} {k : Nat} {t : Tk} (h : isW F k t = true) : t.1 = 1 := by
  unfold isW at h
  rw [Bool.and_eq_true] at h
  exact of_decide_eq_true h.1
theorem M_shL {F : Nat → Int} {N : Nat} {hw cl : Int} (hF : okF F N) : ∀ (n m : Nat) (L : List Sh) (t : Tk) (V : VV), n + 1 ≤ m → L.length + n = 11 → L.length ≤ 10 → MT V F N t → okTk F N t → (L = [] → isW F 2 t = true) → rpN V 0 (hw, cl, L) → (∀ s ∈ L, okSh s) → (∃ (V' : VV) (L' : List Sh), sShips F N n L t = .inr L' ∧ f6_parseSetup_L98 m V = some (1, V') ∧ (V' 148 5 = V 148 5 ∧ V' 148 6 = V 148 6) ∧ frS V V' ∧ rpN V' 0 (hw, cl, L') ∧ V' 149 2 = V 149 2) ∨ ∃ (V' : VV) (e : Int × Int), sShips F N n L t = .inl e ∧ f6_parseSetup_L98 m V = some (0, V') ∧ sE V V' e := by
  intro n
  induction n with
  | zero => intro m L t V _ h1 h2; omega
  | succ n ih =>
    intro m L t V hm hl hl2 h ht hnil hS hok
    obtain ⟨m, rfl⟩ : ∃ q, m = q + 1 := ⟨m - 1, by omega⟩
    have ht3 := ht.2.2.1
    rw [f6_parseSetup_L98, sShips, M_isWord hF h ht (by decide) (by decide), bd_s]
    by_cases c : isW F 2 t = true
    · have c1 := isW_1 c
      rw [if_pos c, if_neg (show ¬ nrm 1 = 0 by decide +kernel), if_neg (show ¬ (L ≠ [] ∧ t.1 = 0) from fun q => by have := q.2; omega)]
      rcases M_parseShip hF h ht c hS hl2 hok with ⟨V1, p, e1, o1, l1, g1, x1, er, f1, s1, t1, k1⟩ | ⟨V1, e, e1, g1, x1⟩
      · rw [e1, g1, bd2_s, if_neg (show ¬ nrm 1 = 0 by decide +kernel)]
        have hlen : (L ++ [p.1]).length = L.length + 1 := by simp
        have hI := ih m (L ++ [p.1]) p.2 V1 (by omega) (by omega) (by omega) x1 o1 (fun q => by simp at q) s1 (fun s hs => by
          rcases List.mem_append.mp hs with q | q
          · exact hok s q
          · rw [List.mem_singleton.mp q]; exact k1)
        rcases hI with ⟨V2, L', a1, a2, a4, a5, a6, a7⟩ | ⟨V2, e, a1, a2, a3⟩
        · left
          exact ⟨V2, L', a1, a2, ⟨a4.1.trans er.1, a4.2.trans er.2⟩, f1.tr a5, a6, a7.trans t1⟩
        · right
          exact ⟨V2, e, a1, a2, a3.1, a3.2.1, f1.tr a3.2.2⟩
      · right
        rw [e1, g1, bd2_s, if_pos (show nrm 0 = 0 by decide +kernel)]
        exact ⟨V1, e, rfl, rfl, x1⟩
    · have hn : L ≠ [] := fun q => c (hnil q)
      rw [if_neg c, if_pos (show nrm 0 = 0 by decide +kernel), h.2.2.1, nrm_of (by omega) (by omega)]
      by_cases c2 : t.1 = 0
      · left
        rw [if_pos (show (t.1 : Int) = 0 by omega), if_pos (show L ≠ [] ∧ t.1 = 0 from ⟨hn, c2⟩)]
        exact ⟨V, L, rfl, rfl, ⟨rfl, rfl⟩, frS.rf, hS, rfl⟩
      · right
        obtain ⟨V', q1, q2⟩ := M_wrong3 (c := 1) h
        rw [if_neg (show ¬ (t.1 : Int) = 0 by omega), if_neg (show ¬ (L ≠ [] ∧ t.1 = 0) from fun q => c2 q.2), q1]
        refine ⟨V', (1, t.2.1), ?_, rfl, sE_of frS.rf q2⟩
        unfold sShip sWord
        rw [if_neg (fun q => c q.2), if_neg c]
        rfl
theorem M_zero : ∀ (k m i : Nat) (V : VV), k + 1 ≤ m → i + k = 230 → ∃ V' : VV, f6_parseSetup_L2 m (i : Int) V = some V' ∧ (∀ c, c ≠ 149 → V' c = V c) ∧ ∀ t, V' 149 t = if i ≤ t ∧ t < 230 then 0 else V 149 t := by
  intro k
  induction k with
  | zero =>
    intro m i V hm hi
    obtain ⟨m, rfl⟩ : ∃ q, m = q + 1 := ⟨m - 1, by omega⟩
    refine ⟨V, ?_, fun _ _ => rfl, fun t => by rw [if_neg (by omega)]⟩
    rw [f6_parseSetup_L2, nrm_of (by omega) (by omega), nrm_of (by omega) (by omega), if_pos (by omega)]
  | succ k ih =>
    intro m i V hm hi
    obtain ⟨m, rfl⟩ : ∃ q, m = q + 1 := ⟨m - 1, by omega⟩
    obtain ⟨V', g1, g2, g3⟩ := ih m (i + 1) (up2 V 149 i 0) (by omega) (by omega)
    rw [Int.natCast_add, Int.natCast_one] at g1
    refine ⟨V', ?_, fun c hc => by rw [g2 c hc, up2_r hc], fun t => ?_⟩
    · rw [f6_parseSetup_L2, nrm_of (by omega) (by omega), nrm_of (by omega) (by omega), if_neg (by omega), ck_t (by omega), Int.toNat_natCast, g1]
    · rw [g3 t]
      by_cases e : t = i
      · subst e; rw [if_neg (by omega), if_pos (by omega), up2_s]
      · by_cases e2 : i + 1 ≤ t ∧ t < 230
        · rw [if_pos e2, if_pos (by omega)]
        · rw [if_neg e2, if_neg (by omega), up2_n (by omega)]
/-- a plan that has just begun -/
def P0 (th : Int) : Pl := (th, 0, 0, 0, 0, [], [])
theorem P0_ok {S : Su} {th : Int} (h : 0 ≤ th ∧ th ≤ 9) : okP S (P0 th) := ⟨h, ⟨Int.le_refl _, by show (0 : Int) ≤ 1200; omega⟩, ⟨by show 0 ≤ 20; omega, by show 0 ≤ 8; omega⟩, fun b hb => absurd hb List.not_mem_nil, fun b hb => absurd hb List.not_mem_nil, List.Pairwise.nil⟩
theorem M_parseSetup {V : VV} {F : Nat → Int} {N : Nat} (hF : okF F N) (h : MT V F N (tok F N 0)) (h5 : V 148 5 = 0) (h6 : V 148 6 = -1) : (∃ (V' : VV) (r : Int × Int × Int × List Sh), sSetup F N = .inr r ∧ f6_parseSetup V = some (1, V') ∧ (V' 148 5 = 0 ∧ V' 148 6 = -1) ∧ ((∀ k, k ≠ 148 → k ≠ 149 → V' k = V k) ∧ (∀ i, i ≠ 5 → i ≠ 6 → i ≠ 10 → i ≠ 11 → i ≠ 12 → i ≠ 13 → V' 148 i = V 148 i) ∧ ∀ t, 230 ≤ t → V' 149 t = V 149 t) ∧ rpN V' 0 (r.1, r.2.1, r.2.2.2) ∧ rpM V' 0 (P0 r.2.2.1)) ∨ ∃ (V' : VV) (e : Int × Int), sSetup F N = .inl e ∧ f6_parseSetup V = some (0, V') ∧ (V' 148 5 = e.1 ∧ V' 148 6 = e.2) ∧ ((∀ k, k ≠ 148 → k ≠ 149 → V' k = V k) ∧ (∀ i, i ≠ 5 → i ≠ 6 → i ≠ 10 → i ≠ 11 → i ≠ 12 → i ≠ 13 → V' 148 i = V 148 i) ∧ ∀ t, 230 ≤ t → V' 149 t = V 149 t) := by
  obtain ⟨W, w1, w2, w3⟩ := M_zero 230 FU 0 V (by have := FU_ge; omega) rfl
  rw [nc0] at w1
  have mW : MT W F N (tok F N 0) := h.of (w2 148 (by omega)) (w2 151 (by omega))
  have o0 := tok_ok (F := F) (N := N) (a := 0) (Nat.zero_le _)
  have fin : ∀ V', frS W V' → (∀ k, k ≠ 148 → k ≠ 149 → V' k = V k) ∧ (∀ i, i ≠ 5 → i ≠ 6 → i ≠ 10 → i ≠ 11 → i ≠ 12 → i ≠ 13 → V' 148 i = V 148 i) ∧ ∀ t, 230 ≤ t → V' 149 t = V 149 t := fun V' hf => ⟨fun k a b => by rw [hf.1 k a b, w2 k b], fun i a b c d e f => by rw [hf.2.1 i a b c d e f, w2 148 (by omega)], fun t ht => by rw [hf.2.2 t (by omega), w3, if_neg (by omega)]⟩
  unfold f6_parseSetup sSetup sSet
  rw [w1, bd_s, M_isWord hF mW o0 (by decide) (by decide), bd_s]
  generalize tok F N 0 = t0 at *
  unfold sWord
  by_cases c : isW F 1 t0 = true
  · rw [if_pos c, if_pos c, if_neg (show ¬ nrm 1 = 0 by decide +kernel)]
    obtain ⟨V1, g1, x1⟩ := M_nx hF mW o0
    have o1 : okTk F N (nxk F N t0) := nx_ok o0
    rw [g1, bd_s]
    generalize nxk F N t0 = t1 at *
    have f1 : frS W V1 := frS_G x1
    have hsn : ∀ (q : Tk → PE ((Int × Int × Int) × Tk)), sb (.inr t1 : PE Tk) q = q t1 := fun _ => rfl
    rw [hsn]
    rcases M_parseRanged (x := 0) (y := 0) (lo := 0) (hi := 30) hF x1.1 o1 (by constructor <;> constructor <;> omega) rfl (by omega) with ⟨V2, v1, e2, g2, x2, b2⟩ | ⟨V2, e, e2, g2, x2⟩
    · rw [g2, bd2_s, if_neg (show ¬ nrm 1 = 0 by decide +kernel)]
      have f2 : frS W V2 := (f1.tr (frS_up (by omega))).tr (frS_G x2)
      rcases M_parseRanged (x := 1) (y := 1) (lo := 0) (hi := 30) hF x2.1 (nx_ok o1) (by constructor <;> constructor <;> omega) rfl (by omega) with ⟨V3, v2, e3, g3, x3, b3⟩ | ⟨V3, e, e3, g3, x3⟩
      · rw [g3, bd2_s, if_neg (show ¬ nrm 1 = 0 by decide +kernel)]
        have f3 : frS W V3 := (f2.tr (frS_up (by omega))).tr (frS_G x3)
        rcases M_parseRanged (x := 2) (y := 2) (lo := 0) (hi := 9) hF x3.1 (nx_ok (nx_ok o1)) (by constructor <;> constructor <;> omega) rfl (by omega) with ⟨V4, v3, e4, g4, x4, b4⟩ | ⟨V4, e, e4, g4, x4⟩
        · rw [g4, bd2_s, if_neg (show ¬ nrm 1 = 0 by decide +kernel)]
          have f4 : frS W V4 := (f3.tr (frS_up (by omega))).tr (frS_G x4)
          rcases M_semicolon hF x4.1 (nx_ok (nx_ok (nx_ok o1))) with ⟨V5, t5, e5, o5, g5, x5⟩ | ⟨V5, e, e5, g5, x5⟩
          · rw [g5, bd2_s, if_neg (show ¬ nrm 1 = 0 by decide +kernel), M_isWord hF x5.1 o5 (by decide) (by decide), bd_s]
            have f5 : frS W V5 := f4.tr (frS_G x5)
            have hspec : sb (sNum F 0 30 t1) (fun hw => sb (sNum F 0 30 (nxk F N t1)) (fun cl => sb (sNum F 0 9 (nxk F N (nxk F N t1))) (fun th => sb (sSem F N (nxk F N (nxk F N (nxk F N t1)))) (fun t5 => (.inr ((hw, cl, th), t5) : PE ((Int × Int × Int) × Tk)))))) = .inr ((v1, v2, v3), t5) := by
              simp only [sb]
              rw [e2]; simp only
              rw [e3]; simp only
              rw [e4]; simp only
              rw [e5]
            rw [hspec]
            have r5 : ∀ s, V5 149 s = if s = 2 then v3 else if s = 1 then v2 else if s = 0 then v1 else W 149 s := fun s => by
              rw [x5.2.1 149 (by omega), x4.2.1 149 (by omega)]
              by_cases z : s = 2
              · rw [if_pos z, z, up2_s]
              · rw [if_neg z, up2_n (by omega), x3.2.1 149 (by omega)]
                by_cases z2 : s = 1
                · rw [if_pos z2, z2, up2_s]
                · rw [if_neg z2, up2_n (by omega), x2.2.1 149 (by omega)]
                  by_cases z3 : s = 0
                  · rw [if_pos z3, z3, up2_s]
                  · rw [if_neg z3, up2_n (by omega), x1.2.1 149 (by omega)]
            have hS5 : rpN V5 0 (v1, v2, []) := ⟨by rw [r5, if_neg (by omega), if_neg (by omega), if_pos rfl], by rw [r5, if_neg (by omega), if_pos rfl], by rw [r5, if_neg (by omega), if_neg (by omega), if_neg (by omega), w3, if_pos (by omega)]; rfl, fun i s hs => by simp at hs⟩
            have er5 : V5 148 5 = 0 ∧ V5 148 6 = -1 := by
              constructor
              · rw [x5.2.2 5 (by omega) (by omega) (by omega) (by omega), x4.2.2 5 (by omega) (by omega) (by omega) (by omega), up2_r (by omega), x3.2.2 5 (by omega) (by omega) (by omega) (by omega), up2_r (by omega), x2.2.2 5 (by omega) (by omega) (by omega) (by omega), up2_r (by omega), x1.2.2 5 (by omega) (by omega) (by omega) (by omega), w2 148 (by omega), h5]
              · rw [x5.2.2 6 (by omega) (by omega) (by omega) (by omega), x4.2.2 6 (by omega) (by omega) (by omega) (by omega), up2_r (by omega), x3.2.2 6 (by omega) (by omega) (by omega) (by omega), up2_r (by omega), x2.2.2 6 (by omega) (by omega) (by omega) (by omega), up2_r (by omega), x1.2.2 6 (by omega) (by omega) (by omega) (by omega), w2 148 (by omega), h6]
            by_cases c5 : isW F 2 t5 = true
            · rw [if_pos c5, if_neg (show ¬ nrm 1 = 0 by decide +kernel)]
              rcases M_shL (hw := v1) (cl := v2) hF 11 FU [] t5 V5 (by have := FU_ge; omega) rfl (by simp) x5.1 o5 (fun _ => c5) hS5 (fun s hs => absurd hs List.not_mem_nil) with ⟨V6, L', a1, a2, a4, a5, a6, a7⟩ | ⟨V6, e, a1, a2, a3⟩
              · left
                have f6 := f5.tr a5
                have z6 : ∀ s, s = 3 ∨ (5 ≤ s ∧ s < 10) → V6 149 s = 0 := fun s hs => by rw [f6.2.2 s (by omega), w3, if_pos (by omega)]
                refine ⟨V6, (v1, v2, v3, L'), ?_, a2, ⟨a4.1.trans er5.1, a4.2.trans er5.2⟩, fin V6 f6, a6, rpM_mk ?_ (z6 3 (by omega)) (z6 7 (by omega)) (z6 8 (by omega)) (z6 9 (by omega)) (z6 5 (by omega)) (z6 6 (by omega)) rfl rfl⟩
                · simp only [sb]
                  rw [a1]
                · rw [a7, r5, if_pos rfl]
              · right
                refine ⟨V6, e, ?_, a2, ⟨a3.1, a3.2.1⟩, fin V6 (f5.tr a3.2.2)⟩
                simp only [sb]
                rw [a1]
            · right
              obtain ⟨V', q1, q2⟩ := M_wrong2 (c := 1) x5.1
              rw [if_neg c5, if_pos (show nrm 0 = 0 by decide +kernel), q1]
              refine ⟨V', (1, t5.2.1), ?_, rfl, ⟨q2.1, q2.2.1⟩, fin V' (f5.tr (frS_E q2))⟩
              have hs11 : sShips F N 11 [] t5 = .inl (1, (t5.2.1 : Int)) := by
                rw [sShips, if_neg (fun q => q.1 rfl)]
                unfold sShip sWord
                rw [if_neg (fun q => c5 q.2), if_neg c5]
                rfl
              simp only [sb]
              rw [hs11]
          · right
            rw [g5, bd2_s, if_pos (show nrm 0 = 0 by decide +kernel)]
            refine ⟨V5, e, ?_, rfl, ⟨x5.1, x5.2.1⟩, fin V5 (f4.tr (frS_E x5))⟩
            simp only [sb]
            rw [e2]; simp only
            rw [e3]; simp only
            rw [e4]; simp only
            rw [e5]
        · right
          rw [g4, bd2_s, if_pos (show nrm 0 = 0 by decide +kernel)]
          refine ⟨V4, e, ?_, rfl, ⟨x4.1, x4.2.1⟩, fin V4 (f3.tr (frS_E x4))⟩
          simp only [sb]
          rw [e2]; simp only
          rw [e3]; simp only
          rw [e4]
      · right
        rw [g3, bd2_s, if_pos (show nrm 0 = 0 by decide +kernel)]
        refine ⟨V3, e, ?_, rfl, ⟨x3.1, x3.2.1⟩, fin V3 (f2.tr (frS_E x3))⟩
        simp only [sb]
        rw [e2]; simp only
        rw [e3]
    · right
      rw [g2, bd2_s, if_pos (show nrm 0 = 0 by decide +kernel)]
      refine ⟨V2, e, ?_, rfl, ⟨x2.1, x2.2.1⟩, fin V2 (f1.tr (frS_E x2))⟩
      simp only [sb]
      rw [e2]
  · right
    obtain ⟨V', q1, q2⟩ := M_wrong2 (c := 1) mW
    rw [if_neg c, if_neg c, if_pos (show nrm 0 = 0 by decide +kernel), q1]
    exact ⟨V', (1, t0.2.1), rfl, rfl, ⟨q2.1, q2.2.1⟩, fin V' (frS_E q2)⟩
theorem M_begin {V : VV} {F : Nat → Int} {N : Nat} (hF : okF F N) (h1 : V 148 4 = (N : Int)) (hb : ∀ j, j < N → V 151 j = F j) : ∃ V' : VV, f6_begin V = some V' ∧ MT V' F N (tok F N 0) ∧ V' 148 5 = 0 ∧ V' 148 6 = -1 ∧ (∀ k, k ≠ 148 → V' k = V k) ∧ ∀ i, i ≠ 5 → i ≠ 6 → i ≠ 10 → i ≠ 11 → i ≠ 12 → i ≠ 13 → V' 148 i = V 148 i := by
  obtain ⟨V', g1, g2, g3⟩ := M_tok (V := up2 (up2 (up2 V 148 5 0) 148 6 (-1)) 148 10 0) hF (Nat.zero_le _) (by rw [up2_n (by omega), up2_n (by omega), up2_n (by omega), h1]) (fun j hj => by rw [up2_r (by omega), up2_r (by omega), up2_r (by omega), hb j hj]) (by rw [up2_s]; rfl)
  refine ⟨V', ?_, g3, ?_, ?_, fun k hk => by rw [g2.1 k hk, up2_r hk, up2_r hk, up2_r hk], fun i a b c d e f => by rw [g2.2 i c d e f, up2_n (by omega), up2_n (by omega), up2_n (by omega)]⟩
  · unfold f6_begin
    rw [g1, bd_s]
  · rw [g2.2 5 (by omega) (by omega) (by omega) (by omega), up2_n (by omega), up2_n (by omega), up2_s]
  · rw [g2.2 6 (by omega) (by omega) (by omega) (by omega), up2_n (by omega), up2_s]
theorem X_startWithDraft {V : VV} {q d : Nat} (hq : q < 2) (hd : d < 2) (h2 : V 0 2 = (q : Int)) (h3 : V 0 3 = (d : Int)) : ∃ V' : VV, f5_startWithDraft V = some V' ∧ V' 0 2 = (d : Int) ∧ V' 0 3 = (q : Int) ∧ V' 0 8 = 0 ∧ (∀ i, i ≠ 2 → i ≠ 3 → i ≠ 8 → V' 0 i = V 0 i) ∧ rpC V' 53 (P0 (V (aS d) 2)) ∧ (∀ s, s < 2 → V' 73 s = 0) ∧ ∀ k, k ≠ 0 → k ≠ 53 → k ≠ 73 → V' k = V k := by
  have hqd : (V 0 2).toNat = q := by rw [h2]; omega
  have hdd : (V 0 3).toNat = d := by rw [h3]; omega
  have had : aS d ≠ 0 := by unfold aS; omega
  unfold f5_startWithDraft
  rw [hqd, hdd, ck_t hq, ck_t hd]
  obtain ⟨U, hU⟩ : ∃ U, U = up2 (up2 V 0 2 ((d : Nat) : Int)) 0 3 ((q : Nat) : Int) := ⟨_, rfl⟩
  rw [← hU]
  have u2 : U 0 2 = (d : Int) := by rw [hU, up2_n (by omega), up2_s]
  have u2d : (U 0 2).toNat = d := by rw [u2]; omega
  have uk : ∀ k, k ≠ 0 → U k = V k := fun k hk => by rw [hU, up2_r hk, up2_r hk]
  rw [u2d, ck_t hd, uk _ had]
  unfold f1_startAnew
  rw [ck_t p0, aP0, bd_s]
  obtain ⟨A, hA⟩ : ∃ A, A = up2 (up2 (up2 (up2 (up2 (up2 (up2 U 53 0 (V (aS d) 2)) 53 1 0) 53 2 0) 53 3 0) 53 4 0) 53 5 0) 53 10 0 := ⟨_, rfl⟩
  rw [← hA]
  have ak : ∀ k, k ≠ 53 → A k = U k := fun k hk => by rw [hA, up2_r hk, up2_r hk, up2_r hk, up2_r hk, up2_r hk, up2_r hk, up2_r hk]
  have hL : f5_startWithDraft_L39 FU 0 (up2 A 0 8 0) = some (up2 (up2 (up2 A 0 8 0) 73 0 0) 73 1 0) := by
    rw [show FU = 4997 + 1 + 1 + 1 from rfl, f5_startWithDraft_L39, if_neg (by decide +kernel), ck_t (by decide), show (0 : Int) + 1 = 1 from rfl, f5_startWithDraft_L39, if_neg (by decide +kernel), ck_t (by decide), show (1 : Int) + 1 = 2 from rfl, f5_startWithDraft_L39, if_pos (by decide +kernel)]
    rfl
  rw [hL, bd_s]
  have w53 : ∀ i, up2 (up2 (up2 A 0 8 0) 73 0 0) 73 1 0 53 i = A 53 i := fun i => by rw [up2_r (by omega), up2_r (by omega), up2_r (by omega)]
  refine ⟨_, rfl, ?_, ?_, ?_, fun i i1 i2 i3 => ?_, rpC_mk ?_ ?_ ?_ ?_ ?_ ?_ ?_ rfl rfl, fun s hs => ?_, fun k k1 k2 k3 => ?_⟩
  · rw [up2_r (by omega), up2_r (by omega), up2_n (by omega), ak 0 (by omega), u2]
  · rw [up2_r (by omega), up2_r (by omega), up2_n (by omega), ak 0 (by omega), hU, up2_s]
  · rw [up2_r (by omega), up2_r (by omega), up2_s]
  · rw [up2_r (by omega), up2_r (by omega), up2_n (by omega), ak 0 (by omega), hU, up2_n (by omega), up2_n (by omega)]
  · rw [w53, hA, up2_n (by omega), up2_n (by omega), up2_n (by omega), up2_n (by omega), up2_n (by omega), up2_n (by omega), up2_s]
  · rw [w53, hA, up2_n (by omega), up2_n (by omega), up2_n (by omega), up2_n (by omega), up2_n (by omega), up2_s]
  · rw [w53, hA, up2_n (by omega), up2_n (by omega), up2_n (by omega), up2_n (by omega), up2_s]
  · rw [w53, hA, up2_n (by omega), up2_n (by omega), up2_n (by omega), up2_s]
  · rw [w53, hA, up2_n (by omega), up2_n (by omega), up2_s]
  · rw [w53, hA, up2_n (by omega), up2_s]; rfl
  · rw [w53, hA, up2_s]; rfl
  · by_cases z : s = 1
    · rw [z, up2_s]
    · rw [up2_n (by omega), show s = 0 by omega, up2_s]
  · rw [up2_r k3, up2_r k3, up2_r k1, ak k k2, uk k k1]
theorem op_load : Op1 [eA] (fun V => f5_load V) (fun V => f6_load V) := by
  intro V S P h
  obtain ⟨i1, ⟨i2, i3⟩, i4, i5, i6⟩ := h.2.2.2.2.2.1
  have hS := h.ck.2.2.2.1
  have hr := h.ck.ok.rg
  obtain ⟨hq0, hd0⟩ := h.2.2.1
  obtain ⟨q, hq⟩ : ∃ q : Nat, V 0 2 = (q : Int) := ⟨(V 0 2).toNat, by omega⟩
  have hq2 : q < 2 := by omega
  obtain ⟨d, hd⟩ : ∃ d : Nat, V 0 3 = (d : Int) := ⟨(V 0 3).toNat, by omega⟩
  have hd2 : d < 2 := by omega
  have hqd : q + d = 1 := by omega
  obtain ⟨N, hN⟩ : ∃ n : Nat, V 1 1 = (n : Int) := ⟨(V 1 1).toNat, by omega⟩
  have hF : okF (V 151) N := ⟨by omega, fun j hj => (i4 j (by omega)).2⟩
  have ad0 : ∀ k, aS d ≤ k ∧ k < aS d + 22 → 9 ≤ k ∧ k < 53 := fun k hk => by unfold aS at hk; omega
  have hcp : ∀ U : VV, U 149 = V 149 → ∃ W2 : VV, f6_copyBlock U 0 9 = some W2 ∧ (∀ c, c ≠ 149 → W2 c = U c) ∧ ∀ t, W2 149 t = if 2070 ≤ t ∧ t < 2300 then V 149 (t - 2070) else V 149 t := fun U e => by
    obtain ⟨W2, m1, m2, m3⟩ := M_copyBlock (V := U) (x := 0) (y := 9) (a := 0) (b := 9) rfl rfl (by omega) (by omega) (by omega)
    refine ⟨W2, m1, m2, fun t => ?_⟩
    rw [m3 t]
    by_cases z : 2070 ≤ t ∧ t < 2300
    · rw [if_pos (by omega), if_pos z, e]
      exact at149 (by omega)
    · rw [if_neg (by omega), if_neg z, e]
  rcases X_readSetup hF hN (fun j hj => (i4 j (by omega)).1) hd2 hd with ⟨A, r, a1, a2, a3, a4, a5, a6, a7, a8, a9⟩ | ⟨A, e, a1, a2, a3⟩
  · -- a good text
    have aq : (up2 A 1 1 0) 0 2 = (q : Int) := by rw [up2_r (by omega), a5 0 (by omega) (fun z => by have := ad0 0 z; omega), hq]
    have adn : (up2 A 1 1 0) 0 3 = (d : Int) := by rw [up2_r (by omega), a5 0 (by omega) (fun z => by have := ad0 0 z; omega), hd]
    obtain ⟨V1, b1, b2, b3, b4, b5, b6, b7, b8⟩ := X_startWithDraft hq2 hd2 aq adn
    have ha1 : aS d ≠ 1 := by unfold aS; omega
    have ha0 : aS d ≠ 0 := by unfold aS; omega
    have ha53 : aS d ≠ 53 := by unfold aS; omega
    have ha73 : aS d ≠ 73 := by unfold aS; omega
    have hS1 : rpS V1 (aS d) (r.1, r.2.1, r.2.2.2) := rpS_of a8 a6 (fun k k1 k2 => by rw [b8 k (by have := ad0 k ⟨k1, k2⟩; omega) (by have := ad0 k ⟨k1, k2⟩; omega) (by have := ad0 k ⟨k1, k2⟩; omega), up2_r (by have := ad0 k ⟨k1, k2⟩; omega)])
    have vk : ∀ k, k ≠ 0 → k ≠ 1 → ¬ (9 ≤ k ∧ k < 54) → k ≠ 73 → V1 k = V k := fun k k0 k1 k2 k3 => by rw [b8 k k0 (by omega) k3, up2_r k1, a5 k k1 (fun z => by have := ad0 k z; omega)]
    have v149 : V1 149 = V 149 := vk 149 (by omega) (by omega) (by omega) (by omega)
    have v148 : V1 148 = V 148 := vk 148 (by omega) (by omega) (by omega) (by omega)
    have v151 : V1 151 = V 151 := vk 151 (by omega) (by omega) (by omega) (by omega)
    have hV1 : f5_load V = some (.ok (r.2.2.2.length : Int), V1) := by
      unfold f5_load
      rw [a2, bd2_s, if_neg (show ¬ nrm 1 = 0 by decide +kernel), b1, bd_s, b2, Int.toNat_natCast, ck_t hd2, hS1.2.2.1]
    obtain ⟨W2, m1, m2, m3⟩ := hcp V1 v149
    obtain ⟨B, c1, c2, c3, c4, c5, c6⟩ := M_begin (V := W2) hF (by rw [m2 148 (by omega), v148, ← i1, hN]) (fun j hj => by rw [m2 151 (by omega), v151])
    rcases M_parseSetup hF c2 c3 c4 with ⟨C, r', d1, d2, d3, ⟨d4, d5, d6⟩, d7, d8⟩ | ⟨C, e, d1, d2, -⟩
    · have hrr : r' = r := by rw [a1] at d1; cases d1; rfl
      subst hrr
      obtain ⟨D, hD⟩ : ∃ D, D = up2 (up2 C 148 4 0) 148 9 0 := ⟨_, rfl⟩
      obtain ⟨V2, hV2⟩ : ∃ V2, V2 = up2 (up2 (up2 D 148 2 0) 150 0 0) 150 1 0 := ⟨_, rfl⟩
      have e149 : V2 149 = C 149 := by rw [hV2, up2_r (by omega), up2_r (by omega), up2_r (by omega), hD, up2_r (by omega), up2_r (by omega)]
      have hmk : MK V2 (r'.1, r'.2.1, r'.2.2.2) (P0 r'.2.2.1) := ⟨rpM_of d8 e149, rpN_of d7 e149, a8, P0_ok a9⟩
      have hf6 : f6_load V1 = some ((r'.2.2.2.length : Int), V2) := by
        unfold f6_load
        rw [m1, bd_s, c1, bd_s, d2, bd2_s, if_neg (show ¬ nrm 1 = 0 by decide +kernel), bd_s, if_neg (show ¬ nrm 1 = 0 by decide +kernel), bd_s, M_fails0]
        simp only [bd2_s, n00, if_true]
        rw [← hD, ← hV2, hmk.su.2.2.1]
      have ek : ∀ k, k ≠ 148 → k ≠ 149 → k ≠ 150 → V2 k = V1 k := fun k k1 k2 k3 => by rw [hV2, up2_r k3, up2_r k3, up2_r k1, hD, up2_r k1, up2_r k1, d4 k k1 k2, c5 k k1, m2 k k2]
      have e148 : ∀ i, i ≠ 2 → i ≠ 4 → i ≠ 5 → i ≠ 6 → i ≠ 9 → i ≠ 10 → i ≠ 11 → i ≠ 12 → i ≠ 13 → V2 148 i = V 148 i := fun i i2 i4 i5 i6 i9 i10 i11 i12 i13 => by rw [hV2, up2_r (by omega), up2_r (by omega), up2_n (by omega), hD, up2_n (by omega), up2_n (by omega), d5 i i5 i6 i10 i11 i12 i13, c6 i i5 i6 i10 i11 i12 i13, m2 148 (by omega), v148]
      have e148c : ∀ i, i ≠ 2 → i ≠ 4 → i ≠ 9 → V2 148 i = C 148 i := fun i i2 i4 i9 => by rw [hV2, up2_r (by omega), up2_r (by omega), up2_n (by omega), hD, up2_n (by omega), up2_n (by omega)]
      have v11 : V1 1 = up2 A 1 1 0 1 := b8 1 (by omega) (by omega) (by omega)
      refine ⟨.ok (r'.2.2.2.length : Int), V1, _, V2, hV1, hf6, ?_, fun x hx => okr hx rfl, (r'.1, r'.2.1, r'.2.2.2), P0 r'.2.2.1, ?_, hmk, ?_, ?_, ?_, ?_, ?_⟩
      · rw [hV2, up2_r (by omega), up2_r (by omega), up2_n (by omega), hD, up2_s]; rfl
      · rw [up2_r (show aS d ≠ 1 from ha1), a7] at b6
        have e02 : (V2 0 2).toNat = d := by rw [ek 0 (by omega) (by omega) (by omega), b2]; omega
        refine ⟨rpC_of b6 (fun k k1 k2 => ek k (by omega) (by omega) (by omega)), ?_, by rw [e02]; exact hd2, a8, P0_ok a9⟩
        rw [e02]
        exact rpS_of a8 hS1 (fun k k1 k2 => ek k (by have := ad0 k ⟨k1, k2⟩; omega) (by have := ad0 k ⟨k1, k2⟩; omega) (by have := ad0 k ⟨k1, k2⟩; omega))
      · rw [ek 0 (by omega) (by omega) (by omega), b2, b3]
        omega
      · unfold RPast
        rw [ek 0 (by omega) (by omega) (by omega), b4, b5 7 (by omega) (by omega) (by omega), up2_r (show (0 : Nat) ≠ 1 by omega), a5 0 (by omega) (fun z => by have := ad0 0 z; omega)]
        refine ⟨h.2.2.2.1.1, ?_, by omega, fun k hk => absurd hk (by omega)⟩
        rw [hV2, up2_r (by omega), up2_r (by omega), up2_s]
      · intro s hs
        have e150 : V2 150 s = 0 := by
          rw [hV2]
          by_cases z : s = 1
          · rw [z, up2_s]
          · rw [up2_n (by omega), show s = 0 by omega, up2_s]
        rw [ek 73 (by omega) (by omega) (by omega), b7 s hs, e150]
        exact ⟨rfl, Or.inl rfl⟩
      · unfold RIn
        rw [ek 1 (by omega) (by omega) (by omega), v11, up2_s, up2_n (by omega), up2_n (by omega), a4.1, a4.2, e148c 5 (by omega) (by omega) (by omega), e148c 6 (by omega) (by omega) (by omega), d3.1, d3.2]
        refine ⟨?_, by omega, fun j hj => absurd hj (by omega), rfl, rfl⟩
        rw [hV2, up2_r (by omega), up2_r (by omega), up2_n (by omega), hD, up2_n (by omega), up2_s]
      · refine h.2.2.2.2.2.2.of ?_ ?_ (e148 8 (by omega) (by omega) (by omega) (by omega) (by omega) (by omega) (by omega) (by omega) (by omega)) ?_
        · rw [ek 0 (by omega) (by omega) (by omega), b5 13 (by omega) (by omega) (by omega), up2_r (by omega), a5 0 (by omega) (fun z => by have := ad0 0 z; omega)]
        · rw [ek 75 (by omega) (by omega) (by omega), vk 75 (by omega) (by omega) (by omega) (by omega)]
        · rw [ek 152 (by omega) (by omega) (by omega), vk 152 (by omega) (by omega) (by omega) (by omega)]
    · exfalso
      rw [a1] at d1
      cases d1
  · -- a text with an error
    obtain ⟨V1, hV1⟩ : ∃ V1, V1 = up2 A 1 1 0 := ⟨_, rfl⟩
    have vk : ∀ k, k ≠ 1 → ¬ (aS d ≤ k ∧ k < aS d + 22) → V1 k = V k := fun k k1 k2 => by rw [hV1, up2_r k1, a3.2.2 k k1 k2]
    have vk9 : ∀ k, k ≠ 1 → ¬ (9 ≤ k ∧ k < 53) → V1 k = V k := fun k k1 k2 => vk k k1 (fun z => by have := ad0 k z; omega)
    have v149 : V1 149 = V 149 := vk9 149 (by omega) (by omega)
    have v148 : V1 148 = V 148 := vk9 148 (by omega) (by omega)
    have v151 : V1 151 = V 151 := vk9 151 (by omega) (by omega)
    have hf5 : f5_load V = some (.error eA, V1) := by
      unfold f5_load
      rw [a2, bd2_s, if_pos (show nrm 0 = 0 by decide +kernel), ← hV1]
    obtain ⟨W2, m1, m2, m3⟩ := hcp V1 v149
    obtain ⟨B, c1, c2, c3, c4, c5, c6⟩ := M_begin (V := W2) hF (by rw [m2 148 (by omega), v148, ← i1, hN]) (fun j hj => by rw [m2 151 (by omega), v151])
    rcases M_parseSetup hF c2 c3 c4 with ⟨C, r', d1, d2, -⟩ | ⟨C, e', d1, d2, d3, ⟨d4, d5, d6⟩⟩
    · exfalso
      rw [a1] at d1
      cases d1
    · have hee : e' = e := by rw [a1] at d1; cases d1; rfl
      subst hee
      obtain ⟨D, q1, q2, q3⟩ := M_copyBlock (V := up2 C 148 4 0) (x := 9) (y := 0) (a := 9) (b := 0) rfl rfl (by omega) (by omega) (by omega)
      have hf6 : f6_load V1 = some (0, up2 D 148 9 1) := by
        unfold f6_load
        rw [m1, bd_s, c1, bd_s, d2, bd2_s, if_pos (show nrm 0 = 0 by decide +kernel), q1, bd_s, bd_s, if_pos (show nrm 0 = 0 by decide +kernel), bd_s, M_fails1 (Or.inl rfl) (Or.inl rfl)]
        simp only [bd2_s, n10, if_false]
      have ek : ∀ k, k ≠ 148 → k ≠ 149 → up2 D 148 9 1 k = V1 k := fun k k1 k2 => by rw [up2_r k1, q2 k k2, up2_r k1, d4 k k1 k2, c5 k k1, m2 k k2]
      have e148 : ∀ i, i ≠ 4 → i ≠ 5 → i ≠ 6 → i ≠ 9 → i ≠ 10 → i ≠ 11 → i ≠ 12 → i ≠ 13 → up2 D 148 9 1 148 i = V 148 i := fun i i4 i5 i6 i9 i10 i11 i12 i13 => by rw [up2_n (by omega), q2 148 (by omega), up2_n (by omega), d5 i i5 i6 i10 i11 i12 i13, c6 i i5 i6 i10 i11 i12 i13, m2 148 (by omega), v148]
      have e148c : ∀ i, i ≠ 4 → i ≠ 9 → up2 D 148 9 1 148 i = C 148 i := fun i i4 i9 => by rw [up2_n (by omega), q2 148 (by omega), up2_n (by omega)]
      have e149 : ∀ t, t < 2070 → up2 D 148 9 1 149 t = V 149 t := fun t ht => by
        rw [up2_r (by omega), q3]
        by_cases z : 230 * 0 ≤ t ∧ t < 230 * 0 + 230
        · rw [if_pos z, up2_r (by omega), d6 _ (by omega), c5 149 (by omega), m3, if_pos (by omega)]
          exact at149 (by omega)
        · rw [if_neg z, up2_r (by omega), d6 _ (by omega), c5 149 (by omega), m3, if_neg (by omega)]
      have v1c : ∀ i, i ≠ 1 → V1 1 i = A 1 i := fun i hi => by rw [hV1, up2_n (by omega)]
      refine ⟨.error eA, V1, 0, _, hf5, hf6, (up2_s _ _ _ _).trans cod_1.symm, fun r hr => ner hr, S, P, h.inp ?_ (fun k k1 k2 => ?_) (fun k k1 k2 => ?_) (fun k k1 k2 => ?_) (e148 2 (by omega) (by omega) (by omega) (by omega) (by omega) (by omega) (by omega) (by omega)) (e148 8 (by omega) (by omega) (by omega) (by omega) (by omega) (by omega) (by omega) (by omega)) e149 ?_ ?_ ?_⟩
      · rw [ek 0 (by omega) (by omega), vk9 0 (by omega) (by omega)]
      · have hqn : (V 0 2).toNat = q := by rw [hq]; omega
        rw [hqn] at k1 k2
        have hk9 : 9 ≤ k ∧ k < 53 := by unfold aS at k1 k2; omega
        rw [ek k (by omega) (by omega), vk k (by omega) (fun z => by unfold aS at z k1 k2; omega)]
      · rw [ek k (by omega) (by omega), vk9 k (by omega) (by omega)]
      · rw [ek k (by omega) (by omega), vk9 k (by omega) (by omega)]
      · rw [ek 150 (by omega) (by omega), vk9 150 (by omega) (by omega)]
      · rw [ek 152 (by omega) (by omega), vk9 152 (by omega) (by omega)]
      · unfold RIn
        rw [ek 1 (by omega) (by omega), v1c 2 (by omega), v1c 3 (by omega), a3.1, a3.2.1, e148c 5 (by omega) (by omega), e148c 6 (by omega) (by omega), d3.1, d3.2, show V1 1 1 = 0 by rw [hV1, up2_s]]
        refine ⟨?_, by omega, fun j hj => absurd hj (by omega), rfl, rfl⟩
        rw [up2_n (by omega), q2 148 (by omega), up2_s]
