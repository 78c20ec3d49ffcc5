/-! scripts: carried out -/
def flt (S : Su) (P : Pl) (c : Cm) : Int := if c.1 = 0 then bkF S P c.2.1 c.2.2.1 c.2.2.2.1 else if c.1 = 1 then rqF S P c.2.1 c.2.2.1 c.2.2.2.1 c.2.2.2.2 else if c.1 = 2 then cnF P c.2.2.2.1 else if c.1 = 3 then mvF S P c.2.2.2.1 c.2.2.2.2 else if c.1 = 4 then (if isRq P c.2.2.2.1 then 0 else 1) else if c.1 = 5 then (if 0 ≤ c.2.2.2.1 ∧ c.2.2.2.1 ≤ 9 then 0 else 2) else adF P c.2.2.2.1
def exe (S : Su) (P : Pl) (c : Cm) : Pl := if c.1 = 0 then bookP S P c.2.1 c.2.2.1 c.2.2.2.1 else if c.1 = 1 then (reqP S P c.2.1 c.2.2.1 c.2.2.2.1 c.2.2.2.2).2 else if c.1 = 2 then (cancelP S P c.2.2.2.1.toNat).2 else if c.1 = 3 then (moveP S P c.2.2.2.1.toNat (bk P c.2.2.2.1) c.2.2.2.2).2 else if c.1 = 4 then remRP P c.2.2.2.1.toNat else if c.1 = 5 then (serveP S (setT P c.2.2.2.1)).2 else (advP P c.2.2.2.1).2
theorem fl_rg {S : Su} {P : Pl} {c : Cm} : 0 ≤ flt S P c ∧ flt S P c ≤ 3 := by
  unfold flt bkF rqF cnF mvF adF
  (repeat' split) <;> omega
theorem X_faultOf {V : VV} {S : Su} {P : Pl} {cs : List Cm} {i : Nat} {c : Cm} (h : CK V S P) (hC : XC V cs) (hi : i < 30) (hc : cs[i]? = some c) (ho : okCm S c) : f5_faultOf V (i : Int) = some (flt S P c) := by
  obtain ⟨a4, a5, a7, a8⟩ := hC.2 i c hc
  obtain ⟨o1, o2, o3, o4⟩ := ho
  have r1 : rgI c.2.2.2.1 := by constructor <;> omega
  have r2 : rgI c.2.2.2.2 := by constructor <;> omega
  unfold f5_faultOf flt
  rw [ck_t (by omega), Int.toNat_natCast, a4, a7, nrm_of (z := c.1) (by omega) (by omega)]
  by_cases c0 : c.1 = 0
  · obtain ⟨s1, s2⟩ := a5 (by omega)
    obtain ⟨w1, w2⟩ := o2 (by omega)
    rw [if_pos c0, if_pos c0, s1, s2, X_bookFault h (by have := h.su; constructor <;> omega) w2 r1, bd_s]
  rw [if_neg c0, if_neg c0]
  by_cases c1 : c.1 = 1
  · obtain ⟨s1, s2⟩ := a5 (by omega)
    obtain ⟨w1, w2⟩ := o2 (by omega)
    rw [if_pos c1, if_pos c1, s1, s2, a8 (Or.inl c1), X_requestFault h (by have := h.su; constructor <;> omega) w2 r1 r2, bd_s]
  rw [if_neg c1, if_neg c1]
  by_cases c2 : c.1 = 2
  · rw [if_pos c2, if_pos c2, X_cancelFault h r1, bd_s]
  rw [if_neg c2, if_neg c2]
  by_cases c3 : c.1 = 3
  · rw [if_pos c3, if_pos c3, a8 (Or.inr c3), X_moveFault h r1 r2, bd_s]
  rw [if_neg c3, if_neg c3]
  by_cases c4 : c.1 = 4
  · rw [if_pos c4, if_pos c4, X_isRequest h r1, bd_s]
    by_cases z : isRq P c.2.2.2.1
    · rw [if_pos z, if_pos z, if_neg (by decide +kernel)]
    · rw [if_neg z, if_neg z, if_pos (by decide +kernel)]
  rw [if_neg c4, if_neg c4]
  by_cases c5 : c.1 = 5
  · rw [if_pos c5, if_pos c5, X_isWithin r1 (by constructor <;> omega) (by constructor <;> omega), bd_s]
    by_cases z : 0 ≤ c.2.2.2.1 ∧ c.2.2.2.1 ≤ 9
    · rw [if_pos z, if_pos z, if_neg (by decide +kernel)]
    · rw [if_neg z, if_neg z, if_pos (by decide +kernel)]
  rw [if_neg c5, if_neg c5, X_advanceFault h r1, bd_s]
/-- what a command needs when it isn't refused -/
theorem bkF_0 {S : Su} {P : Pl} {x y s : Int} (h : bkF S P x y s = 0) : isSp S x ∧ (0 ≤ s ∧ s ≤ 999) ∧ bkC S P x y s := by
  unfold bkF at h
  by_cases a : isSp S x
  · rw [if_pos a] at h
    by_cases b : 0 ≤ s ∧ s ≤ 999
    · rw [if_pos b] at h
      by_cases c : bkC S P x y s
      · exact ⟨a, b, c⟩
      · rw [if_neg c] at h; omega
    · rw [if_neg b] at h; omega
  · rw [if_neg a] at h; omega
theorem rqF_0 {S : Su} {P : Pl} {x y e la : Int} (h : rqF S P x y e la = 0) : isSp S x ∧ isWi e la ∧ rqC S P x y e la := by
  unfold rqF at h
  by_cases a : isSp S x
  · rw [if_pos a] at h
    by_cases b : isWi e la
    · rw [if_pos b] at h
      by_cases c : rqC S P x y e la
      · exact ⟨a, b, c⟩
      · rw [if_neg c] at h; omega
    · rw [if_neg b] at h; omega
  · rw [if_neg a] at h; omega
theorem cnF_0 {P : Pl} {x : Int} (h : cnF P x = 0) : isBk P x ∧ ¬ (bk P x).2.2.1 ≤ P.2.1 := by
  unfold cnF at h
  by_cases a : isBk P x
  · rw [if_pos a] at h
    by_cases b : (bk P x).2.2.1 ≤ P.2.1
    · rw [if_pos b] at h; omega
    · exact ⟨a, b⟩
  · rw [if_neg a] at h; omega
theorem mvF_0 {S : Su} {P : Pl} {x s : Int} (h : mvF S P x s = 0) : isBk P x ∧ (0 ≤ s ∧ s ≤ 999) ∧ hnd S P x.toNat (bk P x) s = 0 := by
  unfold mvF at h
  by_cases a : isBk P x
  · rw [if_pos a] at h
    by_cases b : 0 ≤ s ∧ s ≤ 999
    · rw [if_pos b] at h
      by_cases c : hnd S P x.toNat (bk P x) s = 0
      · exact ⟨a, b, c⟩
      · rw [if_neg c] at h; omega
    · rw [if_neg b] at h; omega
  · rw [if_neg a] at h; omega
theorem adF_0 {P : Pl} {x : Int} (h : adF P x = 0) : (1 ≤ x ∧ x ≤ 500) ∧ P.2.1 + x ≤ 1200 := by
  unfold adF at h
  by_cases a : 1 ≤ x ∧ x ≤ 500
  · rw [if_pos a] at h
    by_cases b : P.2.1 + x ≤ 1200
    · exact ⟨a, b⟩
    · rw [if_neg b] at h; omega
  · rw [if_neg a] at h; omega
theorem X_execute {V : VV} {S : Su} {P : Pl} {cs : List Cm} {i : Nat} {c : Cm} (h : CK V S P) (hC : XC V cs) (hi : i < 30) (hc : cs[i]? = some c) (ho : okCm S c) (hf : flt S P c = 0) : ∃ V' : VV, f5_execute V (i : Int) = some V' ∧ fr0 V V' ∧ CK V' S (exe S P c) := by
  obtain ⟨a4, a5, a7, a8⟩ := hC.2 i c hc
  obtain ⟨o1, o2, o3, o4⟩ := ho
  unfold flt at hf
  unfold f5_execute exe
  rw [ck_t (by omega), Int.toNat_natCast, a4, a7, nrm_of (z := c.1) (by omega) (by omega)]
  by_cases c0 : c.1 = 0
  · obtain ⟨s1, s2⟩ := a5 (by omega)
    obtain ⟨w1, w2⟩ := o2 (by omega)
    rw [if_pos c0] at hf
    obtain ⟨f1, f2, f3⟩ := bkF_0 hf
    obtain ⟨V', g1, g2, g3⟩ := X_bookNow h f3.2.1 f1 w2 f2 f3.2.2
    rw [if_pos c0, if_pos c0, s1, s2, g1, bd2_s]
    exact ⟨V', rfl, g2, g3⟩
  rw [if_neg c0] at hf
  rw [if_neg c0, if_neg c0]
  by_cases c1 : c.1 = 1
  · obtain ⟨s1, s2⟩ := a5 (by omega)
    obtain ⟨w1, w2⟩ := o2 (by omega)
    rw [if_pos c1] at hf
    obtain ⟨f1, f2, f3⟩ := rqF_0 hf
    obtain ⟨V', g1, g2, g3⟩ := X_requestNow h f1 w2 ⟨f2.1.1, f2.2.1, f2.2.2⟩ f3
    rw [if_pos c1, if_pos c1, s1, s2, a8 (Or.inl c1), g1, bd2_s]
    exact ⟨V', rfl, g2, g3⟩
  rw [if_neg c1] at hf
  rw [if_neg c1, if_neg c1]
  by_cases c2 : c.1 = 2
  · rw [if_pos c2] at hf
    obtain ⟨f1, f2⟩ := cnF_0 hf
    obtain ⟨j, hj⟩ : ∃ j : Nat, c.2.2.2.1 = (j : Int) := ⟨c.2.2.2.1.toNat, by omega⟩
    rw [hj] at f1
    obtain ⟨V', g1, g2, g3⟩ := X_cancelNow h (i := j) (by have := f1.2; omega)
    rw [if_pos c2, if_pos c2, hj, Int.toNat_natCast, g1, bd2_s]
    exact ⟨V', rfl, g2, g3⟩
  rw [if_neg c2] at hf
  rw [if_neg c2, if_neg c2]
  by_cases c3 : c.1 = 3
  · rw [if_pos c3] at hf
    obtain ⟨f1, f2, f3⟩ := mvF_0 hf
    obtain ⟨j, hj⟩ : ∃ j : Nat, c.2.2.2.1 = (j : Int) := ⟨c.2.2.2.1.toNat, by omega⟩
    rw [hj] at f1 f3
    have hjl : j < P.2.2.2.2.2.1.length := by have := f1.2; omega
    have hb := bk_x h hjl
    rw [Int.toNat_natCast] at f3
    have hfr := hnd_fr f3
    rw [if_pos c3, if_pos c3, a8 (Or.inr c3), hj, Int.toNat_natCast]
    rw [hb] at hfr ⊢
    obtain ⟨V', g1, g2, g3⟩ := X_moveNow h hjl f2 hfr
    rw [g1, bd2_s]
    exact ⟨V', rfl, g2, g3⟩
  rw [if_neg c3] at hf
  rw [if_neg c3, if_neg c3]
  by_cases c4 : c.1 = 4
  · rw [if_pos c4] at hf
    have f1 : isRq P c.2.2.2.1 := by
      by_cases z : isRq P c.2.2.2.1
      · exact z
      · rw [if_neg z] at hf; omega
    obtain ⟨j, hj⟩ : ∃ j : Nat, c.2.2.2.1 = (j : Int) := ⟨c.2.2.2.1.toNat, by omega⟩
    rw [hj] at f1
    obtain ⟨V', g1, g2, g3⟩ := X_withdraw h (i := j) (by have := f1.2; omega)
    rw [if_pos c4, if_pos c4, hj, Int.toNat_natCast, g1, bd_s]
    exact ⟨V', rfl, g2, g3⟩
  rw [if_neg c4] at hf
  rw [if_neg c4, if_neg c4]
  by_cases c5 : c.1 = 5
  · rw [if_pos c5] at hf
    have f1 : 0 ≤ c.2.2.2.1 ∧ c.2.2.2.1 ≤ 9 := by
      by_cases z : 0 ≤ c.2.2.2.1 ∧ c.2.2.2.1 ≤ 9
      · exact z
      · rw [if_neg z] at hf; omega
    obtain ⟨V', g1, g2, g3⟩ := X_freezeNow h f1
    rw [if_pos c5, if_pos c5, g1, bd2_s]
    exact ⟨V', rfl, g2, g3⟩
  rw [if_neg c5] at hf
  obtain ⟨f1, f2⟩ := adF_0 hf
  obtain ⟨V', g1, g2, g3⟩ := X_advanceNow h f1.1 f2
  rw [if_neg c5, if_neg c5, g1, bd2_s]
  exact ⟨V', rfl, g2, g3⟩
theorem M_carryOut {V : VV} {S : Su} {P : Pl} {cs : List Cm} {i : Nat} {c : Cm} (h : MK V S P) (hC : MC V cs) (hi : i < 30) (hc : cs[i]? = some c) (ho : okCm S c) : (flt S P c = 0 → ∃ V' : VV, f6_carryOut V (i : Int) = some (1, V') ∧ frM V V' ∧ MK V' S (exe S P c)) ∧ (flt S P c ≠ 0 → f6_carryOut V (i : Int) = some (0, V)) := by
  obtain ⟨a0, a1, a2⟩ := hC i c hc
  obtain ⟨o1, o2, o3, o4⟩ := ho
  have hp := h.pl
  have hr := h.ok.rg
  have r1 : rgI c.2.2.2.1 := by constructor <;> omega
  have r2 : rgI c.2.2.2.2 := by constructor <;> omega
  have e0 : (i : Int) * 5 = ((5 * i : Nat) : Int) := by omega
  have e1 : (i : Int) * 5 + 1 = ((5 * i + 1 : Nat) : Int) := by omega
  have e2 : (i : Int) * 5 + 2 = ((5 * i + 2 : Nat) : Int) := by omega
  have e3 : (i : Int) * 5 + 3 = ((5 * i + 3 : Nat) : Int) := by omega
  have e4 : (i : Int) * 5 + 4 = ((5 * i + 4 : Nat) : Int) := by omega
  unfold f6_carryOut
  rw [e1, e2, e3, e4, e0, ck_t (by omega), ck_t (by omega), ck_t (by omega), ck_t (by omega), ck_t (by omega)]
  simp only [Int.toNat_natCast]
  rw [a0, nrm_of (z := c.1) (by omega) (by omega), nrm_of (z := 999) (by omega) (by omega)]
  unfold flt exe
  by_cases c0 : c.1 = 0
  · obtain ⟨w1, w2⟩ := o2 (by omega)
    obtain ⟨s1, s2, s3, s4⟩ := a1 (by omega)
    rw [if_pos c0, if_pos c0, if_pos c0, s1, s2, s3, nrm_of (z := c.2.2.2.1) (by omega) (by omega)]
    unfold bkF
    rw [if_pos w1]
    by_cases z : (999 : Int) < c.2.2.2.1
    · rw [if_pos z, if_neg (show ¬ (0 ≤ c.2.2.2.1 ∧ c.2.2.2.1 ≤ 999) by omega)]
      exact ⟨fun q => absurd q (by omega), fun _ => rfl⟩
    · have hs : 0 ≤ c.2.2.2.1 ∧ c.2.2.2.1 ≤ 999 := by omega
      rw [if_neg z, if_pos hs, M_canBook h w1 w2 hs, bd_s]
      by_cases y : bkC S P c.2.1 c.2.2.1 c.2.2.2.1
      · obtain ⟨V', g1, g2, g3⟩ := M_addBooking h y.2.1 w1 w2 hs y.2.2
        rw [if_pos y, if_pos y, if_neg (show ¬ nrm 1 = 0 by decide +kernel), g1, bd_s]
        exact ⟨fun _ => ⟨V', rfl, g2, g3⟩, fun q => absurd rfl q⟩
      · rw [if_neg y, if_neg y, if_pos (show nrm 0 = 0 by decide +kernel)]
        exact ⟨fun q => absurd q (by omega), fun _ => rfl⟩
  rw [if_neg c0, if_neg c0, if_neg c0]
  by_cases c1 : c.1 = 1
  · obtain ⟨w1, w2⟩ := o2 (by omega)
    obtain ⟨s1, s2, s3, s4⟩ := a1 (by omega)
    rw [if_pos c1, if_pos c1, if_pos c1, s1, s2, s3, s4 c1, nrm_of (z := c.2.2.2.1) (by omega) (by omega)]
    unfold rqF
    rw [if_pos w1]
    by_cases z : (999 : Int) < c.2.2.2.1
    · rw [if_pos z, if_neg (show ¬ isWi c.2.2.2.1 c.2.2.2.2 from fun q => by have := q.1.2; omega)]
      exact ⟨fun q => absurd q (by omega), fun _ => rfl⟩
    · rw [if_neg z, M_in r2 r1 (by constructor <;> omega), bd_s]
      by_cases y : c.2.2.2.1 ≤ c.2.2.2.2 ∧ c.2.2.2.2 ≤ 999
      · have hw : isWi c.2.2.2.1 c.2.2.2.2 := ⟨by omega, y⟩
        rw [if_pos y, if_neg (show ¬ nrm 1 = 0 by decide +kernel), M_canRequest h w1 w2 hw, bd_s, if_pos hw]
        by_cases x : rqC S P c.2.1 c.2.2.1 c.2.2.2.1 c.2.2.2.2
        · obtain ⟨V', g1, g2, g3⟩ := M_requestIt h w1 w2 ⟨hw.1.1, hw.2.1, hw.2.2⟩ x
          rw [if_pos x, if_pos x, if_neg (show ¬ nrm 1 = 0 by decide +kernel), g1, bd2_s]
          exact ⟨fun _ => ⟨V', rfl, g2, g3⟩, fun q => absurd rfl q⟩
        · rw [if_neg x, if_neg x, if_pos (show nrm 0 = 0 by decide +kernel)]
          exact ⟨fun q => absurd q (by omega), fun _ => rfl⟩
      · rw [if_neg y, if_pos (show nrm 0 = 0 by decide +kernel), if_neg (show ¬ isWi c.2.2.2.1 c.2.2.2.2 from fun q => y q.2)]
        exact ⟨fun q => absurd q (by omega), fun _ => rfl⟩
  rw [if_neg c1, if_neg c1, if_neg c1]
  obtain ⟨s1, s3⟩ := a2 (by omega)
  rw [s1]
  by_cases c2 : c.1 = 2
  · rw [if_pos c2, if_pos c2, if_pos c2, M_isBooking h r1, bd_s]
    unfold cnF
    by_cases z : isBk P c.2.2.2.1
    · obtain ⟨j, hj⟩ : ∃ j : Nat, c.2.2.2.1 = (j : Int) := ⟨c.2.2.2.1.toNat, by omega⟩
      have hjl : j < P.2.2.2.2.2.1.length := by have := z.2; omega
      rw [if_pos z, if_pos z, if_neg (show ¬ nrm 1 = 0 by decide +kernel), hj, M_canCancel h hjl, bd_s, bk_m h hjl, Int.toNat_natCast]
      by_cases y : V 149 (110 + 4 * j + 2) ≤ P.2.1
      · rw [if_pos y, if_pos y, if_pos (show nrm 0 = 0 by decide +kernel)]
        exact ⟨fun q => absurd q (by omega), fun _ => rfl⟩
      · obtain ⟨V', g1, g2, g3⟩ := M_cancelIt h hjl
        rw [if_neg y, if_neg y, if_neg (show ¬ nrm 1 = 0 by decide +kernel), g1, bd2_s]
        exact ⟨fun _ => ⟨V', rfl, g2, g3⟩, fun q => absurd rfl q⟩
    · rw [if_neg z, if_neg z, if_pos (show nrm 0 = 0 by decide +kernel)]
      exact ⟨fun q => absurd q (by omega), fun _ => rfl⟩
  rw [if_neg c2, if_neg c2, if_neg c2]
  by_cases c3 : c.1 = 3
  · rw [if_pos c3, if_pos c3, if_pos c3, s3 c3, M_isBooking h r1, bd_s, nrm_of (z := c.2.2.2.2) (by omega) (by omega)]
    unfold mvF
    by_cases z : isBk P c.2.2.2.1
    · obtain ⟨j, hj⟩ : ∃ j : Nat, c.2.2.2.1 = (j : Int) := ⟨c.2.2.2.1.toNat, by omega⟩
      have hjl : j < P.2.2.2.2.2.1.length := by have := z.2; omega
      rw [if_pos z, if_pos z, if_neg (show ¬ nrm 1 = 0 by decide +kernel), hj, Int.toNat_natCast]
      by_cases y : (999 : Int) < c.2.2.2.2
      · rw [if_pos y, if_neg (show ¬ (0 ≤ c.2.2.2.2 ∧ c.2.2.2.2 ≤ 999) by omega)]
        exact ⟨fun q => absurd q (by omega), fun _ => rfl⟩
      · have hs : 0 ≤ c.2.2.2.2 ∧ c.2.2.2.2 ≤ 999 := by omega
        have hb := bk_m h hjl
        rw [if_neg y, if_pos hs, M_movingReason h hjl hs, bd_s, ← hb]
        have hz := hnd_rg (S := S) (P := P) (i := j) (b := bk P (j : Int)) (s := c.2.2.2.2)
        rw [nrm_of (z := hnd S P j (bk P (j : Int)) c.2.2.2.2) (by omega) (by omega)]
        by_cases x : hnd S P j (bk P (j : Int)) c.2.2.2.2 = 0
        · have hfr := hnd_fr x
          rw [if_pos x, if_pos x]
          rw [hb] at hfr ⊢
          obtain ⟨V', g1, g2, g3⟩ := M_moveIt h hjl hs hfr
          rw [g1, bd2_s]
          exact ⟨fun _ => ⟨V', rfl, g2, g3⟩, fun q => absurd rfl q⟩
        · rw [if_neg x, if_neg x]
          exact ⟨fun q => absurd q (by omega), fun _ => rfl⟩
    · rw [if_neg z, if_neg z, if_pos (show nrm 0 = 0 by decide +kernel)]
      exact ⟨fun q => absurd q (by omega), fun _ => rfl⟩
  rw [if_neg c3, if_neg c3, if_neg c3]
  by_cases c4 : c.1 = 4
  · rw [if_pos c4, if_pos c4, if_pos c4, M_isRequest h r1, bd_s]
    by_cases z : isRq P c.2.2.2.1
    · obtain ⟨j, hj⟩ : ∃ j : Nat, c.2.2.2.1 = (j : Int) := ⟨c.2.2.2.1.toNat, by omega⟩
      obtain ⟨V', g1, g2, g3⟩ := M_withdraw h (i := j) (by have := z.2; omega)
      rw [if_pos z, if_pos z, if_neg (show ¬ nrm 1 = 0 by decide +kernel), hj, g1, bd_s, Int.toNat_natCast]
      exact ⟨fun _ => ⟨V', rfl, g2, g3⟩, fun q => absurd rfl q⟩
    · rw [if_neg z, if_neg z, if_pos (show nrm 0 = 0 by decide +kernel)]
      exact ⟨fun q => absurd q (by omega), fun _ => rfl⟩
  rw [if_neg c4, if_neg c4, if_neg c4]
  by_cases c5 : c.1 = 5
  · rw [if_pos c5, if_pos c5, if_pos c5, nrm_of (z := c.2.2.2.1) (by omega) (by omega), nrm_of (z := 9) (by omega) (by omega)]
    by_cases z : c.2.2.2.1 ≤ 9
    · have hz : 0 ≤ c.2.2.2.1 ∧ c.2.2.2.1 ≤ 9 := by omega
      obtain ⟨V', g1, g2, g3⟩ := M_iceIt h hz
      rw [if_pos z, g1, bd2_s, if_pos hz]
      exact ⟨fun _ => ⟨V', rfl, g2, g3⟩, fun q => absurd rfl q⟩
    · rw [if_neg z, if_neg (show ¬ (0 ≤ c.2.2.2.1 ∧ c.2.2.2.1 ≤ 9) by omega)]
      exact ⟨fun q => absurd q (by omega), fun _ => rfl⟩
  rw [if_neg c5, if_neg c5, if_neg c5, M_in r1 (by constructor <;> omega) (by constructor <;> omega), bd_s, hp.2.1]
  unfold adF
  by_cases z : 1 ≤ c.2.2.2.1 ∧ c.2.2.2.1 ≤ 500
  · rw [if_pos z, if_pos z, if_neg (show ¬ nrm 1 = 0 by decide +kernel), nrm_of (by omega) (by omega), nrm_of (by omega) (by omega)]
    by_cases y : P.2.1 + c.2.2.2.1 ≤ 1200
    · obtain ⟨V', g1, g2, g3⟩ := M_advanceIt h z.1 y
      rw [if_pos y, if_pos y, g1, bd2_s]
      exact ⟨fun _ => ⟨V', rfl, g2, g3⟩, fun q => absurd rfl q⟩
    · rw [if_neg y, if_neg y]
      exact ⟨fun q => absurd q (by omega), fun _ => rfl⟩
  · rw [if_neg z, if_neg z, if_pos (show nrm 0 = 0 by decide +kernel)]
    exact ⟨fun q => absurd q (by omega), fun _ => rfl⟩
/-- the run of a script -/
def runC (S : Su) : List Cm → Nat → Pl → Nat × Pl
  | [], i, P => (i, P)
  | c :: l, i, P => if flt S P c = 0 then runC S l (i + 1) (exe S P c) else (i, P)
theorem XC.of {V V' : VV} {cs : List Cm} (h : XC V cs) (e : ∀ k, 3 ≤ k → k < 9 → V' k = V k) : XC V' cs := by
  unfold XC at *
  rw [e 3 (by omega) (by omega), e 4 (by omega) (by omega), e 5 (by omega) (by omega), e 6 (by omega) (by omega), e 7 (by omega) (by omega), e 8 (by omega) (by omega)]
  exact h
theorem MC.of {V V' : VV} {cs : List Cm} (h : MC V cs) (e : V' 153 = V 153) : MC V' cs := by
  unfold MC at *
  rw [e]
  exact h
theorem X_goL {S : Su} {cs : List Cm} (hl : cs.length ≤ 30) (hok : ∀ c ∈ cs, okCm S c) : ∀ (k m i : Nat) (V : VV) (P : Pl), k + 1 ≤ m → cs.length = i + k → CK V S P → XC V cs → ∃ V' : VV, f5_runScript_L23 m (i : Int) V = some (((runC S (cs.drop i) i P).1 : Int), V') ∧ fr0 V V' ∧ CK V' S (runC S (cs.drop i) i P).2 := by
  intro k
  induction k with
  | zero =>
    intro m i V P hm hi h hC
    obtain ⟨m, rfl⟩ : ∃ q, m = q + 1 := ⟨m - 1, by omega⟩
    refine ⟨V, ?_, fr0.rf, ?_⟩
    · rw [f5_runScript_L23, hC.1, nrm_of (by omega) (by omega), nrm_of (by omega) (by omega), if_pos (by omega), List.drop_eq_nil_of_le (by omega)]
      rfl
    · rw [List.drop_eq_nil_of_le (by omega)]; exact h
  | succ k ih =>
    intro m i V P hm hi h hC
    obtain ⟨m, rfl⟩ : ∃ q, m = q + 1 := ⟨m - 1, by omega⟩
    have hil : i < cs.length := by omega
    have hg := List.getElem?_eq_getElem hil
    have hcm := hok _ (List.getElem_mem hil)
    have hfr := fl_rg (S := S) (P := P) (c := cs[i])
    rw [f5_runScript_L23, hC.1, nrm_of (by omega) (by omega), nrm_of (by omega) (by omega), if_neg (by omega), X_faultOf h hC (by omega) hg hcm, bd_s, nrm_of (by omega) (by omega), List.drop_eq_getElem_cons hil, runC]
    by_cases c : flt S P cs[i] = 0
    · obtain ⟨V1, g1, g2, g3⟩ := X_execute h hC (by omega) hg hcm c
      rw [if_pos c, if_pos c, g1, bd_s]
      obtain ⟨V2, q1, q2, q3⟩ := ih m (i + 1) V1 (exe S P cs[i]) (by omega) (by omega) g3 (hC.of (fun k a b => g2 k (by omega)))
      rw [Int.natCast_add, Int.natCast_one] at q1
      exact ⟨V2, q1, g2.tr q2, q3⟩
    · rw [if_neg c, if_neg c]
      exact ⟨V, rfl, fr0.rf, h⟩
theorem M_goL {S : Su} {cs : List Cm} (hl : cs.length ≤ 30) (hok : ∀ c ∈ cs, okCm S c) : ∀ (k m i : Nat) (V : VV) (P : Pl), k + 1 ≤ m → cs.length = i + k → MK V S P → MC V cs → ∃ V' : VV, f6_runScript_L42 (cs.length : Int) m (i : Int) V = some (((runC S (cs.drop i) i P).1 : Int), V') ∧ frM V V' ∧ MK V' S (runC S (cs.drop i) i P).2 := by
  intro k
  induction k with
  | zero =>
    intro m i V P hm hi h hC
    obtain ⟨m, rfl⟩ : ∃ q, m = q + 1 := ⟨m - 1, by omega⟩
    refine ⟨V, ?_, frM.rf, ?_⟩
    · rw [f6_runScript_L42, nrm_of (by omega) (by omega), nrm_of (by omega) (by omega), if_pos (by omega), List.drop_eq_nil_of_le (by omega)]
      rfl
    · rw [List.drop_eq_nil_of_le (by omega)]; exact h
  | succ k ih =>
    intro m i V P hm hi h hC
    obtain ⟨m, rfl⟩ : ∃ q, m = q + 1 := ⟨m - 1, by omega⟩
    have hil : i < cs.length := by omega
    have hg := List.getElem?_eq_getElem hil
    have hcm := hok _ (List.getElem_mem hil)
    obtain ⟨g0, gn⟩ := M_carryOut h hC (by omega) hg hcm
    rw [f6_runScript_L42, nrm_of (by omega) (by omega), nrm_of (by omega) (by omega), if_neg (by omega), List.drop_eq_getElem_cons hil, runC]
    by_cases c : flt S P cs[i] = 0
    · obtain ⟨V1, g1, g2, g3⟩ := g0 c
      rw [if_pos c, g1, bd2_s, if_neg (show ¬ nrm 1 = 0 by decide +kernel)]
      obtain ⟨V2, q1, q2, q3⟩ := ih m (i + 1) V1 (exe S P cs[i]) (by omega) (by omega) g3 (hC.of (g2.1 153 (by omega)))
      rw [Int.natCast_add, Int.natCast_one] at q1
      exact ⟨V2, q1, g2.tr q2, q3⟩
    · rw [if_neg c, gn c, bd2_s, if_pos (show nrm 0 = 0 by decide +kernel)]
      exact ⟨V, rfl, frM.rf, h⟩
/-- the class's cells of one state, the reference's of another -/
def mix (A B : VV) : VV := fun k => if k < 148 then A k else B k
theorem mix_x {A B : VV} {k : Nat} (h : k < 148) : mix A B k = A k := if_pos h
theorem mix_m {A B : VV} {k : Nat} (h : 148 ≤ k) : mix A B k = B k := if_neg (by omega)
theorem op_runScript : Op1 [eA] (fun V => f5_runScript V) (fun V => f6_runScript V) := by
  intro V S P h
  obtain ⟨i1, ⟨i2, i3⟩, i4, i5, i6⟩ := h.2.2.2.2.2.1
  have hS := h.ck.2.2.2.1
  have hq := h.ck.2.2.1
  obtain ⟨N, hN⟩ : ∃ n : Nat, V 1 1 = (n : Int) := ⟨(V 1 1).toNat, by omega⟩
  have hF : okF (V 151) N := ⟨by omega, fun j hj => (i4 j (by omega)).2⟩
  rcases X_readScript hF hN (fun j hj => (i4 j (by omega)).1) hq rfl h.ck.2.1 hS with ⟨A, cs, a1, a2, a3, a4, a5, a6, a7⟩ | ⟨A, e, a1, a2, a3⟩
  · -- a good text
    obtain ⟨X, hX⟩ : ∃ X, X = up2 A 1 1 0 := ⟨_, rfl⟩
    have xk : ∀ k, k ≠ 1 → ¬ (3 ≤ k ∧ k < 9) → X k = V k := fun k k1 k2 => by rw [hX, up2_r k1, a4 k k1 k2]
    have x0 : X 0 = V 0 := xk 0 (by omega) (by omega)
    have hcx : CK X S P := h.ck.of (by rw [x0]) (fun k k1 k2 => xk k (by omega) (by omega))
    obtain ⟨W, w1, w2, w3⟩ := X_rem hcx (by rw [x0]; exact h.2.2.2.1.1) (by rw [x0]; exact h.2.2.2.1.2.2.1)
    have hxc : XC W cs := a5.of (fun k k1 k2 => by rw [w2.1 k (by omega) (by omega), hX, up2_r (by omega)])
    obtain ⟨V1, v1, v2, v3⟩ := X_goL a6 a7 cs.length FU 0 W P (by have := FU_ge; omega) (by omega) w3 hxc
    rw [nc0, List.drop_zero] at v1
    rw [List.drop_zero] at v3
    have hf5 : f5_runScript V = some (.ok ((runC S cs 0 P).1 : Int), V1) := by
      unfold f5_runScript
      rw [a2, bd2_s, if_neg (show ¬ nrm 1 = 0 by decide +kernel), ← hX, w1, bd_s, v1, bd2_s]
    have vX : ∀ k, k ≠ 0 → ¬ (76 ≤ k ∧ k < 130) → ¬ (53 ≤ k ∧ k < 62) → V1 k = X k := fun k k0 k1 k2 => by rw [v2 k k2, w2.1 k k0 k1]
    have vV : ∀ k, 148 ≤ k → V1 k = V k := fun k hk => by rw [vX k (by omega) (by omega) (by omega), xk k (by omega) (by omega)]
    obtain ⟨B, c1, c2, c3, c4, c5, c6⟩ := M_begin (V := V1) hF (by rw [vV 148 (by omega), ← i1, hN]) (fun j hj => by rw [vV 151 (by omega)])
    rcases M_parseScript hF hS c2 (rpN_of h.mk.2.1 (by rw [c5 149 (by omega), vV 149 (by omega)])) with ⟨C, cs', d1, d2, d3, d4, d5⟩ | ⟨C, e, d1, d2, -⟩
    · have hcs : cs' = cs := by rw [a1] at d1; cases d1; rfl
      subst hcs
      obtain ⟨D, hD⟩ : ∃ D, D = up2 (up2 C 148 4 0) 148 9 0 := ⟨_, rfl⟩
      have dk : ∀ k, k ≠ 148 → k ≠ 153 → D k = V1 k := fun k k1 k2 => by rw [hD, up2_r k1, up2_r k1, d4.1 k k1 k2, c5 k k1]
      have d148 : ∀ i, i ≠ 4 → i ≠ 5 → i ≠ 6 → i ≠ 9 → i ≠ 10 → i ≠ 11 → i ≠ 12 → i ≠ 13 → D 148 i = V 148 i := fun i i4 i5 i6 i9 i10 i11 i12 i13 => by rw [hD, up2_n (by omega), up2_n (by omega), d4.2 i i5 i6 i10 i11 i12 i13, c6 i i5 i6 i10 i11 i12 i13, vV 148 (by omega)]
      have hmD : MK D S P := h.mk.of (by rw [dk 149 (by omega) (by omega), vV 149 (by omega)])
      have hu := h.2.2.2.1
      obtain ⟨W2, m1, m2, m3⟩ := M_remember hmD (by rw [d148 2 (by omega) (by omega) (by omega) (by omega) (by omega) (by omega) (by omega) (by omega), ← hu.2.1]; exact hu.2.2.1)
      have hmc : MC W2 cs' := d5.of (by rw [m2.1 153 (by omega) (by omega), hD, up2_r (by omega), up2_r (by omega)])
      obtain ⟨V2, n1, n2, n3⟩ := M_goL a6 a7 cs'.length FU 0 W2 P (by have := FU_ge; omega) (by omega) m3 hmc
      rw [nc0, List.drop_zero] at n1
      rw [List.drop_zero] at n3
      have hf6 : f6_runScript V1 = some (((runC S cs' 0 P).1 : Int), V2) := by
        unfold f6_runScript
        rw [c1, bd_s, d2, bd2_s, if_neg (show ¬ nrm (cs'.length : Int) = nrm (-1) by rw [nrm_of (by omega) (by omega), nrm_of (by omega) (by omega)]; omega), bd_s, M_fails0]
        simp only [bd2_s, n00, if_true]
        rw [← hD, m1, bd_s, n1, bd2_s]
      -- the relation, by a mixed state
      have e12 : A 1 2 = 0 := a3.1
      have e13 : A 1 3 = -1 := a3.2
      have hV0 : RV (mix X D) S P := by
        refine h.inp (by rw [mix_x (by omega), x0]) (fun k k1 k2 => ?_) (fun k k1 k2 => by rw [mix_x (by omega), xk k (by omega) (by omega)]) (fun k k1 k2 => by rw [mix_x (by omega), xk k (by omega) (by omega)]) ?_ ?_ (fun t ht => ?_) ?_ ?_ ?_
        · have : 9 ≤ k ∧ k < 53 := by unfold aS at k1 k2; omega
          rw [mix_x (by omega), xk k (by omega) (by omega)]
        · rw [mix_m (by omega)]; exact d148 2 (by omega) (by omega) (by omega) (by omega) (by omega) (by omega) (by omega) (by omega)
        · rw [mix_m (by omega)]; exact d148 8 (by omega) (by omega) (by omega) (by omega) (by omega) (by omega) (by omega) (by omega)
        · rw [mix_m (by omega), dk 149 (by omega) (by omega), vV 149 (by omega)]
        · rw [mix_m (by omega), dk 150 (by omega) (by omega), vV 150 (by omega)]
        · rw [mix_m (by omega), dk 152 (by omega) (by omega), vV 152 (by omega)]
        · unfold RIn
          rw [mix_x (show 1 < 148 by omega), mix_m (show 148 ≤ 148 by omega), mix_x (show 2 < 148 by omega), mix_m (show 148 ≤ 151 by omega), hX, up2_s, up2_n (by omega), up2_n (by omega), e12, e13, hD, up2_n (by omega), up2_s, up2_n (by omega), up2_n (by omega), up2_n (by omega), up2_n (by omega), d3.1, d3.2, c3, c4]
          exact ⟨rfl, by omega, fun j hj => absurd hj (by omega), rfl, rfl⟩
      have hx0 : xrem (mix X D) (mix W D) P := by
        obtain ⟨y1, y2, y3, y4, y5, y6⟩ := w2
        refine ⟨fun k k1 k2 => ?_, fun i a b => ?_, ?_, ?_, ?_, fun q q1 q2 c' c1' c2' => ?_⟩
        · by_cases z : k < 148
          · rw [mix_x z, mix_x z, y1 k k1 k2]
          · rw [mix_m (by omega), mix_m (by omega)]
        · rw [mix_x (by omega), mix_x (by omega), y2 i a b]
        · rw [mix_x (by omega), mix_x (by omega), y3]
        · rw [mix_x (by omega), mix_x (by omega), y4]
        · rw [mix_x (show 0 < 148 by omega)]
          have hL : 0 ≤ W 0 7 ∧ W 0 7 < 6 := by
            rw [y3]; have := h.2.2.2.1.1; rw [x0]; unfold nx; split <;> omega
          refine rpC_of y5 (fun c' k1 k2 => mix_x ?_)
          rw [aPq (by omega)] at k2
          omega
        · rw [mix_x (show 0 < 148 by omega)] at q2
          have h9 := y6 q q1 q2 c' c1' c2'
          rw [aPq (by omega)] at c1' c2'
          rw [mix_x (by omega), mix_x (by omega), h9]
      have hf0 : fr0 (mix W D) (mix V1 D) := fun k hk => by
        by_cases z : k < 148
        · rw [mix_x z, mix_x z, v2 k hk]
        · rw [mix_m (by omega), mix_m (by omega)]
      have hcV1 : CK (mix V1 D) S (runC S cs' 0 P).2 := v3.of (by rw [mix_x (by omega)]) (fun k k1 k2 => mix_x (by omega))
      have hup : up2 (mix V1 D) 148 9 0 = D := by
        funext k i
        by_cases z : k = 148
        · subst z
          by_cases z2 : i = 9
          · subst z2; rw [up2_s, hD, up2_s]
          · rw [up2_n (by omega), mix_m (by omega)]
        · rw [up2_r z]
          by_cases z2 : k < 148
          · rw [mix_x z2, dk k z (by omega)]
          · rw [mix_m (by omega)]
      refine ⟨.ok ((runC S cs' 0 P).1 : Int), V1, _, V2, hf5, hf6, ?_, fun r hr => okr hr rfl, S, (runC S cs' 0 P).2, hV0.chg (W := mix W D) (V1 := mix V1 D) (W2 := W2) (z := 0) hx0 hf0 hcV1 (by rw [hup]; exact m2) n2 n3⟩
      rw [n2.1 148 (by omega), m2.2.1 9 (by omega), hD, up2_s]
      rfl
    · exfalso
      rw [a1] at d1
      cases d1
  · -- a text with an error
    obtain ⟨V1, hV1⟩ : ∃ V1, V1 = up2 A 1 1 0 := ⟨_, rfl⟩
    have vk : ∀ k, k ≠ 1 → ¬ (3 ≤ k ∧ k < 9) → V1 k = V k := fun k k1 k2 => by rw [hV1, up2_r k1, a3.2.2 k k1 k2]
    have hf5 : f5_runScript V = some (.error eA, V1) := by
      unfold f5_runScript
      rw [a2, bd2_s, if_pos (show nrm 0 = 0 by decide +kernel), ← hV1]
    obtain ⟨B, c1, c2, c3, c4, c5, c6⟩ := M_begin (V := V1) hF (by rw [vk 148 (by omega) (by omega), ← i1, hN]) (fun j hj => by rw [vk 151 (by omega) (by omega)])
    rcases M_parseScript hF hS c2 (rpN_of h.mk.2.1 (by rw [c5 149 (by omega), vk 149 (by omega) (by omega)])) with ⟨C, cs', d1, d2, -⟩ | ⟨C, e', d1, d2, d3, d4, d5⟩
    · exfalso
      rw [a1] at d1
      cases d1
    · have hee : e' = e := by rw [a1] at d1; cases d1; rfl
      subst hee
      obtain ⟨D, hD⟩ : ∃ D, D = up2 (up2 C 148 4 0) 148 9 1 := ⟨_, rfl⟩
      have hf6 : f6_runScript V1 = some (0, D) := by
        unfold f6_runScript
        rw [c1, bd_s, d2, bd2_s, if_pos rfl, bd_s, M_fails1 (Or.inl rfl) (Or.inl rfl)]
        simp only [bd2_s, n10, if_false]
        rw [← hD]
      have dk : ∀ k, k ≠ 148 → k ≠ 153 → D k = V1 k := fun k k1 k2 => by rw [hD, up2_r k1, up2_r k1, d5.1 k k1 k2, c5 k k1]
      have d148 : ∀ i, i ≠ 4 → i ≠ 5 → i ≠ 6 → i ≠ 9 → i ≠ 10 → i ≠ 11 → i ≠ 12 → i ≠ 13 → D 148 i = V 148 i := fun i i4 i5 i6 i9 i10 i11 i12 i13 => by rw [hD, up2_n (by omega), up2_n (by omega), d5.2 i i5 i6 i10 i11 i12 i13, c6 i i5 i6 i10 i11 i12 i13, vk 148 (by omega) (by omega)]
      refine ⟨.error eA, V1, 0, D, hf5, hf6, ?_, fun r hr => ner hr, S, P, h.inp ?_ (fun k k1 k2 => ?_) (fun k k1 k2 => ?_) (fun k k1 k2 => ?_) (d148 2 (by omega) (by omega) (by omega) (by omega) (by omega) (by omega) (by omega) (by omega)) (d148 8 (by omega) (by omega) (by omega) (by omega) (by omega) (by omega) (by omega) (by omega)) (fun t ht => ?_) ?_ ?_ ?_⟩
      · rw [hD, up2_s]; exact cod_1.symm
      · rw [dk 0 (by omega) (by omega), vk 0 (by omega) (by omega)]
      · have : 9 ≤ k ∧ k < 53 := by unfold aS at k1 k2; omega
        rw [dk k (by omega) (by omega), vk k (by omega) (by omega)]
      · rw [dk k (by omega) (by omega), vk k (by omega) (by omega)]
      · rw [dk k (by omega) (by omega), vk k (by omega) (by omega)]
      · rw [dk 149 (by omega) (by omega), vk 149 (by omega) (by omega)]
      · rw [dk 150 (by omega) (by omega), vk 150 (by omega) (by omega)]
      · rw [dk 152 (by omega) (by omega), vk 152 (by omega) (by omega)]
      · unfold RIn
        rw [dk 1 (by omega) (by omega), hV1, up2_s, up2_n (by omega), up2_n (by omega), a3.1, a3.2.1, hD, up2_n (by omega), up2_s, up2_n (by omega), up2_n (by omega), up2_n (by omega), up2_n (by omega), d3, d4]
        exact ⟨rfl, by omega, fun j hj => absurd hj (by omega), rfl, rfl⟩
