/-! more changes -/
theorem bd_q {α β : Type} {x : α} {f : α → Option β} : bd (some x) f = f x := Eq.trans bd_s rfl
theorem op_request {x y e la : Int} (hx : rgI x) (hy : y = 0 ∨ y = 1) (he : rgI e) (hl : rgI la) : Op1 [eI, eA, eS] (fun V => f5_request V x y e la) (fun V => f6_request V x y e la) := by
  intro V S P h
  have hX := X_requestFault h.ck hx hy he hl
  have hW : ∀ {W : VV}, f6_in W e 0 999 = some (if 0 ≤ e ∧ e ≤ 999 then 1 else 0) := fun {W} => M_in he (by constructor <;> omega) (by constructor <;> omega)
  have hW2 : ∀ {W : VV}, f6_in W la e 999 = some (if e ≤ la ∧ la ≤ 999 then 1 else 0) := fun {W} => M_in hl he (by constructor <;> omega)
  by_cases c : isSp S x
  · by_cases c2 : isWi e la
    · by_cases c3 : rqC S P x y e la
      · have hw : 0 ≤ e ∧ e ≤ la ∧ la ≤ 999 := ⟨c2.1.1, c2.2.1, c2.2.2⟩
        obtain ⟨V1, V2, k1, k2, k3, k4, k5⟩ := chg_ok h (P' := (reqP S P x y e la).2) (r := (reqP S P x y e la).1) (F5 := fun W => f5_requestNow W x y e la) (F6 := fun W43 => bd ((if nrm y = 0 then some (0) else some (1))) (fun y45 => bd2 (f6_requestIt W43 x y45 e la) (fun r49 W50 => some (r49, W50)))) (fun W hW => X_requestNow hW c hy hw c3) (fun W hW => by
          obtain ⟨V', g1, g2, g3⟩ := M_requestIt hW c hy hw c3
          refine ⟨V', ?_, g2, g3⟩
          show bd (if nrm y = 0 then some 0 else some 1) _ = _
          rw [y01 hy, bd_s, g1, bd2_s])
        refine ⟨.ok ((reqP S P x y e la).1), V1, _, V2, ?_, ?_, k4, fun r hr => okr hr rfl, S, _, k5⟩
        · show f5_request V x y e la = _
          unfold f5_request
          rw [hX]
          unfold rqF
          rw [if_pos c, if_pos c2, if_pos c3, bd_s, rf0]
          exact k1
        · show f6_request V1 x y e la = _
          have hmk : MK V1 S P := h.mk.of k2
          unfold f6_request
          rw [hW, if_pos c2.1, hW2, if_pos c2.2, M_isShip hmk hx, if_pos c, y01 hy]
          simp only [bd_q, n10, if_false]
          rw [M_canRequest hmk c hy c2, if_pos c3]
          simp only [bd_q, n10, if_false]
          rw [M_fails0]
          simp only [bd2_s, n00, if_true]
          rw [y01 hy] at k3
          exact k3
      · refine ⟨.error eS, V, 0, up2 V 148 9 3, ?_, ?_, (up2_s _ _ _ _).trans (cod_3 eIS eAS).symm, fun r hr => ner hr, S, P, h.thr 3⟩
        · show f5_request V x y e la = _
          unfold f5_request
          rw [hX]
          unfold rqF
          rw [if_pos c, if_pos c2, if_neg c3, bd_s, rf3]
        · show f6_request V x y e la = _
          unfold f6_request
          rw [hW, if_pos c2.1, hW2, if_pos c2.2, M_isShip h.mk hx, if_pos c, y01 hy]
          simp only [bd_q, n10, if_false]
          rw [M_canRequest h.mk c hy c2, if_neg c3]
          simp only [bd_q, n00, if_true]
          rw [M_fails3]
          simp only [bd2_s, n10, if_false]
    · refine ⟨.error eA, V, 0, up2 V 148 9 2, ?_, ?_, (up2_s _ _ _ _).trans (cod_2 eIA).symm, fun r hr => ner hr, S, P, h.thr 2⟩
      · show f5_request V x y e la = _
        unfold f5_request
        rw [hX]
        unfold rqF
        rw [if_pos c, if_neg c2, bd_s, rf2]
      · show f6_request V x y e la = _
        have hw0 : (bd (f6_in V e 0 999) (fun r2 => (if nrm r2 = 0 then some (0 : Int) else bd (f6_in V la e 999) (fun r5 => (if nrm r5 = 0 then some (0) else some (1)))))) = some 0 := by
          rw [hW, hW2]
          by_cases q1 : 0 ≤ e ∧ e ≤ 999
          · rw [if_pos q1, if_neg (fun q2 => c2 ⟨q1, q2⟩)]
            simp only [bd_q, n10, n00, if_false, if_true]
          · rw [if_neg q1]
            simp only [bd_q, n00, if_true]
        rw [hW, bd_s] at hw0
        unfold f6_request
        rw [hW, bd_s, hw0, M_isShip h.mk hx, if_pos c]
        simp only [bd_q, n10, n00, if_false, if_true]
        rw [M_fails2 (Or.inl rfl)]
        simp only [bd2_s, n10, if_false]
  · refine ⟨.error eI, V, 0, up2 V 148 9 1, ?_, ?_, (up2_s _ _ _ _).trans cod_1.symm, fun r hr => ner hr, S, P, h.thr 1⟩
    · show f5_request V x y e la = _
      unfold f5_request
      rw [hX]
      unfold rqF
      rw [if_neg c, bd_s, rf1]
    · show f6_request V x y e la = _
      obtain ⟨w, hw0, hw1⟩ : ∃ w : Int, (bd (f6_in V e 0 999) (fun r2 => (if nrm r2 = 0 then some (0 : Int) else bd (f6_in V la e 999) (fun r5 => (if nrm r5 = 0 then some (0) else some (1)))))) = some w ∧ (w = 0 ∨ w = 1) := by
        rw [hW, hW2]
        by_cases q1 : 0 ≤ e ∧ e ≤ 999
        · by_cases q2 : e ≤ la ∧ la ≤ 999
          · refine ⟨1, ?_, Or.inr rfl⟩
            rw [if_pos q1, if_pos q2]
            simp only [bd_q, n10, n00, if_false, if_true]
          · refine ⟨0, ?_, Or.inl rfl⟩
            rw [if_pos q1, if_neg q2]
            simp only [bd_q, n10, n00, if_false, if_true]
        · refine ⟨0, ?_, Or.inl rfl⟩
          rw [if_neg q1]
          simp only [bd_q, n00, if_true]
      rw [hW, bd_s] at hw0
      unfold f6_request
      rw [hW, bd_s, hw0, M_isShip h.mk hx, if_neg c]
      simp only [bd_q, n00, if_true]
      rcases hw1 with q | q <;> subst q <;> simp only [bd_s, n00, n10, if_true, if_false]
      · rw [M_fails1 (Or.inr rfl) (Or.inl rfl)]
        simp only [bd2_s, n10, if_false]
      · rw [M_fails1 (Or.inl rfl) (Or.inl rfl)]
        simp only [bd2_s, n10, if_false]
theorem op_cancel {x : Int} (hx : rgI x) : Op1 [eI, eS] (fun V => f5_cancel V x) (fun V => f6_cancel V x) := by
  intro V S P h
  have hX := X_cancelFault h.ck hx
  by_cases c : isBk P x
  · obtain ⟨i, rfl⟩ : ∃ i : Nat, x = (i : Int) := ⟨x.toNat, by omega⟩
    have hi : i < P.2.2.2.2.2.1.length := by omega
    have hb := bk_m h.mk hi
    by_cases c3 : (bk P (i : Int)).2.2.1 ≤ P.2.1
    · refine ⟨.error eS, V, 0, up2 V 148 9 2, ?_, ?_, (up2_s _ _ _ _).trans (cod_2 eIS).symm, fun r hr => ner hr, S, P, h.thr 2⟩
      · show f5_cancel V (i : Int) = _
        unfold f5_cancel
        rw [hX]
        unfold cnF
        rw [if_pos c, if_pos c3, bd_s, rf3]
      · show f6_cancel V (i : Int) = _
        unfold f6_cancel
        rw [M_isBooking h.mk hx, if_pos c, M_canCancel h.mk hi]
        rw [hb] at c3
        rw [if_pos c3]
        simp only [bd_s, n10, n00, if_false, if_true]
        rw [M_fails2 (Or.inl rfl)]
        simp only [bd2_s, n10, if_false]
    · obtain ⟨V1, V2, k1, k2, k3, k4, k5⟩ := chg_ok h (P' := (cancelP S P i).2) (r := (cancelP S P i).1) (F5 := fun W => f5_cancelNow W (i : Int)) (F6 := fun W19 => bd2 (f6_cancelIt W19 (i : Int)) (fun r21 W22 => some (r21, W22))) (fun W hW => X_cancelNow hW hi) (fun W hW => by
        obtain ⟨V', g1, g2, g3⟩ := M_cancelIt hW hi
        refine ⟨V', ?_, g2, g3⟩
        show bd2 (f6_cancelIt W (i : Int)) _ = _
        rw [g1, bd2_s])
      refine ⟨.ok ((cancelP S P i).1), V1, _, V2, ?_, ?_, k4, fun r hr => okr hr rfl, S, _, k5⟩
      · show f5_cancel V (i : Int) = _
        unfold f5_cancel
        rw [hX]
        unfold cnF
        rw [if_pos c, if_neg c3, bd_s, rf0]
        exact k1
      · show f6_cancel V1 (i : Int) = _
        have hmk : MK V1 S P := h.mk.of k2
        unfold f6_cancel
        rw [M_isBooking hmk hx, if_pos c, M_canCancel hmk hi]
        rw [bk_m hmk hi] at c3
        rw [if_neg c3]
        simp only [bd_s, n10, if_false]
        rw [M_fails0]
        simp only [bd2_s, n00, if_true]
        exact k3
  · refine ⟨.error eI, V, 0, up2 V 148 9 1, ?_, ?_, (up2_s _ _ _ _).trans cod_1.symm, fun r hr => ner hr, S, P, h.thr 1⟩
    · show f5_cancel V x = _
      unfold f5_cancel
      rw [hX]
      unfold cnF
      rw [if_neg c, bd_s, rf1]
    · show f6_cancel V x = _
      unfold f6_cancel
      rw [M_isBooking h.mk hx, if_neg c]
      simp only [bd_s, n00, if_true]
      rw [M_fails1 (Or.inl rfl) (Or.inl rfl)]
      simp only [bd2_s, n10, if_false]
theorem hnd_fr {S : Su} {P : Pl} {i : Nat} {b : Bk} {s : Int} (h : hnd S P i b s = 0) : frB S P.2.2.2.2.2.1 b.2.1 (b.2.2.2 - b.2.2.1) (i : Int) s = true := by
  unfold hnd at h
  split at h
  · omega
  · split at h
    · omega
    · split at h
      · assumption
      · omega
theorem op_moveBooking {x s : Int} (hx : rgI x) (hs : rgI s) : Op1 [eI, eA, eS] (fun V => f5_moveBooking V x s) (fun V => f6_moveBooking V x s) := by
  intro V S P h
  have hX := X_moveFault h.ck hx hs
  have hW : ∀ {W : VV}, f6_in W s 0 999 = some (if 0 ≤ s ∧ s ≤ 999 then 1 else 0) := fun {W} => M_in hs (by constructor <;> omega) (by constructor <;> omega)
  by_cases c : isBk P x
  · obtain ⟨i, rfl⟩ : ∃ i : Nat, x = (i : Int) := ⟨x.toNat, by omega⟩
    have hi : i < P.2.2.2.2.2.1.length := by omega
    by_cases c2 : 0 ≤ s ∧ s ≤ 999
    · have hmr : ∀ {W : VV}, MK W S P → f6_movingReason W (i : Int) s = some (hnd S P i (bk P (i : Int)) s) := fun {W} hW => by rw [M_movingReason hW hi c2, bk_m hW hi]
      have hz := hnd_rg (S := S) (P := P) (i := i) (b := bk P (i : Int)) (s := s)
      by_cases c3 : hnd S P i (bk P (i : Int)) s = 0
      · have hfr := hnd_fr c3
        obtain ⟨V1, V2, k1, k2, k3, k4, k5⟩ := chg_ok h (P' := (moveP S P i (bk P (i : Int)) s).2) (r := (moveP S P i (bk P (i : Int)) s).1) (F5 := fun W => f5_moveNow W (i : Int) s) (F6 := fun W34 => bd2 (f6_moveIt W34 (i : Int) s) (fun r36 W37 => some (r36, W37))) (fun W hW => by
          have hb := bk_x hW hi
          rw [hb] at hfr ⊢
          exact X_moveNow hW hi c2 hfr) (fun W hW => by
          have hb := bk_m hW hi
          rw [hb] at hfr ⊢
          obtain ⟨V', g1, g2, g3⟩ := M_moveIt hW hi c2 hfr
          refine ⟨V', ?_, g2, g3⟩
          show bd2 (f6_moveIt W (i : Int) s) _ = _
          rw [g1, bd2_s])
        refine ⟨.ok ((moveP S P i (bk P (i : Int)) s).1), V1, _, V2, ?_, ?_, k4, fun r hr => okr hr rfl, S, _, k5⟩
        · show f5_moveBooking V (i : Int) s = _
          unfold f5_moveBooking
          rw [hX]
          unfold mvF
          rw [if_pos c, if_pos c2, Int.toNat_natCast, if_pos c3, bd_s, rf0]
          exact k1
        · show f6_moveBooking V1 (i : Int) s = _
          have hmk : MK V1 S P := h.mk.of k2
          unfold f6_moveBooking
          rw [M_isBooking hmk hx, if_pos c, hW, if_pos c2, hmr hmk, c3]
          simp only [bd_s, n10, n00, if_true, if_false]
          rw [M_fails0]
          simp only [bd2_s, n00, if_true]
          exact k3
      · refine ⟨.error eS, V, 0, up2 V 148 9 3, ?_, ?_, (up2_s _ _ _ _).trans (cod_3 eIS eAS).symm, fun r hr => ner hr, S, P, h.thr 3⟩
        · show f5_moveBooking V (i : Int) s = _
          unfold f5_moveBooking
          rw [hX]
          unfold mvF
          rw [if_pos c, if_pos c2, Int.toNat_natCast, if_neg c3, bd_s, rf3]
        · show f6_moveBooking V (i : Int) s = _
          unfold f6_moveBooking
          rw [M_isBooking h.mk hx, if_pos c, hW, if_pos c2, hmr h.mk]
          generalize hnd S P i (bk P (i : Int)) s = z at *
          have hz0 : ¬ nrm z = 0 := by rw [nrm_of (by omega) (by omega)]; exact c3
          simp only [bd_s, n10, if_false]
          rw [if_neg hz0]
          simp only [bd_s]
          rw [M_fails3]
          simp only [bd2_s, n10, if_false]
    · refine ⟨.error eA, V, 0, up2 V 148 9 2, ?_, ?_, (up2_s _ _ _ _).trans (cod_2 eIA).symm, fun r hr => ner hr, S, P, h.thr 2⟩
      · show f5_moveBooking V (i : Int) s = _
        unfold f5_moveBooking
        rw [hX]
        unfold mvF
        rw [if_pos c, if_neg c2, bd_s, rf2]
      · show f6_moveBooking V (i : Int) s = _
        unfold f6_moveBooking
        rw [M_isBooking h.mk hx, if_pos c, hW, if_neg c2]
        simp only [bd_s, n10, n00, if_false, if_true]
        rw [M_fails2 (Or.inl rfl)]
        simp only [bd2_s, n10, if_false]
  · refine ⟨.error eI, V, 0, up2 V 148 9 1, ?_, ?_, (up2_s _ _ _ _).trans cod_1.symm, fun r hr => ner hr, S, P, h.thr 1⟩
    · show f5_moveBooking V x s = _
      unfold f5_moveBooking
      rw [hX]
      unfold mvF
      rw [if_neg c, bd_s, rf1]
    · show f6_moveBooking V x s = _
      unfold f6_moveBooking
      rw [M_isBooking h.mk hx, if_neg c, hW]
      simp only [bd_s, n00, if_true]
      rw [n_not]
      simp only [bd_s]
      rw [M_fails1 p01 (Or.inl rfl)]
      simp only [bd2_s, n10, if_false]
theorem op_withdraw {x : Int} (hx : rgI x) : Op1 [eI] (fun V => f5_withdraw V x) (fun V => f6_withdraw V x) := by
  intro V S P h
  have hr := h.ck.ok.rg
  by_cases c : isRq P x
  · obtain ⟨i, rfl⟩ : ∃ i : Nat, x = (i : Int) := ⟨x.toNat, by omega⟩
    have hi : i < P.2.2.2.2.2.2.length := by omega
    obtain ⟨V1, V2, k1, k2, k3, k4, k5⟩ := chg_ok h (P' := remRP P i) (r := (rqq P (i : Int)).1) (F5 := fun W5 => ck ((0:Int) ≤ (i : Int) ∧ (i : Int) < 8) (bd (f1_removeRequest W5 0 (i : Int)) (fun W8 => some (W5 (aP 0 + 5) (Int.toNat (i : Int)), W8)))) (F6 := fun W12 => bd (f6_ofRequest W12 (i : Int) 0) (fun r14 => bd (f6_removeRequest W12 (i : Int)) (fun W16 => some (r14, W16)))) (fun W hW => by
      obtain ⟨V', g1, g2, g3⟩ := X_withdraw hW hi
      refine ⟨V', ?_, g2, g3⟩
      show ck _ (bd (f1_removeRequest W 0 (i : Int)) _) = _
      rw [ck_t (by omega), g1, bd_s, rqq_x hW hi, Int.toNat_natCast]
      rfl) (fun W hW => by
      obtain ⟨V', g1, g2, g3⟩ := M_withdraw hW hi
      refine ⟨V', ?_, g2, g3⟩
      show bd (f6_ofRequest W (i : Int) 0) _ = _
      rw [M_ofRequest (i := i) (y := 0) (j := 0) rfl rfl (by omega) (by omega), bd_s, g1, bd_s, rqq_m hW hi]
      rfl)
    refine ⟨.ok ((rqq P (i : Int)).1), V1, _, V2, ?_, ?_, k4, fun r hr => okr hr rfl, S, _, k5⟩
    · show f5_withdraw V (i : Int) = _
      unfold f5_withdraw
      rw [X_isRequest h.ck hx, if_pos c]
      simp only [bd_s, n10, if_false]
      rw [← k1]
      congr 1
      funext W
      show ck _ _ = bd2 (ck _ _) _
      rw [ck_t (by omega), ck_t (by omega)]
      cases f1_removeRequest W 0 (i : Int) <;> rfl
    · show f6_withdraw V1 (i : Int) = _
      have hmk : MK V1 S P := h.mk.of k2
      unfold f6_withdraw
      rw [M_isRequest hmk hx, if_pos c]
      simp only [bd_s, n10, if_false]
      rw [M_fails0]
      simp only [bd2_s, n00, if_true]
      exact k3
  · refine ⟨.error eI, V, 0, up2 V 148 9 1, ?_, ?_, (up2_s _ _ _ _).trans cod_1.symm, fun r hr => ner hr, S, P, h.thr 1⟩
    · show f5_withdraw V x = _
      unfold f5_withdraw
      rw [X_isRequest h.ck hx, if_neg c]
      simp only [bd_s, n00, if_true]
    · show f6_withdraw V x = _
      unfold f6_withdraw
      rw [M_isRequest h.mk hx, if_neg c]
      simp only [bd_s, n00, if_true]
      rw [M_fails1 (Or.inl rfl) (Or.inl rfl)]
      simp only [bd2_s, n10, if_false]
theorem op_setThickness {x : Int} (hx : rgI x) : Op1 [eA] (fun V => f5_setThickness V x) (fun V => f6_setThickness V x) := by
  intro V S P h
  by_cases c : 0 ≤ x ∧ x ≤ 9
  · obtain ⟨V1, V2, k1, k2, k3, k4, k5⟩ := chg_ok h (P' := (serveP S (setT P x)).2) (r := (serveP S (setT P x)).1) (F5 := fun W => f5_freezeNow W x) (F6 := fun W12 => bd2 (f6_iceIt W12 x) (fun r14 W15 => some (r14, W15))) (fun W hW => X_freezeNow hW c) (fun W hW => by
      obtain ⟨V', g1, g2, g3⟩ := M_iceIt hW c
      refine ⟨V', ?_, g2, g3⟩
      show bd2 (f6_iceIt W x) _ = _
      rw [g1, bd2_s])
    refine ⟨.ok ((serveP S (setT P x)).1), V1, _, V2, ?_, ?_, k4, fun r hr => okr hr rfl, S, _, k5⟩
    · show f5_setThickness V x = _
      unfold f5_setThickness
      rw [X_isWithin hx (by constructor <;> omega) (by constructor <;> omega), if_pos c]
      simp only [bd_s, n10, if_false]
      exact k1
    · show f6_setThickness V1 x = _
      unfold f6_setThickness
      rw [M_in hx (by constructor <;> omega) (by constructor <;> omega), if_pos c]
      simp only [bd_s, n10, if_false]
      rw [M_fails0]
      simp only [bd2_s, n00, if_true]
      exact k3
  · refine ⟨.error eA, V, 0, up2 V 148 9 1, ?_, ?_, (up2_s _ _ _ _).trans cod_1.symm, fun r hr => ner hr, S, P, h.thr 1⟩
    · show f5_setThickness V x = _
      unfold f5_setThickness
      rw [X_isWithin hx (by constructor <;> omega) (by constructor <;> omega), if_neg c]
      simp only [bd_s, n00, if_true]
    · show f6_setThickness V x = _
      unfold f6_setThickness
      rw [M_in hx (by constructor <;> omega) (by constructor <;> omega), if_neg c]
      simp only [bd_s, n00, if_true]
      rw [M_fails1 (Or.inl rfl) (Or.inl rfl)]
      simp only [bd2_s, n10, if_false]
theorem op_advance {x : Int} (hx : rgI x) : Op1 [eA, eS] (fun V => f5_advance V x) (fun V => f6_advance V x) := by
  intro V S P h
  have hr := h.ck.ok.rg
  have hX := X_advanceFault h.ck hx
  by_cases c : 1 ≤ x ∧ x ≤ 500
  · by_cases c3 : P.2.1 + x ≤ 1200
    · obtain ⟨V1, V2, k1, k2, k3, k4, k5⟩ := chg_ok h (P' := (advP P x).2) (r := (advP P x).1) (F5 := fun W => f5_advanceNow W x) (F6 := fun W17 => bd2 (f6_advanceIt W17 x) (fun r19 W20 => some (r19, W20))) (fun W hW => X_advanceNow hW c.1 c3) (fun W hW => by
        obtain ⟨V', g1, g2, g3⟩ := M_advanceIt hW c.1 c3
        refine ⟨V', ?_, g2, g3⟩
        show bd2 (f6_advanceIt W x) _ = _
        rw [g1, bd2_s])
      refine ⟨.ok ((advP P x).1), V1, _, V2, ?_, ?_, k4, fun r hr => okr hr rfl, S, _, k5⟩
      · show f5_advance V x = _
        unfold f5_advance
        rw [hX]
        unfold adF
        rw [if_pos c, if_pos c3, bd_s, rf0]
        exact k1
      · show f6_advance V1 x = _
        have hm := (h.mk.of k2).pl
        unfold f6_advance
        rw [M_in hx (by constructor <;> omega) (by constructor <;> omega), if_pos c]
        simp (disch := omega) only [bd_s, n10, i10, i00, if_false, hm.2.1, nrm_of]
        rw [if_pos c3]
        simp only [bd_s, i10, n10, if_false]
        rw [M_fails0]
        simp only [bd2_s, n00, if_true]
        exact k3
    · refine ⟨.error eS, V, 0, up2 V 148 9 2, ?_, ?_, (up2_s _ _ _ _).trans (cod_2 eAS).symm, fun r hr => ner hr, S, P, h.thr 2⟩
      · show f5_advance V x = _
        unfold f5_advance
        rw [hX]
        unfold adF
        rw [if_pos c, if_neg c3, bd_s, rf3]
      · show f6_advance V x = _
        have hm := h.mk.pl
        unfold f6_advance
        rw [M_in hx (by constructor <;> omega) (by constructor <;> omega), if_pos c]
        simp (disch := omega) only [bd_s, n10, i10, i00, if_false, hm.2.1, nrm_of]
        rw [if_neg c3]
        simp only [bd_s, i10, n10, if_false]
        rw [M_fails2 (Or.inl rfl)]
        simp only [bd2_s, n10, if_false]
  · refine ⟨.error eA, V, 0, up2 V 148 9 1, ?_, ?_, (up2_s _ _ _ _).trans cod_1.symm, fun r hr => ner hr, S, P, h.thr 1⟩
    · show f5_advance V x = _
      unfold f5_advance
      rw [hX]
      unfold adF
      rw [if_neg c, bd_s, rf2]
    · show f6_advance V x = _
      unfold f6_advance
      rw [M_in hx (by constructor <;> omega) (by constructor <;> omega), if_neg c]
      simp only [bd_s, n00, if_true]
      rw [M_fails1 (Or.inl rfl) (Or.inl rfl)]
      simp only [bd2_s, n10, if_false]
