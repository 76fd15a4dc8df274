theorem pItems_s (f n : Nat) (M : sM) : pItems (f + 1) n M = if tK M = 0 ∧ 0 < n then ((n : Int), nxM M)
    else if (wHere M = 0) ↔ n = 0 then
      (if (pNums (wHere M) (nxM M)).1 = true then
        (if tK (pNums (wHere M) (nxM M)).2 = 3 then pItems f (n + 1) (nxM (pNums (wHere M) (nxM M)).2) else (-1, nxM (pNums (wHere M) (nxM M)).2))
      else (-1, (pNums (wHere M) (nxM M)).2))
    else (-1, nxM M) := rfl
theorem pItems_r : ∀ (f n : Nat) (M : sM), -1 ≤ (pItems f n M).1 ∧ (pItems f n M).1 ≤ ((n + f : Nat) : Int)
  | 0, n, M => ⟨Int.le_refl _, show (-1 : Int) ≤ _ by omega⟩
  | f + 1, n, M => by
    have ih := pItems_r f (n + 1) (nxM (pNums (wHere M) (nxM M)).2)
    rw [pItems_s]
    repeat' split
    all_goals (try (constructor <;> (simp only []; omega)))
    all_goals omega
theorem pShore_r (M : sM) : -1 ≤ (pShore M).1 ∧ (pShore M).1 ≤ 151 := pItems_r 151 0 _
set_option maxHeartbeats 4000000 in
set_option maxRecDepth 100000 in
theorem c_X3_readCurrents (l : Launch) (D : va_G) (G : sG) {M : sM} {L : sL} (hT : TInv M) (hk : rOk M) : sKi l D G yX3_readCurrents cX3_readCurrents 2 .boolean 4 82 [.ref (G.1 (195))] M L (fun r M' L' => r = sB ((pCur M).1 = true) ∧ (M' = (pCur M).2 ∧ TInv M' ∧ rOk M' ∧ L = L')) := by
  refine sKz_go (by decide) (Nat.le_of_ble_eq_true rfl) ?_
  intro zp ze zs zm za zb zt zc Q C hret
  refine at_eq (lv' := [(0, .ref (G.1 (195)))]) (st' := []) (M' := M) (L' := L) ?_ rfl rfl rfl rfl
  refine at_iconst C dX3_readCurrents_0 ?_
  refine at_istore_n C [(1, .int (sI (0))), (0, .ref (G.1 (195)))] dX3_readCurrents_1 (by decide) rfl ?_
  have H2 : ∀ (fu : Nat) (c : Nat) (M1 : sM), 12 - c < fu → (c ≤ 12) → (TInv M1) → (rOk M1) → (pCur M = pCurN (12 - c) c M1) → sAt zp l ze (sRm 4 82) zs zm za zb zt zc D G 2 0 0 Q 2 [(0, .ref (G.1 (195))), (1, .int (sI ((c : Int))))] [] M1 L := by
    intro fu
    induction fu with
    | zero => intro c M1 hd hc hT1 hk1 he; exact absurd hd (Nat.not_lt_zero _)
    | succ fu ih2 =>
      intro c M1 hd2 hc hT1 hk1 he
      refine at_iload_n C 1 dX3_readCurrents_2 rfl ?_
      refine at_bipush C dX3_readCurrents_3 (by decide) (by decide) ?_
      refine at_icmp_ge C 40 dX3_readCurrents_5 (by decide) (⟨by omega, by omega⟩) (⟨by omega, by omega⟩) (fun h1 => ?_) (fun h1 => ?_)
      · have e : pCur M = (true, M1) := by rw [he, show 12 - c = 0 by omega]; rfl
        refine at_iconst C dX3_readCurrents_40 ?_
        exact hret _ _ _ _ _ dX3_readCurrents_41 (sB_t (by rw [e])) ⟨by rw [e], hT1, hk1, rfl⟩
      · refine at_aload_n C 0 dX3_readCurrents_8 rfl ?_
        refine at_iconst C dX3_readCurrents_9 ?_
        refine at_iconst C dX3_readCurrents_10 ?_
        refine at_call_i C (c_X3_readNumber l D G 0 4 ⟨by omega, by omega⟩ ⟨by omega, by omega⟩ hT1 hk1) (As := [.int (sI (0)), .int (sI (4))]) (obj_Rea G) (ci := 3) rfl qw_444 qw_441 qw_5 qw_443 qp_9 ⟨by decide, by decide, show (parseMethodDescriptor yX3_readNumber.desc).map (fun d => d.parameters.length) = some 2 by decide +kernel⟩ ⟨by decide, by decide⟩ ⟨Nat.zero_le _, Nat.zero_le _⟩ (Nat.le_of_ble_eq_true rfl) dX3_readCurrents_11 rfl (fun r M' L' hp5 => ?_)
        obtain ⟨rfl, rfl, hT2, rfl⟩ := hp5
        have hk3 : rOk (nxM M1) := nxM_ok hT1 hk1
        have hv4 := tV_r hT1
        refine at_if_neB C 19 dX3_readCurrents_14 (by decide) (fun h6 => ?_) (fun h6 => ?_)
        · have hz : tK M1 = 2 ∧ 0 ≤ tV M1 ∧ tV M1 ≤ 4 := by assumption
          refine at_aload_n C 0 dX3_readCurrents_19 rfl ?_
          refine at_getf (v := .ref (G.1 (197))) C (obj_Rea G) (ci := 3) rfl inX3 (slot := 1) (by decide) qw_150 rfl rfl dX3_readCurrents_20 ?_
          refine at_getf (v := .ref (G.1 (198))) C (obj_Bea G (Or.inr (Or.inr (Or.inr (Or.inr rfl))))) (ci := 0) rfl inX0 (slot := 0) (by decide) qw_87 rfl rfl dX3_readCurrents_23 ?_
          refine at_iload_n C 1 dX3_readCurrents_26 rfl ?_
          refine at_aload_n C 0 dX3_readCurrents_27 rfl ?_
          refine at_getf (v := .int (sI ((nxM M1) 195 6))) C (obj_Rea G) (ci := 3) rfl inX3 (slot := 6) (by decide) qw_158 rfl rfl dX3_readCurrents_28 ?_
          have hb7 := tv hT2 (k := 195) (j := 6) rfl
          refine at_ve (b := tV M1) (mRd_6 _ _ _ _ _) ?_
          refine at_iconst C dX3_readCurrents_31 ?_
          refine at_isub C dX3_readCurrents_32 ?_
          refine at_iast C c (arI_cur G (Or.inr (Or.inr (Or.inr (Or.inr rfl))))) (rfl) (by omega) dX3_readCurrents_33 ?_
          have hT8 : TInv (sSt (nxM M1) 198 c ((tV M1) - 2)) := tw_cur hT2 (Or.inr (Or.inr (Or.inr (Or.inr rfl)))) (⟨by omega, by omega⟩)
          refine at_iinc C 1 [(1, .int (sI ((c : Int) + 1))), (0, .ref (G.1 (195)))] dX3_readCurrents_34 rfl (by decide) rfl ?_
          refine at_goto C 2 dX3_readCurrents_37 (by decide) ?_
          refine at_lv [1, 0] rfl ?_
          exact at_eq (ih2 (c + 1) (sSt (nxM M1) 198 c ((tV M1) - 2)) (by omega) (by omega) (hT8) (rOk_c (sSt_ne (by decide)) hk3) (by rw [he, show 12 - c = (12 - (c + 1)) + 1 by omega, pCurN_y (by assumption)])) (lvc_s (lvc_i (by omega) rfl)) rfl (rfl) (rfl)
        · have e : pCur M = (false, nxM M1) := by rw [he, show 12 - c = (12 - (c + 1)) + 1 by omega, pCurN_n (by assumption)]
          refine at_iconst C dX3_readCurrents_17 ?_
          exact hret _ _ _ _ _ dX3_readCurrents_18 (sB_f (by rw [e]; exact fun z => Bool.noConfusion z)) ⟨by rw [e], hT2, hk3, rfl⟩
  refine at_lv [1, 0] rfl ?_
  exact at_eq (H2 _ 0 M (Nat.lt_succ_self _) (by omega) (hT) (hk) (rfl)) (lvc_s (lvc_i (rfl) rfl)) rfl (rfl) (rfl)

set_option maxHeartbeats 4000000 in
set_option maxRecDepth 100000 in
theorem c_X3_readSoul (l : Launch) (D : va_G) (G : sG) {M : sM} {L : sL} (hs : M 197 9 < 6) (hT : TInv M) (hk : rOk M) : sKi l D G yX3_readSoul cX3_readSoul 3 .boolean 4 82 [.ref (G.1 (195))] M L (fun r M' L' => r = sB ((pSoul M).1 = true) ∧ (M' = (pSoul M).2 ∧ TInv M' ∧ rOk M' ∧ L = L')) := by
  refine sKz_go (by decide) (Nat.le_of_ble_eq_true rfl) ?_
  intro zp ze zs zm za zb zt zc Q C hret
  refine at_eq (lv' := [(0, .ref (G.1 (195)))]) (st' := []) (M' := M) (L' := L) ?_ rfl rfl rfl rfl
  refine at_aload_n C 0 dX3_readSoul_0 rfl ?_
  refine at_iconst C dX3_readSoul_1 ?_
  refine at_iconst C dX3_readSoul_2 ?_
  refine at_call_i C (c_X3_readNumber l D G 0 5 ⟨by omega, by omega⟩ ⟨by omega, by omega⟩ hT hk) (As := [.int (sI (0)), .int (sI (5))]) (obj_Rea G) (ci := 3) rfl qw_444 qw_441 qw_5 qw_443 qp_9 ⟨by decide, by decide, show (parseMethodDescriptor yX3_readNumber.desc).map (fun d => d.parameters.length) = some 2 by decide +kernel⟩ ⟨by decide, by decide⟩ ⟨Nat.zero_le _, Nat.zero_le _⟩ (Nat.le_of_ble_eq_true rfl) dX3_readSoul_3 rfl (fun r M' L' hp4 => ?_)
  obtain ⟨rfl, rfl, hT1, rfl⟩ := hp4
  have hk2 : rOk (nxM M) := nxM_ok hT hk
  have hv3 := tV_r hT
  refine at_if_neB C 11 dX3_readSoul_6 (by decide) (fun h5 => ?_) (fun h5 => ?_)
  · have hz0 : tK M = 2 ∧ 0 ≤ tV M ∧ tV M ≤ 5 := by assumption
    refine at_aload_n C 0 dX3_readSoul_11 rfl ?_
    refine at_getf (v := .int (sI ((nxM M) 195 6))) C (obj_Rea G) (ci := 3) rfl inX3 (slot := 6) (by decide) qw_158 rfl rfl dX3_readSoul_12 ?_
    have hb6 := tv hT1 (k := 195) (j := 6) rfl
    refine at_ve (b := tV M) (mRd_6 _ _ _ _ _) ?_
    refine at_istore_n C [(1, .int (sI (tV M))), (0, .ref (G.1 (195)))] dX3_readSoul_15 (by decide) rfl ?_
    refine at_aload_n C 1 dX3_readSoul_16 rfl ?_
    refine at_iconst C dX3_readSoul_17 ?_
    refine at_bipush C dX3_readSoul_18 (by decide) (by decide) ?_
    refine at_call_i C (c_X3_readNumber l D G 1 9 ⟨by omega, by omega⟩ ⟨by omega, by omega⟩ hT1 hk2) (As := [.int (sI (1)), .int (sI (9))]) (obj_Rea G) (ci := 3) rfl qw_444 qw_441 qw_5 qw_443 qp_9 ⟨by decide, by decide, show (parseMethodDescriptor yX3_readNumber.desc).map (fun d => d.parameters.length) = some 2 by decide +kernel⟩ ⟨by decide, by decide⟩ ⟨Nat.zero_le _, Nat.zero_le _⟩ (Nat.le_of_ble_eq_true rfl) dX3_readSoul_20 rfl (fun r M' L' hp10 => ?_)
    obtain ⟨rfl, rfl, hT7, rfl⟩ := hp10
    have hk8 : rOk (nxM (nxM M)) := nxM_ok hT1 hk2
    have hv9 := tV_r hT1
    refine at_if_neB C 28 dX3_readSoul_23 (by decide) (fun h11 => ?_) (fun h11 => ?_)
    · have hz1 : tK (nxM M) = 2 ∧ 1 ≤ tV (nxM M) ∧ tV (nxM M) ≤ 9 := by assumption
      refine at_aload_n C 1 dX3_readSoul_28 rfl ?_
      refine at_getf (v := .int (sI ((nxM (nxM M)) 195 6))) C (obj_Rea G) (ci := 3) rfl inX3 (slot := 6) (by decide) qw_158 rfl rfl dX3_readSoul_29 ?_
      have hb12 := tv hT7 (k := 195) (j := 6) rfl
      refine at_ve (b := tV (nxM M)) (mRd_6 _ _ _ _ _) ?_
      refine at_istore_n C [(2, .int (sI (tV (nxM M)))), (1, .int (sI (tV M))), (0, .ref (G.1 (195)))] dX3_readSoul_32 (by decide) rfl ?_
      refine at_aload_n C 2 dX3_readSoul_33 rfl ?_
      refine at_iconst C dX3_readSoul_34 ?_
      refine at_bipush C dX3_readSoul_35 (by decide) (by decide) ?_
      refine at_call_i C (c_X3_readNumber l D G 0 11 ⟨by omega, by omega⟩ ⟨by omega, by omega⟩ hT7 hk8) (As := [.int (sI (0)), .int (sI (11))]) (obj_Rea G) (ci := 3) rfl qw_444 qw_441 qw_5 qw_443 qp_9 ⟨by decide, by decide, show (parseMethodDescriptor yX3_readNumber.desc).map (fun d => d.parameters.length) = some 2 by decide +kernel⟩ ⟨by decide, by decide⟩ ⟨Nat.zero_le _, Nat.zero_le _⟩ (Nat.le_of_ble_eq_true rfl) dX3_readSoul_37 rfl (fun r M' L' hp16 => ?_)
      obtain ⟨rfl, rfl, hT13, rfl⟩ := hp16
      have hk14 : rOk (nxM (nxM (nxM M))) := nxM_ok hT7 hk8
      have hv15 := tV_r hT7
      refine at_if_neB C 45 dX3_readSoul_40 (by decide) (fun h17 => ?_) (fun h17 => ?_)
      · have hz2 : tK (nxM (nxM M)) = 2 ∧ 0 ≤ tV (nxM (nxM M)) ∧ tV (nxM (nxM M)) ≤ 11 := by assumption
        have hs3 : (nxM (nxM (nxM M))) 197 9 < 6 := by rw [nxM_ne (by decide), nxM_ne (by decide), nxM_ne (by decide)]; exact hs
        refine at_aload_n C 2 dX3_readSoul_45 rfl ?_
        refine at_getf (v := .ref (G.1 (197))) C (obj_Rea G) (ci := 3) rfl inX3 (slot := 1) (by decide) qw_150 rfl rfl dX3_readSoul_46 ?_
        refine at_iload_n C 1 dX3_readSoul_49 rfl ?_
        refine at_iload_n C 0 dX3_readSoul_50 rfl ?_
        refine at_aload_n C 2 dX3_readSoul_51 rfl ?_
        refine at_getf (v := .int (sI ((nxM (nxM (nxM M))) 195 6))) C (obj_Rea G) (ci := 3) rfl inX3 (slot := 6) (by decide) qw_158 rfl rfl dX3_readSoul_52 ?_
        have hb18 := tv hT13 (k := 195) (j := 6) rfl
        refine at_ve (b := tV (nxM (nxM M))) (mRd_6 _ _ _ _ _) ?_
        refine at_call_i C (c_X0_addSoul l D G (Or.inr (Or.inr (Or.inr (Or.inr rfl)))) hT13 (tV M) (tV (nxM M)) (tV (nxM (nxM M))) ⟨by omega, by omega⟩ ⟨by omega, by omega⟩ ⟨by omega, by omega⟩ (by omega)) (As := [.int (sI (tV M)), .int (sI (tV (nxM M))), .int (sI (tV (nxM (nxM M))))]) (obj_Bea G (Or.inr (Or.inr (Or.inr (Or.inr rfl))))) (ci := 0) rfl qw_323 qw_450 qw_2 qw_321 qw_322 ⟨by decide, by decide, show (parseMethodDescriptor yX0_addSoul.desc).map (fun d => d.parameters.length) = some 3 by decide +kernel⟩ ⟨by decide, by decide⟩ ⟨Nat.zero_le _, Nat.zero_le _⟩ (Nat.le_of_ble_eq_true rfl) dX3_readSoul_55 rfl (fun r M' L' hp20 => ?_)
        obtain ⟨rfl, rfl, hT19, rfl⟩ := hp20
        refine at_ve (b := (nxM (nxM (nxM M))) 197 9) rfl ?_
        refine at_pop C dX3_readSoul_58 rfl ?_
        have e : pSoul M = (true, (bAdS (nxM (nxM (nxM M))) 197 (tV M) (tV (nxM M)) (tV (nxM (nxM M))))) := by unfold pSoul; rw [if_pos (by assumption), if_pos (by assumption), if_pos (by assumption)]
        refine at_iconst C dX3_readSoul_59 ?_
        exact hret _ _ _ _ _ dX3_readSoul_60 (sB_t (by rw [e])) ⟨by rw [e], hT19, rOk_c (bAdS_o (by decide)) hk14, rfl⟩
      · have e : pSoul M = (false, (nxM (nxM (nxM M)))) := by unfold pSoul; rw [if_pos (by assumption), if_pos (by assumption), if_neg (by assumption)]
        refine at_iconst C dX3_readSoul_43 ?_
        exact hret _ _ _ _ _ dX3_readSoul_44 (sB_f (by rw [e]; exact fun z => Bool.noConfusion z)) ⟨by rw [e], hT13, hk14, rfl⟩
    · have e : pSoul M = (false, (nxM (nxM M))) := by unfold pSoul; rw [if_pos (by assumption), if_neg (by assumption)]
      refine at_iconst C dX3_readSoul_26 ?_
      exact hret _ _ _ _ _ dX3_readSoul_27 (sB_f (by rw [e]; exact fun z => Bool.noConfusion z)) ⟨by rw [e], hT7, hk8, rfl⟩
  · have e : pSoul M = (false, (nxM M)) := by unfold pSoul; rw [if_neg (by assumption)]
    refine at_iconst C dX3_readSoul_9 ?_
    exact hret _ _ _ _ _ dX3_readSoul_10 (sB_f (by rw [e]; exact fun z => Bool.noConfusion z)) ⟨by rw [e], hT1, hk2, rfl⟩

set_option maxHeartbeats 4000000 in
set_option maxRecDepth 100000 in
theorem c_X3_readCaller (l : Launch) (D : va_G) (G : sG) {M : sM} {L : sL} (hs : M 197 10 < 6) (hT : TInv M) (hk : rOk M) : sKi l D G yX3_readCaller cX3_readCaller 1 .boolean 4 82 [.ref (G.1 (195))] M L (fun r M' L' => r = sB ((pCaller M).1 = true) ∧ (M' = (pCaller M).2 ∧ TInv M' ∧ rOk M' ∧ L = L')) := by
  refine sKz_go (by decide) (Nat.le_of_ble_eq_true rfl) ?_
  intro zp ze zs zm za zb zt zc Q C hret
  refine at_eq (lv' := [(0, .ref (G.1 (195)))]) (st' := []) (M' := M) (L' := L) ?_ rfl rfl rfl rfl
  refine at_aload_n C 0 dX3_readCaller_0 rfl ?_
  refine at_iconst C dX3_readCaller_1 ?_
  refine at_iconst C dX3_readCaller_2 ?_
  refine at_call_i C (c_X3_readNumber l D G 0 5 ⟨by omega, by omega⟩ ⟨by omega, by omega⟩ hT hk) (As := [.int (sI (0)), .int (sI (5))]) (obj_Rea G) (ci := 3) rfl qw_444 qw_441 qw_5 qw_443 qp_9 ⟨by decide, by decide, show (parseMethodDescriptor yX3_readNumber.desc).map (fun d => d.parameters.length) = some 2 by decide +kernel⟩ ⟨by decide, by decide⟩ ⟨Nat.zero_le _, Nat.zero_le _⟩ (Nat.le_of_ble_eq_true rfl) dX3_readCaller_3 rfl (fun r M' L' hp4 => ?_)
  obtain ⟨rfl, rfl, hT1, rfl⟩ := hp4
  have hk2 : rOk (nxM M) := nxM_ok hT hk
  have hv3 := tV_r hT
  refine at_if_neB C 11 dX3_readCaller_6 (by decide) (fun h5 => ?_) (fun h5 => ?_)
  · have hz0 : tK M = 2 ∧ 0 ≤ tV M ∧ tV M ≤ 5 := by assumption
    have hs1 : nxM M 197 10 < 6 := by rw [nxM_ne (by decide)]; exact hs
    refine at_aload_n C 0 dX3_readCaller_11 rfl ?_
    refine at_getf (v := .ref (G.1 (197))) C (obj_Rea G) (ci := 3) rfl inX3 (slot := 1) (by decide) qw_150 rfl rfl dX3_readCaller_12 ?_
    refine at_aload_n C 0 dX3_readCaller_15 rfl ?_
    refine at_getf (v := .int (sI ((nxM M) 195 6))) C (obj_Rea G) (ci := 3) rfl inX3 (slot := 6) (by decide) qw_158 rfl rfl dX3_readCaller_16 ?_
    have hb6 := tv hT1 (k := 195) (j := 6) rfl
    refine at_ve (b := tV M) (mRd_6 _ _ _ _ _) ?_
    refine at_call_i C (c_X0_addCaller l D G (Or.inr (Or.inr (Or.inr (Or.inr rfl)))) hT1 (tV M) ⟨by omega, by omega⟩ (by omega)) (As := [.int (sI (tV M))]) (obj_Bea G (Or.inr (Or.inr (Or.inr (Or.inr rfl))))) (ci := 0) rfl qw_331 qw_455 qw_2 qw_329 qw_330 ⟨by decide, by decide, show (parseMethodDescriptor yX0_addCaller.desc).map (fun d => d.parameters.length) = some 1 by decide +kernel⟩ ⟨by decide, by decide⟩ ⟨Nat.zero_le _, Nat.zero_le _⟩ (Nat.le_of_ble_eq_true rfl) dX3_readCaller_19 rfl (fun r M' L' hp8 => ?_)
    obtain ⟨rfl, rfl, hT7, rfl⟩ := hp8
    refine at_ve (b := (nxM M) 197 10) rfl ?_
    refine at_pop C dX3_readCaller_22 rfl ?_
    have e : pCaller M = (true, (bAdI (nxM M) 197 (tV M))) := by unfold pCaller; rw [if_pos (by assumption)]
    refine at_iconst C dX3_readCaller_23 ?_
    exact hret _ _ _ _ _ dX3_readCaller_24 (sB_t (by rw [e])) ⟨by rw [e], hT7, rOk_c (bAdI_o (by decide)) hk2, rfl⟩
  · have e : pCaller M = (false, (nxM M)) := by unfold pCaller; rw [if_neg (by assumption)]
    refine at_iconst C dX3_readCaller_9 ?_
    exact hret _ _ _ _ _ dX3_readCaller_10 (sB_f (by rw [e]; exact fun z => Bool.noConfusion z)) ⟨by rw [e], hT1, hk2, rfl⟩

set_option maxHeartbeats 4000000 in
set_option maxRecDepth 100000 in
theorem c_X3_readWalk (l : Launch) (D : va_G) (G : sG) {M : sM} {L : sL} (hT : TInv M) (hk : rOk M) : sKi l D G yX3_readWalk cX3_readWalk 1 .boolean 4 88 [.ref (G.1 (195))] M L (fun r M' L' => r = sB ((pWalk M).1 = true) ∧ (M' = (pWalk M).2 ∧ TInv M' ∧ rOk M' ∧ L = L')) := by
  refine sKz_go (by decide) (Nat.le_of_ble_eq_true rfl) ?_
  intro zp ze zs zm za zb zt zc Q C hret
  refine at_eq (lv' := [(0, .ref (G.1 (195)))]) (st' := []) (M' := M) (L' := L) ?_ rfl rfl rfl rfl
  refine at_aload_n C 0 dX3_readWalk_0 rfl ?_
  refine at_iconst C dX3_readWalk_1 ?_
  refine at_iconst C dX3_readWalk_2 ?_
  refine at_call_i C (c_X3_readNumber l D G 0 2 ⟨by omega, by omega⟩ ⟨by omega, by omega⟩ hT hk) (As := [.int (sI (0)), .int (sI (2))]) (obj_Rea G) (ci := 3) rfl qw_444 qw_441 qw_5 qw_443 qp_9 ⟨by decide, by decide, show (parseMethodDescriptor yX3_readNumber.desc).map (fun d => d.parameters.length) = some 2 by decide +kernel⟩ ⟨by decide, by decide⟩ ⟨Nat.zero_le _, Nat.zero_le _⟩ (Nat.le_of_ble_eq_true rfl) dX3_readWalk_3 rfl (fun r M' L' hp4 => ?_)
  obtain ⟨rfl, rfl, hT1, rfl⟩ := hp4
  have hk2 : rOk (nxM M) := nxM_ok hT hk
  have hv3 := tV_r hT
  refine at_if_neB C 11 dX3_readWalk_6 (by decide) (fun h5 => ?_) (fun h5 => ?_)
  · have hz0 : tK M = 2 ∧ 0 ≤ tV M ∧ tV M ≤ 2 := by assumption
    refine at_aload_n C 0 dX3_readWalk_11 rfl ?_
    refine at_getf (v := .ref (G.1 (197))) C (obj_Rea G) (ci := 3) rfl inX3 (slot := 1) (by decide) qw_150 rfl rfl dX3_readWalk_12 ?_
    refine at_aload_n C 0 dX3_readWalk_15 rfl ?_
    refine at_getf (v := .int (sI ((nxM M) 195 6))) C (obj_Rea G) (ci := 3) rfl inX3 (slot := 6) (by decide) qw_158 rfl rfl dX3_readWalk_16 ?_
    have hb6 := tv hT1 (k := 195) (j := 6) rfl
    refine at_ve (b := tV M) (mRd_6 _ _ _ _ _) ?_
    refine at_iconst C dX3_readWalk_19 ?_
    refine at_isub C dX3_readWalk_20 ?_
    refine at_call_i C (c_X0_gather l D G (Or.inr (Or.inr (Or.inr (Or.inr rfl)))) hT1 ((tV M) - 1) ⟨by omega, by omega⟩) (As := [.int (sI ((tV M) - 1))]) (obj_Bea G (Or.inr (Or.inr (Or.inr (Or.inr rfl))))) (ci := 0) rfl qw_463 qw_460 qw_2 qw_461 qw_462 ⟨by decide, by decide, show (parseMethodDescriptor yX0_gather.desc).map (fun d => d.parameters.length) = some 1 by decide +kernel⟩ ⟨by decide, by decide⟩ ⟨Nat.zero_le _, Nat.zero_le _⟩ (Nat.le_of_ble_eq_true rfl) dX3_readWalk_21 rfl (fun r M' L' hp8 => ?_)
    obtain ⟨rfl, rfl, hT7, rfl⟩ := hp8
    refine at_ve (b := bGaC (nxM M) 197 ((tV M) - 1)) rfl ?_
    refine at_pop C dX3_readWalk_24 rfl ?_
    refine at_aload_n C 0 dX3_readWalk_25 rfl ?_
    refine at_getf (v := .ref (G.1 (197))) C (obj_Rea G) (ci := 3) rfl inX3 (slot := 1) (by decide) qw_150 rfl rfl dX3_readWalk_26 ?_
    refine at_iconst C dX3_readWalk_29 ?_
    refine at_call_v C (c_X0_passTides l D G (Or.inr (Or.inr (Or.inr (Or.inr rfl)))) hT7 1 (by omega)) (As := [.int (sI (1))]) (obj_Bea G (Or.inr (Or.inr (Or.inr (Or.inr rfl))))) (ci := 0) rfl qw_473 qw_470 qw_2 qw_471 qw_472 ⟨by decide, by decide, show (parseMethodDescriptor yX0_passTides.desc).map (fun d => d.parameters.length) = some 1 by decide +kernel⟩ ⟨by decide, by decide⟩ ⟨Nat.zero_le _, Nat.zero_le _⟩ (Nat.le_of_ble_eq_true rfl) dX3_readWalk_30 rfl (fun M' L' hp10 => ?_)
    obtain ⟨rfl, hT9, rfl⟩ := hp10
    have e : pWalk M = (true, (bPas (bGat (nxM M) 197 ((tV M) - 1)) 197 1)) := by unfold pWalk; rw [if_pos (by assumption)]
    refine at_iconst C dX3_readWalk_33 ?_
    exact hret _ _ _ _ _ dX3_readWalk_34 (sB_t (by rw [e])) ⟨by rw [e], hT9, rOk_c ((bPas_o (by decide)).trans (bGat_o (by decide))) hk2, rfl⟩
  · have e : pWalk M = (false, (nxM M)) := by unfold pWalk; rw [if_neg (by assumption)]
    refine at_iconst C dX3_readWalk_9 ?_
    exact hret _ _ _ _ _ dX3_readWalk_10 (sB_f (by rw [e]; exact fun z => Bool.noConfusion z)) ⟨by rw [e], hT1, hk2, rfl⟩

set_option maxHeartbeats 4000000 in
set_option maxRecDepth 100000 in
theorem c_X3_readTides (l : Launch) (D : va_G) (G : sG) {M : sM} {L : sL} (hT : TInv M) (hk : rOk M) : sKi l D G yX3_readTides cX3_readTides 1 .boolean 4 88 [.ref (G.1 (195))] M L (fun r M' L' => r = sB ((pTides M).1 = true) ∧ (M' = (pTides M).2 ∧ TInv M' ∧ rOk M' ∧ L = L')) := by
  refine sKz_go (by decide) (Nat.le_of_ble_eq_true rfl) ?_
  intro zp ze zs zm za zb zt zc Q C hret
  refine at_eq (lv' := [(0, .ref (G.1 (195)))]) (st' := []) (M' := M) (L' := L) ?_ rfl rfl rfl rfl
  refine at_aload_n C 0 dX3_readTides_0 rfl ?_
  refine at_iconst C dX3_readTides_1 ?_
  refine at_bipush C dX3_readTides_2 (by decide) (by decide) ?_
  refine at_call_i C (c_X3_readNumber l D G 1 99 ⟨by omega, by omega⟩ ⟨by omega, by omega⟩ hT hk) (As := [.int (sI (1)), .int (sI (99))]) (obj_Rea G) (ci := 3) rfl qw_444 qw_441 qw_5 qw_443 qp_9 ⟨by decide, by decide, show (parseMethodDescriptor yX3_readNumber.desc).map (fun d => d.parameters.length) = some 2 by decide +kernel⟩ ⟨by decide, by decide⟩ ⟨Nat.zero_le _, Nat.zero_le _⟩ (Nat.le_of_ble_eq_true rfl) dX3_readTides_4 rfl (fun r M' L' hp4 => ?_)
  obtain ⟨rfl, rfl, hT1, rfl⟩ := hp4
  have hk2 : rOk (nxM M) := nxM_ok hT hk
  have hv3 := tV_r hT
  refine at_if_neB C 12 dX3_readTides_7 (by decide) (fun h5 => ?_) (fun h5 => ?_)
  · have hz0 : tK M = 2 ∧ 1 ≤ tV M ∧ tV M ≤ 99 := by assumption
    refine at_aload_n C 0 dX3_readTides_12 rfl ?_
    refine at_getf (v := .ref (G.1 (197))) C (obj_Rea G) (ci := 3) rfl inX3 (slot := 1) (by decide) qw_150 rfl rfl dX3_readTides_13 ?_
    refine at_aload_n C 0 dX3_readTides_16 rfl ?_
    refine at_getf (v := .int (sI ((nxM M) 195 6))) C (obj_Rea G) (ci := 3) rfl inX3 (slot := 6) (by decide) qw_158 rfl rfl dX3_readTides_17 ?_
    have hb6 := tv hT1 (k := 195) (j := 6) rfl
    refine at_ve (b := (((tV M).toNat : Nat) : Int)) (by rw [show nxM M 195 6 = tV M from mRd_6 _ _ _ _ _]; omega) ?_
    refine at_call_v C (c_X0_passTides l D G (Or.inr (Or.inr (Or.inr (Or.inr rfl)))) hT1 ((tV M).toNat) (by omega)) (As := [.int (sI ((((tV M).toNat : Nat) : Int)))]) (obj_Bea G (Or.inr (Or.inr (Or.inr (Or.inr rfl))))) (ci := 0) rfl qw_473 qw_470 qw_2 qw_471 qw_472 ⟨by decide, by decide, show (parseMethodDescriptor yX0_passTides.desc).map (fun d => d.parameters.length) = some 1 by decide +kernel⟩ ⟨by decide, by decide⟩ ⟨Nat.zero_le _, Nat.zero_le _⟩ (Nat.le_of_ble_eq_true rfl) dX3_readTides_20 rfl (fun M' L' hp8 => ?_)
    obtain ⟨rfl, hT7, rfl⟩ := hp8
    have e : pTides M = (true, (bPas (nxM M) 197 ((tV M).toNat))) := by unfold pTides; rw [if_pos (by assumption)]
    refine at_iconst C dX3_readTides_23 ?_
    exact hret _ _ _ _ _ dX3_readTides_24 (sB_t (by rw [e])) ⟨by rw [e], hT7, rOk_c (bPas_o (by decide)) hk2, rfl⟩
  · have e : pTides M = (false, (nxM M)) := by unfold pTides; rw [if_neg (by assumption)]
    refine at_iconst C dX3_readTides_10 ?_
    exact hret _ _ _ _ _ dX3_readTides_11 (sB_f (by rw [e]; exact fun z => Bool.noConfusion z)) ⟨by rw [e], hT1, hk2, rfl⟩

set_option maxHeartbeats 4000000 in
set_option maxRecDepth 100000 in
theorem c_X3_readCall (l : Launch) (D : va_G) (G : sG) {M : sM} {L : sL} (hT : TInv M) (hk : rOk M) : sKi l D G yX3_readCall cX3_readCall 2 .boolean 4 92 [.ref (G.1 (195))] M L (fun r M' L' => r = sB ((pCall M).1 = true) ∧ (M' = (pCall M).2 ∧ TInv M' ∧ rOk M' ∧ L = L')) := by
  refine sKz_go (by decide) (Nat.le_of_ble_eq_true rfl) ?_
  intro zp ze zs zm za zb zt zc Q C hret
  refine at_eq (lv' := [(0, .ref (G.1 (195)))]) (st' := []) (M' := M) (L' := L) ?_ rfl rfl rfl rfl
  have hmc : _ ≤ M 197 10 ∧ M 197 10 ≤ _ := tv_callers hT (o := 197) (Or.inr (Or.inr (Or.inr (Or.inr rfl))))
  refine at_aload_n C 0 dX3_readCall_0 rfl ?_
  refine at_iconst C dX3_readCall_1 ?_
  refine at_aload_n C 0 dX3_readCall_2 rfl ?_
  refine at_getf (v := .ref (G.1 (197))) C (obj_Rea G) (ci := 3) rfl inX3 (slot := 1) (by decide) qw_150 rfl rfl dX3_readCall_3 ?_
  refine at_getf (v := .int (sI (M 197 10))) C (obj_Bea G (Or.inr (Or.inr (Or.inr (Or.inr rfl))))) (ci := 0) rfl inX0 (slot := 10) (by decide) qw_112 rfl rfl dX3_readCall_6 ?_
  have hb1 : _ ≤ M 197 10 ∧ M 197 10 ≤ _ := tv_callers hT (Or.inr (Or.inr (Or.inr (Or.inr rfl))))
  refine at_iconst C dX3_readCall_9 ?_
  refine at_isub C dX3_readCall_10 ?_
  refine at_call_i C (c_X3_readNumber l D G 0 ((M 197 10) - 1) ⟨by omega, by omega⟩ ⟨by omega, by omega⟩ hT hk) (As := [.int (sI (0)), .int (sI ((M 197 10) - 1))]) (obj_Rea G) (ci := 3) rfl qw_444 qw_441 qw_5 qw_443 qp_9 ⟨by decide, by decide, show (parseMethodDescriptor yX3_readNumber.desc).map (fun d => d.parameters.length) = some 2 by decide +kernel⟩ ⟨by decide, by decide⟩ ⟨Nat.zero_le _, Nat.zero_le _⟩ (Nat.le_of_ble_eq_true rfl) dX3_readCall_11 rfl (fun r M' L' hp5 => ?_)
  obtain ⟨rfl, rfl, hT2, rfl⟩ := hp5
  have hk3 : rOk (nxM M) := nxM_ok hT hk
  have hv4 := tV_r hT
  refine at_if_neB C 19 dX3_readCall_14 (by decide) (fun h6 => ?_) (fun h6 => ?_)
  · have hz0 : tK M = 2 ∧ 0 ≤ tV M ∧ tV M ≤ M 197 10 - 1 := by assumption
    refine at_aload_n C 0 dX3_readCall_19 rfl ?_
    refine at_getf (v := .ref (G.1 (197))) C (obj_Rea G) (ci := 3) rfl inX3 (slot := 1) (by decide) qw_150 rfl rfl dX3_readCall_20 ?_
    refine at_aload_n C 0 dX3_readCall_23 rfl ?_
    refine at_getf (v := .int (sI ((nxM M) 195 6))) C (obj_Rea G) (ci := 3) rfl inX3 (slot := 6) (by decide) qw_158 rfl rfl dX3_readCall_24 ?_
    have hb7 := tv hT2 (k := 195) (j := 6) rfl
    refine at_ve (b := (((tV M).toNat : Nat) : Int)) (by rw [show nxM M 195 6 = tV M from mRd_6 _ _ _ _ _]; omega) ?_
    refine at_call_i C (c_X0_choice l D G (Or.inr (Or.inr (Or.inr (Or.inr rfl)))) hT2 ((tV M).toNat) (by omega)) (As := [.int (sI ((((tV M).toNat : Nat) : Int)))]) (obj_Bea G (Or.inr (Or.inr (Or.inr (Or.inr rfl))))) (ci := 0) rfl qw_497 qw_494 qw_2 qw_495 qw_496 ⟨by decide, by decide, show (parseMethodDescriptor yX0_choice.desc).map (fun d => d.parameters.length) = some 1 by decide +kernel⟩ ⟨by decide, by decide⟩ ⟨Nat.zero_le _, Nat.zero_le _⟩ (Nat.le_of_ble_eq_true rfl) dX3_readCall_27 rfl (fun r M' L' hp9 => ?_)
    obtain ⟨rfl, rfl, rfl⟩ := hp9
    refine at_ve (b := bCho (nxM M) 197 ((tV M).toNat)) rfl ?_
    have hb8 := bCho_r hT2 (Or.inr (Or.inr (Or.inr (Or.inr rfl)))) ((tV M).toNat)
    have hn6 := nS_r hT2 (o := 197) (Or.inr (Or.inr (Or.inr (Or.inr rfl))))
    refine at_istore_n C [(1, .int (sI (bCho (nxM M) 197 ((tV M).toNat)))), (0, .ref (G.1 (195)))] dX3_readCall_30 (by decide) rfl ?_
    refine at_iload_n C 0 dX3_readCall_31 rfl ?_
    refine at_iconst C dX3_readCall_32 ?_
    refine at_icmp_ne C 38 dX3_readCall_33 (by decide) (⟨by omega, by omega⟩) (⟨by omega, by omega⟩) (fun h10 => ?_) (fun h10 => ?_)
    · refine at_aload_n C 1 dX3_readCall_38 rfl ?_
      refine at_getf (v := .ref (G.1 (197))) C (obj_Rea G) (ci := 3) rfl inX3 (slot := 1) (by decide) qw_150 rfl rfl dX3_readCall_39 ?_
      refine at_getf (v := .ref (G.1 (202))) C (obj_Bea G (Or.inr (Or.inr (Or.inr (Or.inr rfl))))) (ci := 0) rfl inX0 (slot := 4) (by decide) qw_96 rfl rfl dX3_readCall_42 ?_
      refine at_getf (v := .ref (G.1 (204))) C ((isMo_now G (Or.inr (Or.inr (Or.inr (Or.inr rfl))))).1) (ci := 1) rfl inX1 (slot := 1) (by decide) qw_41 rfl rfl dX3_readCall_45 ?_
      refine at_iload_n C 0 dX3_readCall_48 rfl ?_
      refine at_aload_n C 1 dX3_readCall_49 rfl ?_
      refine at_getf (v := .int (sI ((nxM M) 195 6))) C (obj_Rea G) (ci := 3) rfl inX3 (slot := 6) (by decide) qw_158 rfl rfl dX3_readCall_50 ?_
      have hb11 := tv hT2 (k := 195) (j := 6) rfl
      refine at_ve (b := tV M) (mRd_6 _ _ _ _ _) ?_
      refine at_iast C ((bCho (nxM M) 197 ((tV M).toNat)).toNat) (arI_hold G (Or.inr (Or.inr (Or.inr (Or.inr rfl))))) (by omega) (by omega) dX3_readCall_53 ?_
      have hT12 : TInv (sSt (nxM M) 204 ((bCho (nxM M) 197 ((tV M).toNat)).toNat) (tV M)) := tw_hold hT2 (Or.inr (Or.inr (Or.inr (Or.inr rfl)))) (⟨by omega, by omega⟩)
      have e : pCall M = (true, (sSt (nxM M) 204 ((bCho (nxM M) 197 ((tV M).toNat)).toNat) (tV M))) := by unfold pCall; rw [if_pos (by assumption), if_neg (by assumption)]
      refine at_iconst C dX3_readCall_54 ?_
      exact hret _ _ _ _ _ dX3_readCall_55 (sB_t (by rw [e])) ⟨by rw [e], hT12, rOk_c (sSt_ne (by decide)) hk3, rfl⟩
    · have e : pCall M = (false, (nxM M)) := by unfold pCall; rw [if_pos (by assumption), if_pos (by assumption)]
      refine at_iconst C dX3_readCall_36 ?_
      exact hret _ _ _ _ _ dX3_readCall_37 (sB_f (by rw [e]; exact fun z => Bool.noConfusion z)) ⟨by rw [e], hT2, hk3, rfl⟩
  · have e : pCall M = (false, (nxM M)) := by unfold pCall; rw [if_neg (by assumption)]
    refine at_iconst C dX3_readCall_17 ?_
    exact hret _ _ _ _ _ dX3_readCall_18 (sB_f (by rw [e]; exact fun z => Bool.noConfusion z)) ⟨by rw [e], hT2, hk3, rfl⟩

set_option maxHeartbeats 4000000 in
set_option maxRecDepth 100000 in
theorem c_X3_readNumbers (l : Launch) (D : va_G) (G : sG) {M : sM} {L : sL} (w : Int) (hw : -1 ≤ w ∧ w ≤ 5) (hT : TInv M) (hk : rOk M) : sKi l D G yX3_readNumbers cX3_readNumbers 2 .boolean 5 113 [.ref (G.1 (195)), .int (sI (w))] M L (fun r M' L' => r = sB ((pNums w M).1 = true) ∧ (M' = (pNums w M).2 ∧ TInv M' ∧ rOk M' ∧ L = L')) := by
  refine sKz_go (by decide) (Nat.le_of_ble_eq_true rfl) ?_
  intro zp ze zs zm za zb zt zc Q C hret
  refine at_eq (lv' := [(0, .ref (G.1 (195))), (1, .int (sI (w)))]) (st' := []) (M' := M) (L' := L) ?_ rfl rfl rfl rfl
  refine at_iload_n C 1 dX3_readNumbers_0 rfl ?_
  by_cases hs1 : w = 0
  · refine at_tsw C dX3_readNumbers_1 (⟨by omega, by omega⟩) 40 (Or.inr ⟨by omega, by omega, 39, by rw [hs1]; rfl, by decide⟩) ?_
    refine at_aload_n C 0 dX3_readNumbers_40 rfl ?_
    refine at_call_i C (c_X3_readCurrents l D G hT hk) (As := []) (obj_Rea G) (ci := 3) rfl qw_440 qw_437 qw_5 qw_439 qp_8 ⟨by decide, by decide, show (parseMethodDescriptor yX3_readCurrents.desc).map (fun d => d.parameters.length) = some 0 by decide +kernel⟩ ⟨by decide, by decide⟩ ⟨Nat.zero_le _, Nat.zero_le _⟩ (Nat.le_of_ble_eq_true rfl) dX3_readNumbers_41 rfl (fun r M' L' hp4 => ?_)
    obtain ⟨rfl, rfl, hT2, hk3, rfl⟩ := hp4
    have e : pNums w M = pCur M := by unfold pNums; rw [if_pos (by omega)]
    exact hret _ _ _ _ _ dX3_readNumbers_44 (sB_c (by rw [e])) ⟨by rw [e], hT2, hk3, rfl⟩
  by_cases hs5 : w = 1
  · refine at_tsw C dX3_readNumbers_1 (⟨by omega, by omega⟩) 45 (Or.inr ⟨by omega, by omega, 44, by rw [hs5]; rfl, by decide⟩) ?_
    refine at_aload_n C 0 dX3_readNumbers_45 rfl ?_
    refine at_getf (v := .ref (G.1 (197))) C (obj_Rea G) (ci := 3) rfl inX3 (slot := 1) (by decide) qw_150 rfl rfl dX3_readNumbers_46 ?_
    refine at_getf (v := .int (sI (M 197 9))) C (obj_Bea G (Or.inr (Or.inr (Or.inr (Or.inr rfl))))) (ci := 0) rfl inX0 (slot := 9) (by decide) qw_108 rfl rfl dX3_readNumbers_49 ?_
    have hb6 : _ ≤ M 197 9 ∧ M 197 9 ≤ _ := tv_souls hT (Or.inr (Or.inr (Or.inr (Or.inr rfl))))
    refine at_bipush C dX3_readNumbers_52 (by decide) (by decide) ?_
    refine at_icmp_ge C 68 dX3_readNumbers_54 (by decide) (⟨by omega, by omega⟩) (⟨by omega, by omega⟩) (fun h7 => ?_) (fun h7 => ?_)
    · have e : pNums w M = (false, M) := by unfold pNums; rw [if_neg (by omega), if_pos (by omega), if_neg (by omega)]
      refine at_iconst C dX3_readNumbers_68 ?_
      exact hret _ _ _ _ _ dX3_readNumbers_69 (sB_f (by rw [e]; exact fun z => Bool.noConfusion z)) ⟨by rw [e], hT, hk, rfl⟩
    · have e : pNums w M = pSoul M := by unfold pNums; rw [if_neg (by omega), if_pos (by omega), if_pos (by omega)]
      refine at_aload_n C 0 dX3_readNumbers_57 rfl ?_
      refine at_call_i C (c_X3_readSoul l D G (by omega) hT hk) (As := []) (obj_Rea G) (ci := 3) rfl qw_449 qw_446 qw_5 qw_448 qp_10 ⟨by decide, by decide, show (parseMethodDescriptor yX3_readSoul.desc).map (fun d => d.parameters.length) = some 0 by decide +kernel⟩ ⟨by decide, by decide⟩ ⟨Nat.zero_le _, Nat.zero_le _⟩ (Nat.le_of_ble_eq_true rfl) dX3_readNumbers_58 rfl (fun r M' L' hp10 => ?_)
      obtain ⟨rfl, rfl, hT8, hk9, rfl⟩ := hp10
      refine at_if_eqB C 68 dX3_readNumbers_61 (by decide) (fun h11 => ?_) (fun h11 => ?_)
      · refine at_iconst C dX3_readNumbers_68 ?_
        exact hret _ _ _ _ _ dX3_readNumbers_69 (sB_f (by rw [e]; exact fun z => absurd z (by assumption))) ⟨by rw [e], hT8, hk9, rfl⟩
      · refine at_iconst C dX3_readNumbers_64 ?_
        refine at_goto C 69 dX3_readNumbers_65 (by decide) ?_
        exact hret _ _ _ _ _ dX3_readNumbers_69 (sB_t (by rw [e]; assumption)) ⟨by rw [e], hT8, hk9, rfl⟩
  by_cases hs12 : w = 2
  · refine at_tsw C dX3_readNumbers_1 (⟨by omega, by omega⟩) 70 (Or.inr ⟨by omega, by omega, 69, by rw [hs12]; rfl, by decide⟩) ?_
    refine at_aload_n C 0 dX3_readNumbers_70 rfl ?_
    refine at_getf (v := .ref (G.1 (197))) C (obj_Rea G) (ci := 3) rfl inX3 (slot := 1) (by decide) qw_150 rfl rfl dX3_readNumbers_71 ?_
    refine at_getf (v := .int (sI (M 197 10))) C (obj_Bea G (Or.inr (Or.inr (Or.inr (Or.inr rfl))))) (ci := 0) rfl inX0 (slot := 10) (by decide) qw_112 rfl rfl dX3_readNumbers_74 ?_
    have hb13 : _ ≤ M 197 10 ∧ M 197 10 ≤ _ := tv_callers hT (Or.inr (Or.inr (Or.inr (Or.inr rfl))))
    refine at_bipush C dX3_readNumbers_77 (by decide) (by decide) ?_
    refine at_icmp_ge C 93 dX3_readNumbers_79 (by decide) (⟨by omega, by omega⟩) (⟨by omega, by omega⟩) (fun h14 => ?_) (fun h14 => ?_)
    · have e : pNums w M = (false, M) := by unfold pNums; rw [if_neg (by omega), if_neg (by omega), if_pos (by omega), if_neg (by omega)]
      refine at_iconst C dX3_readNumbers_93 ?_
      exact hret _ _ _ _ _ dX3_readNumbers_94 (sB_f (by rw [e]; exact fun z => Bool.noConfusion z)) ⟨by rw [e], hT, hk, rfl⟩
    · have e : pNums w M = pCaller M := by unfold pNums; rw [if_neg (by omega), if_neg (by omega), if_pos (by omega), if_pos (by omega)]
      refine at_aload_n C 0 dX3_readNumbers_82 rfl ?_
      refine at_call_i C (c_X3_readCaller l D G (by omega) hT hk) (As := []) (obj_Rea G) (ci := 3) rfl qw_454 qw_451 qw_5 qw_453 qp_11 ⟨by decide, by decide, show (parseMethodDescriptor yX3_readCaller.desc).map (fun d => d.parameters.length) = some 0 by decide +kernel⟩ ⟨by decide, by decide⟩ ⟨Nat.zero_le _, Nat.zero_le _⟩ (Nat.le_of_ble_eq_true rfl) dX3_readNumbers_83 rfl (fun r M' L' hp17 => ?_)
      obtain ⟨rfl, rfl, hT15, hk16, rfl⟩ := hp17
      refine at_if_eqB C 93 dX3_readNumbers_86 (by decide) (fun h18 => ?_) (fun h18 => ?_)
      · refine at_iconst C dX3_readNumbers_93 ?_
        exact hret _ _ _ _ _ dX3_readNumbers_94 (sB_f (by rw [e]; exact fun z => absurd z (by assumption))) ⟨by rw [e], hT15, hk16, rfl⟩
      · refine at_iconst C dX3_readNumbers_89 ?_
        refine at_goto C 94 dX3_readNumbers_90 (by decide) ?_
        exact hret _ _ _ _ _ dX3_readNumbers_94 (sB_t (by rw [e]; assumption)) ⟨by rw [e], hT15, hk16, rfl⟩
  by_cases hs19 : w = 3
  · refine at_tsw C dX3_readNumbers_1 (⟨by omega, by omega⟩) 95 (Or.inr ⟨by omega, by omega, 94, by rw [hs19]; rfl, by decide⟩) ?_
    refine at_aload_n C 0 dX3_readNumbers_95 rfl ?_
    refine at_call_i C (c_X3_readWalk l D G hT hk) (As := []) (obj_Rea G) (ci := 3) rfl qw_459 qw_456 qw_5 qw_458 qp_12 ⟨by decide, by decide, show (parseMethodDescriptor yX3_readWalk.desc).map (fun d => d.parameters.length) = some 0 by decide +kernel⟩ ⟨by decide, by decide⟩ ⟨Nat.zero_le _, Nat.zero_le _⟩ (Nat.le_of_ble_eq_true rfl) dX3_readNumbers_96 rfl (fun r M' L' hp22 => ?_)
    obtain ⟨rfl, rfl, hT20, hk21, rfl⟩ := hp22
    have e : pNums w M = pWalk M := by unfold pNums; rw [if_neg (by omega), if_neg (by omega), if_neg (by omega), if_pos (by omega)]
    exact hret _ _ _ _ _ dX3_readNumbers_99 (sB_c (by rw [e])) ⟨by rw [e], hT20, hk21, rfl⟩
  by_cases hs23 : w = 4
  · refine at_tsw C dX3_readNumbers_1 (⟨by omega, by omega⟩) 100 (Or.inr ⟨by omega, by omega, 99, by rw [hs23]; rfl, by decide⟩) ?_
    refine at_aload_n C 0 dX3_readNumbers_100 rfl ?_
    refine at_call_i C (c_X3_readCall l D G hT hk) (As := []) (obj_Rea G) (ci := 3) rfl qw_493 qw_490 qw_5 qw_492 qp_13 ⟨by decide, by decide, show (parseMethodDescriptor yX3_readCall.desc).map (fun d => d.parameters.length) = some 0 by decide +kernel⟩ ⟨by decide, by decide⟩ ⟨Nat.zero_le _, Nat.zero_le _⟩ (Nat.le_of_ble_eq_true rfl) dX3_readNumbers_101 rfl (fun r M' L' hp26 => ?_)
    obtain ⟨rfl, rfl, hT24, hk25, rfl⟩ := hp26
    have e : pNums w M = pCall M := by unfold pNums; rw [if_neg (by omega), if_neg (by omega), if_neg (by omega), if_neg (by omega), if_pos (by omega)]
    exact hret _ _ _ _ _ dX3_readNumbers_104 (sB_c (by rw [e])) ⟨by rw [e], hT24, hk25, rfl⟩
  by_cases hs27 : w = 5
  · refine at_tsw C dX3_readNumbers_1 (⟨by omega, by omega⟩) 105 (Or.inr ⟨by omega, by omega, 104, by rw [hs27]; rfl, by decide⟩) ?_
    refine at_aload_n C 0 dX3_readNumbers_105 rfl ?_
    refine at_call_i C (c_X3_readTides l D G hT hk) (As := []) (obj_Rea G) (ci := 3) rfl qw_526 qw_523 qw_5 qw_525 qp_14 ⟨by decide, by decide, show (parseMethodDescriptor yX3_readTides.desc).map (fun d => d.parameters.length) = some 0 by decide +kernel⟩ ⟨by decide, by decide⟩ ⟨Nat.zero_le _, Nat.zero_le _⟩ (Nat.le_of_ble_eq_true rfl) dX3_readNumbers_106 rfl (fun r M' L' hp30 => ?_)
    obtain ⟨rfl, rfl, hT28, hk29, rfl⟩ := hp30
    have e : pNums w M = pTides M := by unfold pNums; rw [if_neg (by omega), if_neg (by omega), if_neg (by omega), if_neg (by omega), if_neg (by omega), if_pos (by omega)]
    exact hret _ _ _ _ _ dX3_readNumbers_109 (sB_c (by rw [e])) ⟨by rw [e], hT28, hk29, rfl⟩
  refine at_tsw C dX3_readNumbers_1 (⟨by omega, by omega⟩) 110 (Or.inl ⟨by omega, by decide⟩) ?_
  have e : pNums w M = (false, M) := by unfold pNums; rw [if_neg (by omega), if_neg (by omega), if_neg (by omega), if_neg (by omega), if_neg (by omega), if_neg (by omega)]
  refine at_iconst C dX3_readNumbers_110 ?_
  exact hret _ _ _ _ _ dX3_readNumbers_111 (sB_f (by rw [e]; exact fun z => Bool.noConfusion z)) ⟨by rw [e], hT, hk, rfl⟩

set_option maxHeartbeats 4000000 in
set_option maxRecDepth 100000 in
theorem c_X3_readShore (l : Launch) (D : va_G) (G : sG) {M : sM} {L : sL} (hT : TInv M) : sKi l D G yX3_readShore cX3_readShore 4 .int 6 134 [.ref (G.1 (195))] M L (fun r M' L' => r = sI (pShore M).1 ∧ M' = (pShore M).2 ∧ TInv M' ∧ L = L') := by
  refine sKi_go (by decide) (Nat.le_of_ble_eq_true rfl) ?_
  intro zp ze zs zm za zb zt zc Q C hret
  refine at_eq (lv' := [(0, .ref (G.1 (195)))]) (st' := []) (M' := M) (L' := L) ?_ rfl rfl rfl rfl
  refine at_aload_n C 0 dX3_readShore_0 rfl ?_
  refine at_getf (v := .ref (G.1 (197))) C (obj_Rea G) (ci := 3) rfl inX3 (slot := 1) (by decide) qw_150 rfl rfl dX3_readShore_1 ?_
  refine at_call_v C (c_X0_reset l D G (Or.inr (Or.inr (Or.inr (Or.inr rfl)))) hT) (As := []) (obj_Bea G (Or.inr (Or.inr (Or.inr (Or.inr rfl))))) (ci := 0) rfl qw_296 qw_352 qw_2 qw_294 qw_295 ⟨by decide, by decide, show (parseMethodDescriptor yX0_reset.desc).map (fun d => d.parameters.length) = some 0 by decide +kernel⟩ ⟨by decide, by decide⟩ ⟨Nat.zero_le _, Nat.zero_le _⟩ (Nat.le_of_ble_eq_true rfl) dX3_readShore_4 rfl (fun M' L' hp2 => ?_)
  obtain ⟨rfl, hT1, rfl⟩ := hp2
  refine at_aload_n C 0 dX3_readShore_7 rfl ?_
  refine at_iconst C dX3_readShore_8 ?_
  refine at_putM (slot := 3) (ty := .int) C tyX3 (obj_Rea G) (ci := 3) rfl inX3 tyX3_ok nmX3 (by decide) qw_154 rfl rfl (by decide +kernel) rfl rfl (Nat.le_of_ble_eq_true rfl) rfl dX3_readShore_9 ?_
  have hT3 : TInv (sSt (bRes M 197) 195 3 0) := tv_st hT1 (k := 195) (j := 3) rfl (⟨by omega, by omega⟩)
  refine at_iconst C dX3_readShore_12 ?_
  refine at_istore_n C [(1, .int (sI (0))), (0, .ref (G.1 (195)))] dX3_readShore_13 (by decide) rfl ?_
  have H14 : ∀ (fu : Nat) (n : Nat) (M1 : sM), 151 - n < fu → (n ≤ 151) → (TInv M1) → (rOk M1) → (pShore M = pItems (151 - n) n M1) → sAt zp l ze (sRm 6 134) zs zm za zb zt zc D G 4 0 0 Q 14 [(0, .ref (G.1 (195))), (1, .int (sI ((n : Int))))] [] M1 L := by
    intro fu
    induction fu with
    | zero => intro n M1 hd hn hT1 hk1 he; exact absurd hd (Nat.not_lt_zero _)
    | succ fu ih14 =>
      intro n M1 hd14 hn hT1 hk1 he
      have htk1 : 0 ≤ tK M1 ∧ tK M1 ≤ 4 := tkK_r _ _ _
      have hwh := wHere_r M1
      have hta := tA_r hT1 hk1
      have hr1 := rN_r hT1
      refine at_iload_n C 1 dX3_readShore_14 rfl ?_
      refine at_sipush C dX3_readShore_15 (by decide) (by decide) ?_
      refine at_icmp_gt C 109 dX3_readShore_18 (by decide) (⟨by omega, by omega⟩) (⟨by omega, by omega⟩) (fun h4 => ?_) (fun h4 => ?_)
      · have e : pShore M = (-1, M1) := by rw [he, show 151 - n = 0 by omega]; rfl
        refine at_iconst C dX3_readShore_109 ?_
        exact hret _ _ _ _ _ dX3_readShore_110 (⟨by rw [e], by rw [e], hT1, rfl⟩)
      · refine at_aload_n C 0 dX3_readShore_21 rfl ?_
        refine at_call_v C (c_X3_nextToken l D G hT1 hk1) (As := []) (obj_Rea G) (ci := 3) rfl qw_356 qw_353 qw_5 qw_355 qp_2 ⟨by decide, by decide, show (parseMethodDescriptor yX3_nextToken.desc).map (fun d => d.parameters.length) = some 0 by decide +kernel⟩ ⟨by decide, by decide⟩ ⟨Nat.zero_le _, Nat.zero_le _⟩ (Nat.le_of_ble_eq_true rfl) dX3_readShore_22 rfl (fun M' L' hp8 => ?_)
        obtain ⟨rfl, hT5, rfl⟩ := hp8
        have hk6 : rOk (nxM M1) := nxM_ok hT1 hk1
        have hb7 := tkK_r (M1 196) (rN M1) (rP M1)
        refine at_aload_n C 0 dX3_readShore_25 rfl ?_
        refine at_getf (v := .int (sI ((nxM M1) 195 5))) C (obj_Rea G) (ci := 3) rfl inX3 (slot := 5) (by decide) qw_157 rfl rfl dX3_readShore_26 ?_
        have hb9 := tv hT5 (k := 195) (j := 5) rfl
        refine at_ve (b := tK M1) (mRd_5 _ _ _ _ _) ?_
        refine at_if_ne C 38 dX3_readShore_29 (by decide) (⟨by omega, by omega⟩) (fun h10 => ?_) (fun h10 => ?_)
        · refine at_aload_n C 0 dX3_readShore_38 rfl ?_
          refine at_getf (v := .int (sI ((nxM M1) 195 5))) C (obj_Rea G) (ci := 3) rfl inX3 (slot := 5) (by decide) qw_157 rfl rfl dX3_readShore_39 ?_
          have hb11 := tv hT5 (k := 195) (j := 5) rfl
          refine at_ve (b := tK M1) (mRd_5 _ _ _ _ _) ?_
          refine at_iconst C dX3_readShore_42 ?_
          refine at_icmp_ne C 53 dX3_readShore_43 (by decide) (⟨by omega, by omega⟩) (⟨by omega, by omega⟩) (fun h12 => ?_) (fun h12 => ?_)
          · refine at_iconst C dX3_readShore_53 ?_
            refine at_ve (b := wHere M1) (by unfold wHere; rw [if_neg (by omega)]) ?_
            refine at_istore_n C [(2, .int (sI (wHere M1))), (0, .ref (G.1 (195))), (1, .int (sI ((n : Int))))] dX3_readShore_54 (by decide) rfl ?_
            refine at_iload_n C 0 dX3_readShore_55 rfl ?_
            refine at_if_ne C 63 dX3_readShore_56 (by decide) (⟨by omega, by omega⟩) (fun h13 => ?_) (fun h13 => ?_)
            · refine at_iconst C dX3_readShore_63 ?_
              refine at_iload_n C 2 dX3_readShore_64 rfl ?_
              refine at_if_ne C 72 dX3_readShore_65 (by decide) (⟨by omega, by omega⟩) (fun h14 => ?_) (fun h14 => ?_)
              · refine at_iconst C dX3_readShore_72 ?_
                refine at_icmp_ne C 80 dX3_readShore_73 (by decide) (⟨by omega, by omega⟩) (⟨by omega, by omega⟩) (fun h15 => absurd h15 (by omega)) (fun h15 => ?_)
                refine at_iconst C dX3_readShore_76 ?_
                refine at_goto C 81 dX3_readShore_77 (by decide) ?_
                refine at_istore_n C [(3, .int (sI (1))), (2, .int (sI (wHere M1))), (0, .ref (G.1 (195))), (1, .int (sI ((n : Int))))] dX3_readShore_81 (by decide) rfl ?_
                refine at_iload_n C 0 dX3_readShore_82 rfl ?_
                refine at_if_eq C 101 dX3_readShore_83 (by decide) (⟨by omega, by omega⟩) (fun h16 => absurd h16 (by omega)) (fun h16 => ?_)
                refine at_aload_n C 2 dX3_readShore_86 rfl ?_
                refine at_iload_n C 1 dX3_readShore_87 rfl ?_
                refine at_call_i C (c_X3_readNumbers l D G (wHere M1) ⟨by omega, by omega⟩ hT5 hk6) (As := [.int (sI (wHere M1))]) (obj_Rea G) (ci := 3) rfl qw_436 qw_433 qw_5 qw_435 qp_7 ⟨by decide, by decide, show (parseMethodDescriptor yX3_readNumbers.desc).map (fun d => d.parameters.length) = some 1 by decide +kernel⟩ ⟨by decide, by decide⟩ ⟨Nat.zero_le _, Nat.zero_le _⟩ (Nat.le_of_ble_eq_true rfl) dX3_readShore_88 rfl (fun r M' L' hp19 => ?_)
                obtain ⟨rfl, rfl, hT17, hk18, rfl⟩ := hp19
                refine at_if_eqB C 101 dX3_readShore_91 (by decide) (fun h20 => ?_) (fun h20 => ?_)
                · have e : pShore M = (-1, (pNums (wHere M1) (nxM M1)).2) := by rw [he, show 151 - n = (151 - (n + 1)) + 1 by omega, pItems_s, if_neg (fun z => by have z1 := z.1; have z2 := z.2; omega), if_pos (by omega), if_neg (by assumption)]
                  refine at_iconst C dX3_readShore_101 ?_
                  exact hret _ _ _ _ _ dX3_readShore_102 (⟨by rw [e], by rw [e], hT17, rfl⟩)
                · refine at_aload_n C 2 dX3_readShore_94 rfl ?_
                  refine at_call_i C (c_X3_readSemicolon l D G hT17 hk18) (As := []) (obj_Rea G) (ci := 3) rfl qw_530 qw_527 qw_5 qw_529 qp_15 ⟨by decide, by decide, show (parseMethodDescriptor yX3_readSemicolon.desc).map (fun d => d.parameters.length) = some 0 by decide +kernel⟩ ⟨by decide, by decide⟩ ⟨Nat.zero_le _, Nat.zero_le _⟩ (Nat.le_of_ble_eq_true rfl) dX3_readShore_95 rfl (fun r M' L' hp23 => ?_)
                  obtain ⟨rfl, rfl, hT21, rfl⟩ := hp23
                  have hk22 : rOk (nxM (pNums (wHere M1) (nxM M1)).2) := nxM_ok hT17 hk18
                  refine at_if_neB C 103 dX3_readShore_98 (by decide) (fun h24 => ?_) (fun h24 => ?_)
                  · refine at_iinc C 3 [(1, .int (sI ((n : Int) + 1))), (3, .int (sI (1))), (2, .int (sI (wHere M1))), (0, .ref (G.1 (195)))] dX3_readShore_103 rfl (by decide) rfl ?_
                    refine at_goto C 14 dX3_readShore_106 (by decide) ?_
                    refine at_lv [3, 0] rfl ?_
                    exact at_eq (ih14 (n + 1) (nxM (pNums (wHere M1) (nxM M1)).2) (by omega) (by omega) (hT21) (hk22) (by rw [he, show 151 - n = (151 - (n + 1)) + 1 by omega, pItems_s, if_neg (fun z => by have z1 := z.1; have z2 := z.2; omega), if_pos (by omega), if_pos (by assumption), if_pos (by assumption)])) (lvc_s (lvc_i (by omega) rfl)) rfl (rfl) (rfl)
                  · have e : pShore M = (-1, (nxM (pNums (wHere M1) (nxM M1)).2)) := by rw [he, show 151 - n = (151 - (n + 1)) + 1 by omega, pItems_s, if_neg (fun z => by have z1 := z.1; have z2 := z.2; omega), if_pos (by omega), if_pos (by assumption), if_neg (by assumption)]
                    refine at_iconst C dX3_readShore_101 ?_
                    exact hret _ _ _ _ _ dX3_readShore_102 (⟨by rw [e], by rw [e], hT21, rfl⟩)
              · refine at_iconst C dX3_readShore_68 ?_
                refine at_goto C 73 dX3_readShore_69 (by decide) ?_
                refine at_icmp_ne C 80 dX3_readShore_73 (by decide) (⟨by omega, by omega⟩) (⟨by omega, by omega⟩) (fun h25 => ?_) (fun h25 => absurd h25 (by omega))
                refine at_iconst C dX3_readShore_80 ?_
                refine at_istore_n C [(3, .int (sI (0))), (2, .int (sI (wHere M1))), (0, .ref (G.1 (195))), (1, .int (sI ((n : Int))))] dX3_readShore_81 (by decide) rfl ?_
                refine at_iload_n C 0 dX3_readShore_82 rfl ?_
                refine at_if_eq C 101 dX3_readShore_83 (by decide) (⟨by omega, by omega⟩) (fun h26 => ?_) (fun h26 => absurd h26 (by omega))
                have e : pShore M = (-1, (nxM M1)) := by rw [he, show 151 - n = (151 - (n + 1)) + 1 by omega, pItems_s, if_neg (fun z => by have z1 := z.1; have z2 := z.2; omega), if_neg (by omega)]
                refine at_iconst C dX3_readShore_101 ?_
                exact hret _ _ _ _ _ dX3_readShore_102 (⟨by rw [e], by rw [e], hT5, rfl⟩)
            · refine at_iconst C dX3_readShore_59 ?_
              refine at_goto C 64 dX3_readShore_60 (by decide) ?_
              refine at_iload_n C 2 dX3_readShore_64 rfl ?_
              refine at_if_ne C 72 dX3_readShore_65 (by decide) (⟨by omega, by omega⟩) (fun h27 => ?_) (fun h27 => ?_)
              · refine at_iconst C dX3_readShore_72 ?_
                refine at_icmp_ne C 80 dX3_readShore_73 (by decide) (⟨by omega, by omega⟩) (⟨by omega, by omega⟩) (fun h28 => ?_) (fun h28 => absurd h28 (by omega))
                refine at_iconst C dX3_readShore_80 ?_
                refine at_istore_n C [(3, .int (sI (0))), (2, .int (sI (wHere M1))), (0, .ref (G.1 (195))), (1, .int (sI ((n : Int))))] dX3_readShore_81 (by decide) rfl ?_
                refine at_iload_n C 0 dX3_readShore_82 rfl ?_
                refine at_if_eq C 101 dX3_readShore_83 (by decide) (⟨by omega, by omega⟩) (fun h29 => ?_) (fun h29 => absurd h29 (by omega))
                have e : pShore M = (-1, (nxM M1)) := by rw [he, show 151 - n = (151 - (n + 1)) + 1 by omega, pItems_s, if_neg (fun z => by have z1 := z.1; have z2 := z.2; omega), if_neg (by omega)]
                refine at_iconst C dX3_readShore_101 ?_
                exact hret _ _ _ _ _ dX3_readShore_102 (⟨by rw [e], by rw [e], hT5, rfl⟩)
              · refine at_iconst C dX3_readShore_68 ?_
                refine at_goto C 73 dX3_readShore_69 (by decide) ?_
                refine at_icmp_ne C 80 dX3_readShore_73 (by decide) (⟨by omega, by omega⟩) (⟨by omega, by omega⟩) (fun h30 => absurd h30 (by omega)) (fun h30 => ?_)
                refine at_iconst C dX3_readShore_76 ?_
                refine at_goto C 81 dX3_readShore_77 (by decide) ?_
                refine at_istore_n C [(3, .int (sI (1))), (2, .int (sI (wHere M1))), (0, .ref (G.1 (195))), (1, .int (sI ((n : Int))))] dX3_readShore_81 (by decide) rfl ?_
                refine at_iload_n C 0 dX3_readShore_82 rfl ?_
                refine at_if_eq C 101 dX3_readShore_83 (by decide) (⟨by omega, by omega⟩) (fun h31 => absurd h31 (by omega)) (fun h31 => ?_)
                refine at_aload_n C 2 dX3_readShore_86 rfl ?_
                refine at_iload_n C 1 dX3_readShore_87 rfl ?_
                refine at_call_i C (c_X3_readNumbers l D G (wHere M1) ⟨by omega, by omega⟩ hT5 hk6) (As := [.int (sI (wHere M1))]) (obj_Rea G) (ci := 3) rfl qw_436 qw_433 qw_5 qw_435 qp_7 ⟨by decide, by decide, show (parseMethodDescriptor yX3_readNumbers.desc).map (fun d => d.parameters.length) = some 1 by decide +kernel⟩ ⟨by decide, by decide⟩ ⟨Nat.zero_le _, Nat.zero_le _⟩ (Nat.le_of_ble_eq_true rfl) dX3_readShore_88 rfl (fun r M' L' hp34 => ?_)
                obtain ⟨rfl, rfl, hT32, hk33, rfl⟩ := hp34
                refine at_if_eqB C 101 dX3_readShore_91 (by decide) (fun h35 => ?_) (fun h35 => ?_)
                · have e : pShore M = (-1, (pNums (wHere M1) (nxM M1)).2) := by rw [he, show 151 - n = (151 - (n + 1)) + 1 by omega, pItems_s, if_neg (fun z => by have z1 := z.1; have z2 := z.2; omega), if_pos (by omega), if_neg (by assumption)]
                  refine at_iconst C dX3_readShore_101 ?_
                  exact hret _ _ _ _ _ dX3_readShore_102 (⟨by rw [e], by rw [e], hT32, rfl⟩)
                · refine at_aload_n C 2 dX3_readShore_94 rfl ?_
                  refine at_call_i C (c_X3_readSemicolon l D G hT32 hk33) (As := []) (obj_Rea G) (ci := 3) rfl qw_530 qw_527 qw_5 qw_529 qp_15 ⟨by decide, by decide, show (parseMethodDescriptor yX3_readSemicolon.desc).map (fun d => d.parameters.length) = some 0 by decide +kernel⟩ ⟨by decide, by decide⟩ ⟨Nat.zero_le _, Nat.zero_le _⟩ (Nat.le_of_ble_eq_true rfl) dX3_readShore_95 rfl (fun r M' L' hp38 => ?_)
                  obtain ⟨rfl, rfl, hT36, rfl⟩ := hp38
                  have hk37 : rOk (nxM (pNums (wHere M1) (nxM M1)).2) := nxM_ok hT32 hk33
                  refine at_if_neB C 103 dX3_readShore_98 (by decide) (fun h39 => ?_) (fun h39 => ?_)
                  · refine at_iinc C 3 [(1, .int (sI ((n : Int) + 1))), (3, .int (sI (1))), (2, .int (sI (wHere M1))), (0, .ref (G.1 (195)))] dX3_readShore_103 rfl (by decide) rfl ?_
                    refine at_goto C 14 dX3_readShore_106 (by decide) ?_
                    refine at_lv [3, 0] rfl ?_
                    exact at_eq (ih14 (n + 1) (nxM (pNums (wHere M1) (nxM M1)).2) (by omega) (by omega) (hT36) (hk37) (by rw [he, show 151 - n = (151 - (n + 1)) + 1 by omega, pItems_s, if_neg (fun z => by have z1 := z.1; have z2 := z.2; omega), if_pos (by omega), if_pos (by assumption), if_pos (by assumption)])) (lvc_s (lvc_i (by omega) rfl)) rfl (rfl) (rfl)
                  · have e : pShore M = (-1, (nxM (pNums (wHere M1) (nxM M1)).2)) := by rw [he, show 151 - n = (151 - (n + 1)) + 1 by omega, pItems_s, if_neg (fun z => by have z1 := z.1; have z2 := z.2; omega), if_pos (by omega), if_pos (by assumption), if_neg (by assumption)]
                    refine at_iconst C dX3_readShore_101 ?_
                    exact hret _ _ _ _ _ dX3_readShore_102 (⟨by rw [e], by rw [e], hT36, rfl⟩)
          · refine at_aload_n C 0 dX3_readShore_46 rfl ?_
            have h43 : nxM M1 195 4 ≤ nxM M1 195 3 := by unfold nxM; rw [mRd_4, mRd_3]; omega
            refine at_call_i C (c_X3_wordNumber l D G hT5 hk6 h43) (As := []) (obj_Rea G) (ci := 3) rfl qw_374 qw_371 qw_5 qw_373 qp_5 ⟨by decide, by decide, show (parseMethodDescriptor yX3_wordNumber.desc).map (fun d => d.parameters.length) = some 0 by decide +kernel⟩ ⟨by decide, by decide⟩ ⟨Nat.zero_le _, Nat.zero_le _⟩ (Nat.le_of_ble_eq_true rfl) dX3_readShore_47 rfl (fun r M' L' hp40 => ?_)
            obtain ⟨rfl, rfl, rfl⟩ := hp40
            refine at_goto C 54 dX3_readShore_50 (by decide) ?_
            refine at_ve (b := wHere M1) (by unfold wHere; rw [if_pos (by omega)]) ?_
            refine at_istore_n C [(2, .int (sI (wHere M1))), (0, .ref (G.1 (195))), (1, .int (sI ((n : Int))))] dX3_readShore_54 (by decide) rfl ?_
            refine at_iload_n C 0 dX3_readShore_55 rfl ?_
            refine at_if_ne C 63 dX3_readShore_56 (by decide) (⟨by omega, by omega⟩) (fun h41 => ?_) (fun h41 => ?_)
            · refine at_iconst C dX3_readShore_63 ?_
              refine at_iload_n C 2 dX3_readShore_64 rfl ?_
              refine at_if_ne C 72 dX3_readShore_65 (by decide) (⟨by omega, by omega⟩) (fun h42 => ?_) (fun h42 => ?_)
              · refine at_iconst C dX3_readShore_72 ?_
                refine at_icmp_ne C 80 dX3_readShore_73 (by decide) (⟨by omega, by omega⟩) (⟨by omega, by omega⟩) (fun h43 => absurd h43 (by omega)) (fun h43 => ?_)
                refine at_iconst C dX3_readShore_76 ?_
                refine at_goto C 81 dX3_readShore_77 (by decide) ?_
                refine at_istore_n C [(3, .int (sI (1))), (2, .int (sI (wHere M1))), (0, .ref (G.1 (195))), (1, .int (sI ((n : Int))))] dX3_readShore_81 (by decide) rfl ?_
                refine at_iload_n C 0 dX3_readShore_82 rfl ?_
                refine at_if_eq C 101 dX3_readShore_83 (by decide) (⟨by omega, by omega⟩) (fun h44 => absurd h44 (by omega)) (fun h44 => ?_)
                refine at_aload_n C 2 dX3_readShore_86 rfl ?_
                refine at_iload_n C 1 dX3_readShore_87 rfl ?_
                refine at_call_i C (c_X3_readNumbers l D G (wHere M1) ⟨by omega, by omega⟩ hT5 hk6) (As := [.int (sI (wHere M1))]) (obj_Rea G) (ci := 3) rfl qw_436 qw_433 qw_5 qw_435 qp_7 ⟨by decide, by decide, show (parseMethodDescriptor yX3_readNumbers.desc).map (fun d => d.parameters.length) = some 1 by decide +kernel⟩ ⟨by decide, by decide⟩ ⟨Nat.zero_le _, Nat.zero_le _⟩ (Nat.le_of_ble_eq_true rfl) dX3_readShore_88 rfl (fun r M' L' hp47 => ?_)
                obtain ⟨rfl, rfl, hT45, hk46, rfl⟩ := hp47
                refine at_if_eqB C 101 dX3_readShore_91 (by decide) (fun h48 => ?_) (fun h48 => ?_)
                · have e : pShore M = (-1, (pNums (wHere M1) (nxM M1)).2) := by rw [he, show 151 - n = (151 - (n + 1)) + 1 by omega, pItems_s, if_neg (fun z => by have z1 := z.1; have z2 := z.2; omega), if_pos (by omega), if_neg (by assumption)]
                  refine at_iconst C dX3_readShore_101 ?_
                  exact hret _ _ _ _ _ dX3_readShore_102 (⟨by rw [e], by rw [e], hT45, rfl⟩)
                · refine at_aload_n C 2 dX3_readShore_94 rfl ?_
                  refine at_call_i C (c_X3_readSemicolon l D G hT45 hk46) (As := []) (obj_Rea G) (ci := 3) rfl qw_530 qw_527 qw_5 qw_529 qp_15 ⟨by decide, by decide, show (parseMethodDescriptor yX3_readSemicolon.desc).map (fun d => d.parameters.length) = some 0 by decide +kernel⟩ ⟨by decide, by decide⟩ ⟨Nat.zero_le _, Nat.zero_le _⟩ (Nat.le_of_ble_eq_true rfl) dX3_readShore_95 rfl (fun r M' L' hp51 => ?_)
                  obtain ⟨rfl, rfl, hT49, rfl⟩ := hp51
                  have hk50 : rOk (nxM (pNums (wHere M1) (nxM M1)).2) := nxM_ok hT45 hk46
                  refine at_if_neB C 103 dX3_readShore_98 (by decide) (fun h52 => ?_) (fun h52 => ?_)
                  · refine at_iinc C 3 [(1, .int (sI ((n : Int) + 1))), (3, .int (sI (1))), (2, .int (sI (wHere M1))), (0, .ref (G.1 (195)))] dX3_readShore_103 rfl (by decide) rfl ?_
                    refine at_goto C 14 dX3_readShore_106 (by decide) ?_
                    refine at_lv [3, 0] rfl ?_
                    exact at_eq (ih14 (n + 1) (nxM (pNums (wHere M1) (nxM M1)).2) (by omega) (by omega) (hT49) (hk50) (by rw [he, show 151 - n = (151 - (n + 1)) + 1 by omega, pItems_s, if_neg (fun z => by have z1 := z.1; have z2 := z.2; omega), if_pos (by omega), if_pos (by assumption), if_pos (by assumption)])) (lvc_s (lvc_i (by omega) rfl)) rfl (rfl) (rfl)
                  · have e : pShore M = (-1, (nxM (pNums (wHere M1) (nxM M1)).2)) := by rw [he, show 151 - n = (151 - (n + 1)) + 1 by omega, pItems_s, if_neg (fun z => by have z1 := z.1; have z2 := z.2; omega), if_pos (by omega), if_pos (by assumption), if_neg (by assumption)]
                    refine at_iconst C dX3_readShore_101 ?_
                    exact hret _ _ _ _ _ dX3_readShore_102 (⟨by rw [e], by rw [e], hT49, rfl⟩)
              · refine at_iconst C dX3_readShore_68 ?_
                refine at_goto C 73 dX3_readShore_69 (by decide) ?_
                refine at_icmp_ne C 80 dX3_readShore_73 (by decide) (⟨by omega, by omega⟩) (⟨by omega, by omega⟩) (fun h53 => ?_) (fun h53 => absurd h53 (by omega))
                refine at_iconst C dX3_readShore_80 ?_
                refine at_istore_n C [(3, .int (sI (0))), (2, .int (sI (wHere M1))), (0, .ref (G.1 (195))), (1, .int (sI ((n : Int))))] dX3_readShore_81 (by decide) rfl ?_
                refine at_iload_n C 0 dX3_readShore_82 rfl ?_
                refine at_if_eq C 101 dX3_readShore_83 (by decide) (⟨by omega, by omega⟩) (fun h54 => ?_) (fun h54 => absurd h54 (by omega))
                have e : pShore M = (-1, (nxM M1)) := by rw [he, show 151 - n = (151 - (n + 1)) + 1 by omega, pItems_s, if_neg (fun z => by have z1 := z.1; have z2 := z.2; omega), if_neg (by omega)]
                refine at_iconst C dX3_readShore_101 ?_
                exact hret _ _ _ _ _ dX3_readShore_102 (⟨by rw [e], by rw [e], hT5, rfl⟩)
            · refine at_iconst C dX3_readShore_59 ?_
              refine at_goto C 64 dX3_readShore_60 (by decide) ?_
              refine at_iload_n C 2 dX3_readShore_64 rfl ?_
              refine at_if_ne C 72 dX3_readShore_65 (by decide) (⟨by omega, by omega⟩) (fun h55 => ?_) (fun h55 => ?_)
              · refine at_iconst C dX3_readShore_72 ?_
                refine at_icmp_ne C 80 dX3_readShore_73 (by decide) (⟨by omega, by omega⟩) (⟨by omega, by omega⟩) (fun h56 => ?_) (fun h56 => absurd h56 (by omega))
                refine at_iconst C dX3_readShore_80 ?_
                refine at_istore_n C [(3, .int (sI (0))), (2, .int (sI (wHere M1))), (0, .ref (G.1 (195))), (1, .int (sI ((n : Int))))] dX3_readShore_81 (by decide) rfl ?_
                refine at_iload_n C 0 dX3_readShore_82 rfl ?_
                refine at_if_eq C 101 dX3_readShore_83 (by decide) (⟨by omega, by omega⟩) (fun h57 => ?_) (fun h57 => absurd h57 (by omega))
                have e : pShore M = (-1, (nxM M1)) := by rw [he, show 151 - n = (151 - (n + 1)) + 1 by omega, pItems_s, if_neg (fun z => by have z1 := z.1; have z2 := z.2; omega), if_neg (by omega)]
                refine at_iconst C dX3_readShore_101 ?_
                exact hret _ _ _ _ _ dX3_readShore_102 (⟨by rw [e], by rw [e], hT5, rfl⟩)
              · refine at_iconst C dX3_readShore_68 ?_
                refine at_goto C 73 dX3_readShore_69 (by decide) ?_
                refine at_icmp_ne C 80 dX3_readShore_73 (by decide) (⟨by omega, by omega⟩) (⟨by omega, by omega⟩) (fun h58 => absurd h58 (by omega)) (fun h58 => ?_)
                refine at_iconst C dX3_readShore_76 ?_
                refine at_goto C 81 dX3_readShore_77 (by decide) ?_
                refine at_istore_n C [(3, .int (sI (1))), (2, .int (sI (wHere M1))), (0, .ref (G.1 (195))), (1, .int (sI ((n : Int))))] dX3_readShore_81 (by decide) rfl ?_
                refine at_iload_n C 0 dX3_readShore_82 rfl ?_
                refine at_if_eq C 101 dX3_readShore_83 (by decide) (⟨by omega, by omega⟩) (fun h59 => absurd h59 (by omega)) (fun h59 => ?_)
                refine at_aload_n C 2 dX3_readShore_86 rfl ?_
                refine at_iload_n C 1 dX3_readShore_87 rfl ?_
                refine at_call_i C (c_X3_readNumbers l D G (wHere M1) ⟨by omega, by omega⟩ hT5 hk6) (As := [.int (sI (wHere M1))]) (obj_Rea G) (ci := 3) rfl qw_436 qw_433 qw_5 qw_435 qp_7 ⟨by decide, by decide, show (parseMethodDescriptor yX3_readNumbers.desc).map (fun d => d.parameters.length) = some 1 by decide +kernel⟩ ⟨by decide, by decide⟩ ⟨Nat.zero_le _, Nat.zero_le _⟩ (Nat.le_of_ble_eq_true rfl) dX3_readShore_88 rfl (fun r M' L' hp62 => ?_)
                obtain ⟨rfl, rfl, hT60, hk61, rfl⟩ := hp62
                refine at_if_eqB C 101 dX3_readShore_91 (by decide) (fun h63 => ?_) (fun h63 => ?_)
                · have e : pShore M = (-1, (pNums (wHere M1) (nxM M1)).2) := by rw [he, show 151 - n = (151 - (n + 1)) + 1 by omega, pItems_s, if_neg (fun z => by have z1 := z.1; have z2 := z.2; omega), if_pos (by omega), if_neg (by assumption)]
                  refine at_iconst C dX3_readShore_101 ?_
                  exact hret _ _ _ _ _ dX3_readShore_102 (⟨by rw [e], by rw [e], hT60, rfl⟩)
                · refine at_aload_n C 2 dX3_readShore_94 rfl ?_
                  refine at_call_i C (c_X3_readSemicolon l D G hT60 hk61) (As := []) (obj_Rea G) (ci := 3) rfl qw_530 qw_527 qw_5 qw_529 qp_15 ⟨by decide, by decide, show (parseMethodDescriptor yX3_readSemicolon.desc).map (fun d => d.parameters.length) = some 0 by decide +kernel⟩ ⟨by decide, by decide⟩ ⟨Nat.zero_le _, Nat.zero_le _⟩ (Nat.le_of_ble_eq_true rfl) dX3_readShore_95 rfl (fun r M' L' hp66 => ?_)
                  obtain ⟨rfl, rfl, hT64, rfl⟩ := hp66
                  have hk65 : rOk (nxM (pNums (wHere M1) (nxM M1)).2) := nxM_ok hT60 hk61
                  refine at_if_neB C 103 dX3_readShore_98 (by decide) (fun h67 => ?_) (fun h67 => ?_)
                  · refine at_iinc C 3 [(1, .int (sI ((n : Int) + 1))), (3, .int (sI (1))), (2, .int (sI (wHere M1))), (0, .ref (G.1 (195)))] dX3_readShore_103 rfl (by decide) rfl ?_
                    refine at_goto C 14 dX3_readShore_106 (by decide) ?_
                    refine at_lv [3, 0] rfl ?_
                    exact at_eq (ih14 (n + 1) (nxM (pNums (wHere M1) (nxM M1)).2) (by omega) (by omega) (hT64) (hk65) (by rw [he, show 151 - n = (151 - (n + 1)) + 1 by omega, pItems_s, if_neg (fun z => by have z1 := z.1; have z2 := z.2; omega), if_pos (by omega), if_pos (by assumption), if_pos (by assumption)])) (lvc_s (lvc_i (by omega) rfl)) rfl (rfl) (rfl)
                  · have e : pShore M = (-1, (nxM (pNums (wHere M1) (nxM M1)).2)) := by rw [he, show 151 - n = (151 - (n + 1)) + 1 by omega, pItems_s, if_neg (fun z => by have z1 := z.1; have z2 := z.2; omega), if_pos (by omega), if_pos (by assumption), if_neg (by assumption)]
                    refine at_iconst C dX3_readShore_101 ?_
                    exact hret _ _ _ _ _ dX3_readShore_102 (⟨by rw [e], by rw [e], hT64, rfl⟩)
        · refine at_iload_n C 1 dX3_readShore_32 rfl ?_
          refine at_if_le C 38 dX3_readShore_33 (by decide) (⟨by omega, by omega⟩) (fun h68 => ?_) (fun h68 => ?_)
          · refine at_aload_n C 0 dX3_readShore_38 rfl ?_
            refine at_getf (v := .int (sI ((nxM M1) 195 5))) C (obj_Rea G) (ci := 3) rfl inX3 (slot := 5) (by decide) qw_157 rfl rfl dX3_readShore_39 ?_
            have hb69 := tv hT5 (k := 195) (j := 5) rfl
            refine at_ve (b := tK M1) (mRd_5 _ _ _ _ _) ?_
            refine at_iconst C dX3_readShore_42 ?_
            refine at_icmp_ne C 53 dX3_readShore_43 (by decide) (⟨by omega, by omega⟩) (⟨by omega, by omega⟩) (fun h70 => ?_) (fun h70 => ?_)
            · refine at_iconst C dX3_readShore_53 ?_
              refine at_ve (b := wHere M1) (by unfold wHere; rw [if_neg (by omega)]) ?_
              refine at_istore_n C [(2, .int (sI (wHere M1))), (0, .ref (G.1 (195))), (1, .int (sI ((n : Int))))] dX3_readShore_54 (by decide) rfl ?_
              refine at_iload_n C 0 dX3_readShore_55 rfl ?_
              refine at_if_ne C 63 dX3_readShore_56 (by decide) (⟨by omega, by omega⟩) (fun h71 => ?_) (fun h71 => ?_)
              · refine at_iconst C dX3_readShore_63 ?_
                refine at_iload_n C 2 dX3_readShore_64 rfl ?_
                refine at_if_ne C 72 dX3_readShore_65 (by decide) (⟨by omega, by omega⟩) (fun h72 => ?_) (fun h72 => ?_)
                · refine at_iconst C dX3_readShore_72 ?_
                  refine at_icmp_ne C 80 dX3_readShore_73 (by decide) (⟨by omega, by omega⟩) (⟨by omega, by omega⟩) (fun h73 => absurd h73 (by omega)) (fun h73 => ?_)
                  refine at_iconst C dX3_readShore_76 ?_
                  refine at_goto C 81 dX3_readShore_77 (by decide) ?_
                  refine at_istore_n C [(3, .int (sI (1))), (2, .int (sI (wHere M1))), (0, .ref (G.1 (195))), (1, .int (sI ((n : Int))))] dX3_readShore_81 (by decide) rfl ?_
                  refine at_iload_n C 0 dX3_readShore_82 rfl ?_
                  refine at_if_eq C 101 dX3_readShore_83 (by decide) (⟨by omega, by omega⟩) (fun h74 => absurd h74 (by omega)) (fun h74 => ?_)
                  refine at_aload_n C 2 dX3_readShore_86 rfl ?_
                  refine at_iload_n C 1 dX3_readShore_87 rfl ?_
                  refine at_call_i C (c_X3_readNumbers l D G (wHere M1) ⟨by omega, by omega⟩ hT5 hk6) (As := [.int (sI (wHere M1))]) (obj_Rea G) (ci := 3) rfl qw_436 qw_433 qw_5 qw_435 qp_7 ⟨by decide, by decide, show (parseMethodDescriptor yX3_readNumbers.desc).map (fun d => d.parameters.length) = some 1 by decide +kernel⟩ ⟨by decide, by decide⟩ ⟨Nat.zero_le _, Nat.zero_le _⟩ (Nat.le_of_ble_eq_true rfl) dX3_readShore_88 rfl (fun r M' L' hp77 => ?_)
                  obtain ⟨rfl, rfl, hT75, hk76, rfl⟩ := hp77
                  refine at_if_eqB C 101 dX3_readShore_91 (by decide) (fun h78 => ?_) (fun h78 => ?_)
                  · have e : pShore M = (-1, (pNums (wHere M1) (nxM M1)).2) := by rw [he, show 151 - n = (151 - (n + 1)) + 1 by omega, pItems_s, if_neg (fun z => by have z1 := z.1; have z2 := z.2; omega), if_pos (by omega), if_neg (by assumption)]
                    refine at_iconst C dX3_readShore_101 ?_
                    exact hret _ _ _ _ _ dX3_readShore_102 (⟨by rw [e], by rw [e], hT75, rfl⟩)
                  · refine at_aload_n C 2 dX3_readShore_94 rfl ?_
                    refine at_call_i C (c_X3_readSemicolon l D G hT75 hk76) (As := []) (obj_Rea G) (ci := 3) rfl qw_530 qw_527 qw_5 qw_529 qp_15 ⟨by decide, by decide, show (parseMethodDescriptor yX3_readSemicolon.desc).map (fun d => d.parameters.length) = some 0 by decide +kernel⟩ ⟨by decide, by decide⟩ ⟨Nat.zero_le _, Nat.zero_le _⟩ (Nat.le_of_ble_eq_true rfl) dX3_readShore_95 rfl (fun r M' L' hp81 => ?_)
                    obtain ⟨rfl, rfl, hT79, rfl⟩ := hp81
                    have hk80 : rOk (nxM (pNums (wHere M1) (nxM M1)).2) := nxM_ok hT75 hk76
                    refine at_if_neB C 103 dX3_readShore_98 (by decide) (fun h82 => ?_) (fun h82 => ?_)
                    · refine at_iinc C 3 [(1, .int (sI ((n : Int) + 1))), (3, .int (sI (1))), (2, .int (sI (wHere M1))), (0, .ref (G.1 (195)))] dX3_readShore_103 rfl (by decide) rfl ?_
                      refine at_goto C 14 dX3_readShore_106 (by decide) ?_
                      refine at_lv [3, 0] rfl ?_
                      exact at_eq (ih14 (n + 1) (nxM (pNums (wHere M1) (nxM M1)).2) (by omega) (by omega) (hT79) (hk80) (by rw [he, show 151 - n = (151 - (n + 1)) + 1 by omega, pItems_s, if_neg (fun z => by have z1 := z.1; have z2 := z.2; omega), if_pos (by omega), if_pos (by assumption), if_pos (by assumption)])) (lvc_s (lvc_i (by omega) rfl)) rfl (rfl) (rfl)
                    · have e : pShore M = (-1, (nxM (pNums (wHere M1) (nxM M1)).2)) := by rw [he, show 151 - n = (151 - (n + 1)) + 1 by omega, pItems_s, if_neg (fun z => by have z1 := z.1; have z2 := z.2; omega), if_pos (by omega), if_pos (by assumption), if_neg (by assumption)]
                      refine at_iconst C dX3_readShore_101 ?_
                      exact hret _ _ _ _ _ dX3_readShore_102 (⟨by rw [e], by rw [e], hT79, rfl⟩)
                · refine at_iconst C dX3_readShore_68 ?_
                  refine at_goto C 73 dX3_readShore_69 (by decide) ?_
                  refine at_icmp_ne C 80 dX3_readShore_73 (by decide) (⟨by omega, by omega⟩) (⟨by omega, by omega⟩) (fun h83 => ?_) (fun h83 => absurd h83 (by omega))
                  refine at_iconst C dX3_readShore_80 ?_
                  refine at_istore_n C [(3, .int (sI (0))), (2, .int (sI (wHere M1))), (0, .ref (G.1 (195))), (1, .int (sI ((n : Int))))] dX3_readShore_81 (by decide) rfl ?_
                  refine at_iload_n C 0 dX3_readShore_82 rfl ?_
                  refine at_if_eq C 101 dX3_readShore_83 (by decide) (⟨by omega, by omega⟩) (fun h84 => ?_) (fun h84 => absurd h84 (by omega))
                  have e : pShore M = (-1, (nxM M1)) := by rw [he, show 151 - n = (151 - (n + 1)) + 1 by omega, pItems_s, if_neg (fun z => by have z1 := z.1; have z2 := z.2; omega), if_neg (by omega)]
                  refine at_iconst C dX3_readShore_101 ?_
                  exact hret _ _ _ _ _ dX3_readShore_102 (⟨by rw [e], by rw [e], hT5, rfl⟩)
              · refine at_iconst C dX3_readShore_59 ?_
                refine at_goto C 64 dX3_readShore_60 (by decide) ?_
                refine at_iload_n C 2 dX3_readShore_64 rfl ?_
                refine at_if_ne C 72 dX3_readShore_65 (by decide) (⟨by omega, by omega⟩) (fun h85 => ?_) (fun h85 => ?_)
                · refine at_iconst C dX3_readShore_72 ?_
                  refine at_icmp_ne C 80 dX3_readShore_73 (by decide) (⟨by omega, by omega⟩) (⟨by omega, by omega⟩) (fun h86 => ?_) (fun h86 => absurd h86 (by omega))
                  refine at_iconst C dX3_readShore_80 ?_
                  refine at_istore_n C [(3, .int (sI (0))), (2, .int (sI (wHere M1))), (0, .ref (G.1 (195))), (1, .int (sI ((n : Int))))] dX3_readShore_81 (by decide) rfl ?_
                  refine at_iload_n C 0 dX3_readShore_82 rfl ?_
                  refine at_if_eq C 101 dX3_readShore_83 (by decide) (⟨by omega, by omega⟩) (fun h87 => ?_) (fun h87 => absurd h87 (by omega))
                  have e : pShore M = (-1, (nxM M1)) := by rw [he, show 151 - n = (151 - (n + 1)) + 1 by omega, pItems_s, if_neg (fun z => by have z1 := z.1; have z2 := z.2; omega), if_neg (by omega)]
                  refine at_iconst C dX3_readShore_101 ?_
                  exact hret _ _ _ _ _ dX3_readShore_102 (⟨by rw [e], by rw [e], hT5, rfl⟩)
                · refine at_iconst C dX3_readShore_68 ?_
                  refine at_goto C 73 dX3_readShore_69 (by decide) ?_
                  refine at_icmp_ne C 80 dX3_readShore_73 (by decide) (⟨by omega, by omega⟩) (⟨by omega, by omega⟩) (fun h88 => absurd h88 (by omega)) (fun h88 => ?_)
                  refine at_iconst C dX3_readShore_76 ?_
                  refine at_goto C 81 dX3_readShore_77 (by decide) ?_
                  refine at_istore_n C [(3, .int (sI (1))), (2, .int (sI (wHere M1))), (0, .ref (G.1 (195))), (1, .int (sI ((n : Int))))] dX3_readShore_81 (by decide) rfl ?_
                  refine at_iload_n C 0 dX3_readShore_82 rfl ?_
                  refine at_if_eq C 101 dX3_readShore_83 (by decide) (⟨by omega, by omega⟩) (fun h89 => absurd h89 (by omega)) (fun h89 => ?_)
                  refine at_aload_n C 2 dX3_readShore_86 rfl ?_
                  refine at_iload_n C 1 dX3_readShore_87 rfl ?_
                  refine at_call_i C (c_X3_readNumbers l D G (wHere M1) ⟨by omega, by omega⟩ hT5 hk6) (As := [.int (sI (wHere M1))]) (obj_Rea G) (ci := 3) rfl qw_436 qw_433 qw_5 qw_435 qp_7 ⟨by decide, by decide, show (parseMethodDescriptor yX3_readNumbers.desc).map (fun d => d.parameters.length) = some 1 by decide +kernel⟩ ⟨by decide, by decide⟩ ⟨Nat.zero_le _, Nat.zero_le _⟩ (Nat.le_of_ble_eq_true rfl) dX3_readShore_88 rfl (fun r M' L' hp92 => ?_)
                  obtain ⟨rfl, rfl, hT90, hk91, rfl⟩ := hp92
                  refine at_if_eqB C 101 dX3_readShore_91 (by decide) (fun h93 => ?_) (fun h93 => ?_)
                  · have e : pShore M = (-1, (pNums (wHere M1) (nxM M1)).2) := by rw [he, show 151 - n = (151 - (n + 1)) + 1 by omega, pItems_s, if_neg (fun z => by have z1 := z.1; have z2 := z.2; omega), if_pos (by omega), if_neg (by assumption)]
                    refine at_iconst C dX3_readShore_101 ?_
                    exact hret _ _ _ _ _ dX3_readShore_102 (⟨by rw [e], by rw [e], hT90, rfl⟩)
                  · refine at_aload_n C 2 dX3_readShore_94 rfl ?_
                    refine at_call_i C (c_X3_readSemicolon l D G hT90 hk91) (As := []) (obj_Rea G) (ci := 3) rfl qw_530 qw_527 qw_5 qw_529 qp_15 ⟨by decide, by decide, show (parseMethodDescriptor yX3_readSemicolon.desc).map (fun d => d.parameters.length) = some 0 by decide +kernel⟩ ⟨by decide, by decide⟩ ⟨Nat.zero_le _, Nat.zero_le _⟩ (Nat.le_of_ble_eq_true rfl) dX3_readShore_95 rfl (fun r M' L' hp96 => ?_)
                    obtain ⟨rfl, rfl, hT94, rfl⟩ := hp96
                    have hk95 : rOk (nxM (pNums (wHere M1) (nxM M1)).2) := nxM_ok hT90 hk91
                    refine at_if_neB C 103 dX3_readShore_98 (by decide) (fun h97 => ?_) (fun h97 => ?_)
                    · refine at_iinc C 3 [(1, .int (sI ((n : Int) + 1))), (3, .int (sI (1))), (2, .int (sI (wHere M1))), (0, .ref (G.1 (195)))] dX3_readShore_103 rfl (by decide) rfl ?_
                      refine at_goto C 14 dX3_readShore_106 (by decide) ?_
                      refine at_lv [3, 0] rfl ?_
                      exact at_eq (ih14 (n + 1) (nxM (pNums (wHere M1) (nxM M1)).2) (by omega) (by omega) (hT94) (hk95) (by rw [he, show 151 - n = (151 - (n + 1)) + 1 by omega, pItems_s, if_neg (fun z => by have z1 := z.1; have z2 := z.2; omega), if_pos (by omega), if_pos (by assumption), if_pos (by assumption)])) (lvc_s (lvc_i (by omega) rfl)) rfl (rfl) (rfl)
                    · have e : pShore M = (-1, (nxM (pNums (wHere M1) (nxM M1)).2)) := by rw [he, show 151 - n = (151 - (n + 1)) + 1 by omega, pItems_s, if_neg (fun z => by have z1 := z.1; have z2 := z.2; omega), if_pos (by omega), if_pos (by assumption), if_neg (by assumption)]
                      refine at_iconst C dX3_readShore_101 ?_
                      exact hret _ _ _ _ _ dX3_readShore_102 (⟨by rw [e], by rw [e], hT94, rfl⟩)
            · refine at_aload_n C 0 dX3_readShore_46 rfl ?_
              have h43 : nxM M1 195 4 ≤ nxM M1 195 3 := by unfold nxM; rw [mRd_4, mRd_3]; omega
              refine at_call_i C (c_X3_wordNumber l D G hT5 hk6 h43) (As := []) (obj_Rea G) (ci := 3) rfl qw_374 qw_371 qw_5 qw_373 qp_5 ⟨by decide, by decide, show (parseMethodDescriptor yX3_wordNumber.desc).map (fun d => d.parameters.length) = some 0 by decide +kernel⟩ ⟨by decide, by decide⟩ ⟨Nat.zero_le _, Nat.zero_le _⟩ (Nat.le_of_ble_eq_true rfl) dX3_readShore_47 rfl (fun r M' L' hp98 => ?_)
              obtain ⟨rfl, rfl, rfl⟩ := hp98
              refine at_goto C 54 dX3_readShore_50 (by decide) ?_
              refine at_ve (b := wHere M1) (by unfold wHere; rw [if_pos (by omega)]) ?_
              refine at_istore_n C [(2, .int (sI (wHere M1))), (0, .ref (G.1 (195))), (1, .int (sI ((n : Int))))] dX3_readShore_54 (by decide) rfl ?_
              refine at_iload_n C 0 dX3_readShore_55 rfl ?_
              refine at_if_ne C 63 dX3_readShore_56 (by decide) (⟨by omega, by omega⟩) (fun h99 => ?_) (fun h99 => ?_)
              · refine at_iconst C dX3_readShore_63 ?_
                refine at_iload_n C 2 dX3_readShore_64 rfl ?_
                refine at_if_ne C 72 dX3_readShore_65 (by decide) (⟨by omega, by omega⟩) (fun h100 => ?_) (fun h100 => ?_)
                · refine at_iconst C dX3_readShore_72 ?_
                  refine at_icmp_ne C 80 dX3_readShore_73 (by decide) (⟨by omega, by omega⟩) (⟨by omega, by omega⟩) (fun h101 => absurd h101 (by omega)) (fun h101 => ?_)
                  refine at_iconst C dX3_readShore_76 ?_
                  refine at_goto C 81 dX3_readShore_77 (by decide) ?_
                  refine at_istore_n C [(3, .int (sI (1))), (2, .int (sI (wHere M1))), (0, .ref (G.1 (195))), (1, .int (sI ((n : Int))))] dX3_readShore_81 (by decide) rfl ?_
                  refine at_iload_n C 0 dX3_readShore_82 rfl ?_
                  refine at_if_eq C 101 dX3_readShore_83 (by decide) (⟨by omega, by omega⟩) (fun h102 => absurd h102 (by omega)) (fun h102 => ?_)
                  refine at_aload_n C 2 dX3_readShore_86 rfl ?_
                  refine at_iload_n C 1 dX3_readShore_87 rfl ?_
                  refine at_call_i C (c_X3_readNumbers l D G (wHere M1) ⟨by omega, by omega⟩ hT5 hk6) (As := [.int (sI (wHere M1))]) (obj_Rea G) (ci := 3) rfl qw_436 qw_433 qw_5 qw_435 qp_7 ⟨by decide, by decide, show (parseMethodDescriptor yX3_readNumbers.desc).map (fun d => d.parameters.length) = some 1 by decide +kernel⟩ ⟨by decide, by decide⟩ ⟨Nat.zero_le _, Nat.zero_le _⟩ (Nat.le_of_ble_eq_true rfl) dX3_readShore_88 rfl (fun r M' L' hp105 => ?_)
                  obtain ⟨rfl, rfl, hT103, hk104, rfl⟩ := hp105
                  refine at_if_eqB C 101 dX3_readShore_91 (by decide) (fun h106 => ?_) (fun h106 => ?_)
                  · have e : pShore M = (-1, (pNums (wHere M1) (nxM M1)).2) := by rw [he, show 151 - n = (151 - (n + 1)) + 1 by omega, pItems_s, if_neg (fun z => by have z1 := z.1; have z2 := z.2; omega), if_pos (by omega), if_neg (by assumption)]
                    refine at_iconst C dX3_readShore_101 ?_
                    exact hret _ _ _ _ _ dX3_readShore_102 (⟨by rw [e], by rw [e], hT103, rfl⟩)
                  · refine at_aload_n C 2 dX3_readShore_94 rfl ?_
                    refine at_call_i C (c_X3_readSemicolon l D G hT103 hk104) (As := []) (obj_Rea G) (ci := 3) rfl qw_530 qw_527 qw_5 qw_529 qp_15 ⟨by decide, by decide, show (parseMethodDescriptor yX3_readSemicolon.desc).map (fun d => d.parameters.length) = some 0 by decide +kernel⟩ ⟨by decide, by decide⟩ ⟨Nat.zero_le _, Nat.zero_le _⟩ (Nat.le_of_ble_eq_true rfl) dX3_readShore_95 rfl (fun r M' L' hp109 => ?_)
                    obtain ⟨rfl, rfl, hT107, rfl⟩ := hp109
                    have hk108 : rOk (nxM (pNums (wHere M1) (nxM M1)).2) := nxM_ok hT103 hk104
                    refine at_if_neB C 103 dX3_readShore_98 (by decide) (fun h110 => ?_) (fun h110 => ?_)
                    · refine at_iinc C 3 [(1, .int (sI ((n : Int) + 1))), (3, .int (sI (1))), (2, .int (sI (wHere M1))), (0, .ref (G.1 (195)))] dX3_readShore_103 rfl (by decide) rfl ?_
                      refine at_goto C 14 dX3_readShore_106 (by decide) ?_
                      refine at_lv [3, 0] rfl ?_
                      exact at_eq (ih14 (n + 1) (nxM (pNums (wHere M1) (nxM M1)).2) (by omega) (by omega) (hT107) (hk108) (by rw [he, show 151 - n = (151 - (n + 1)) + 1 by omega, pItems_s, if_neg (fun z => by have z1 := z.1; have z2 := z.2; omega), if_pos (by omega), if_pos (by assumption), if_pos (by assumption)])) (lvc_s (lvc_i (by omega) rfl)) rfl (rfl) (rfl)
                    · have e : pShore M = (-1, (nxM (pNums (wHere M1) (nxM M1)).2)) := by rw [he, show 151 - n = (151 - (n + 1)) + 1 by omega, pItems_s, if_neg (fun z => by have z1 := z.1; have z2 := z.2; omega), if_pos (by omega), if_pos (by assumption), if_neg (by assumption)]
                      refine at_iconst C dX3_readShore_101 ?_
                      exact hret _ _ _ _ _ dX3_readShore_102 (⟨by rw [e], by rw [e], hT107, rfl⟩)
                · refine at_iconst C dX3_readShore_68 ?_
                  refine at_goto C 73 dX3_readShore_69 (by decide) ?_
                  refine at_icmp_ne C 80 dX3_readShore_73 (by decide) (⟨by omega, by omega⟩) (⟨by omega, by omega⟩) (fun h111 => ?_) (fun h111 => absurd h111 (by omega))
                  refine at_iconst C dX3_readShore_80 ?_
                  refine at_istore_n C [(3, .int (sI (0))), (2, .int (sI (wHere M1))), (0, .ref (G.1 (195))), (1, .int (sI ((n : Int))))] dX3_readShore_81 (by decide) rfl ?_
                  refine at_iload_n C 0 dX3_readShore_82 rfl ?_
                  refine at_if_eq C 101 dX3_readShore_83 (by decide) (⟨by omega, by omega⟩) (fun h112 => ?_) (fun h112 => absurd h112 (by omega))
                  have e : pShore M = (-1, (nxM M1)) := by rw [he, show 151 - n = (151 - (n + 1)) + 1 by omega, pItems_s, if_neg (fun z => by have z1 := z.1; have z2 := z.2; omega), if_neg (by omega)]
                  refine at_iconst C dX3_readShore_101 ?_
                  exact hret _ _ _ _ _ dX3_readShore_102 (⟨by rw [e], by rw [e], hT5, rfl⟩)
              · refine at_iconst C dX3_readShore_59 ?_
                refine at_goto C 64 dX3_readShore_60 (by decide) ?_
                refine at_iload_n C 2 dX3_readShore_64 rfl ?_
                refine at_if_ne C 72 dX3_readShore_65 (by decide) (⟨by omega, by omega⟩) (fun h113 => ?_) (fun h113 => ?_)
                · refine at_iconst C dX3_readShore_72 ?_
                  refine at_icmp_ne C 80 dX3_readShore_73 (by decide) (⟨by omega, by omega⟩) (⟨by omega, by omega⟩) (fun h114 => ?_) (fun h114 => absurd h114 (by omega))
                  refine at_iconst C dX3_readShore_80 ?_
                  refine at_istore_n C [(3, .int (sI (0))), (2, .int (sI (wHere M1))), (0, .ref (G.1 (195))), (1, .int (sI ((n : Int))))] dX3_readShore_81 (by decide) rfl ?_
                  refine at_iload_n C 0 dX3_readShore_82 rfl ?_
                  refine at_if_eq C 101 dX3_readShore_83 (by decide) (⟨by omega, by omega⟩) (fun h115 => ?_) (fun h115 => absurd h115 (by omega))
                  have e : pShore M = (-1, (nxM M1)) := by rw [he, show 151 - n = (151 - (n + 1)) + 1 by omega, pItems_s, if_neg (fun z => by have z1 := z.1; have z2 := z.2; omega), if_neg (by omega)]
                  refine at_iconst C dX3_readShore_101 ?_
                  exact hret _ _ _ _ _ dX3_readShore_102 (⟨by rw [e], by rw [e], hT5, rfl⟩)
                · refine at_iconst C dX3_readShore_68 ?_
                  refine at_goto C 73 dX3_readShore_69 (by decide) ?_
                  refine at_icmp_ne C 80 dX3_readShore_73 (by decide) (⟨by omega, by omega⟩) (⟨by omega, by omega⟩) (fun h116 => absurd h116 (by omega)) (fun h116 => ?_)
                  refine at_iconst C dX3_readShore_76 ?_
                  refine at_goto C 81 dX3_readShore_77 (by decide) ?_
                  refine at_istore_n C [(3, .int (sI (1))), (2, .int (sI (wHere M1))), (0, .ref (G.1 (195))), (1, .int (sI ((n : Int))))] dX3_readShore_81 (by decide) rfl ?_
                  refine at_iload_n C 0 dX3_readShore_82 rfl ?_
                  refine at_if_eq C 101 dX3_readShore_83 (by decide) (⟨by omega, by omega⟩) (fun h117 => absurd h117 (by omega)) (fun h117 => ?_)
                  refine at_aload_n C 2 dX3_readShore_86 rfl ?_
                  refine at_iload_n C 1 dX3_readShore_87 rfl ?_
                  refine at_call_i C (c_X3_readNumbers l D G (wHere M1) ⟨by omega, by omega⟩ hT5 hk6) (As := [.int (sI (wHere M1))]) (obj_Rea G) (ci := 3) rfl qw_436 qw_433 qw_5 qw_435 qp_7 ⟨by decide, by decide, show (parseMethodDescriptor yX3_readNumbers.desc).map (fun d => d.parameters.length) = some 1 by decide +kernel⟩ ⟨by decide, by decide⟩ ⟨Nat.zero_le _, Nat.zero_le _⟩ (Nat.le_of_ble_eq_true rfl) dX3_readShore_88 rfl (fun r M' L' hp120 => ?_)
                  obtain ⟨rfl, rfl, hT118, hk119, rfl⟩ := hp120
                  refine at_if_eqB C 101 dX3_readShore_91 (by decide) (fun h121 => ?_) (fun h121 => ?_)
                  · have e : pShore M = (-1, (pNums (wHere M1) (nxM M1)).2) := by rw [he, show 151 - n = (151 - (n + 1)) + 1 by omega, pItems_s, if_neg (fun z => by have z1 := z.1; have z2 := z.2; omega), if_pos (by omega), if_neg (by assumption)]
                    refine at_iconst C dX3_readShore_101 ?_
                    exact hret _ _ _ _ _ dX3_readShore_102 (⟨by rw [e], by rw [e], hT118, rfl⟩)
                  · refine at_aload_n C 2 dX3_readShore_94 rfl ?_
                    refine at_call_i C (c_X3_readSemicolon l D G hT118 hk119) (As := []) (obj_Rea G) (ci := 3) rfl qw_530 qw_527 qw_5 qw_529 qp_15 ⟨by decide, by decide, show (parseMethodDescriptor yX3_readSemicolon.desc).map (fun d => d.parameters.length) = some 0 by decide +kernel⟩ ⟨by decide, by decide⟩ ⟨Nat.zero_le _, Nat.zero_le _⟩ (Nat.le_of_ble_eq_true rfl) dX3_readShore_95 rfl (fun r M' L' hp124 => ?_)
                    obtain ⟨rfl, rfl, hT122, rfl⟩ := hp124
                    have hk123 : rOk (nxM (pNums (wHere M1) (nxM M1)).2) := nxM_ok hT118 hk119
                    refine at_if_neB C 103 dX3_readShore_98 (by decide) (fun h125 => ?_) (fun h125 => ?_)
                    · refine at_iinc C 3 [(1, .int (sI ((n : Int) + 1))), (3, .int (sI (1))), (2, .int (sI (wHere M1))), (0, .ref (G.1 (195)))] dX3_readShore_103 rfl (by decide) rfl ?_
                      refine at_goto C 14 dX3_readShore_106 (by decide) ?_
                      refine at_lv [3, 0] rfl ?_
                      exact at_eq (ih14 (n + 1) (nxM (pNums (wHere M1) (nxM M1)).2) (by omega) (by omega) (hT122) (hk123) (by rw [he, show 151 - n = (151 - (n + 1)) + 1 by omega, pItems_s, if_neg (fun z => by have z1 := z.1; have z2 := z.2; omega), if_pos (by omega), if_pos (by assumption), if_pos (by assumption)])) (lvc_s (lvc_i (by omega) rfl)) rfl (rfl) (rfl)
                    · have e : pShore M = (-1, (nxM (pNums (wHere M1) (nxM M1)).2)) := by rw [he, show 151 - n = (151 - (n + 1)) + 1 by omega, pItems_s, if_neg (fun z => by have z1 := z.1; have z2 := z.2; omega), if_pos (by omega), if_pos (by assumption), if_neg (by assumption)]
                      refine at_iconst C dX3_readShore_101 ?_
                      exact hret _ _ _ _ _ dX3_readShore_102 (⟨by rw [e], by rw [e], hT122, rfl⟩)
          · have e : pShore M = ((n : Int), (nxM M1)) := by rw [he, show 151 - n = (151 - (n + 1)) + 1 by omega, pItems_s, if_pos ⟨by omega, by omega⟩]
            refine at_iload_n C 1 dX3_readShore_36 rfl ?_
            exact hret _ _ _ _ _ dX3_readShore_37 (⟨by rw [e], by rw [e], hT5, rfl⟩)
  refine at_lv [1, 0] rfl ?_
  exact at_eq (H14 _ 0 (sSt (bRes M 197) 195 3 0) (Nat.lt_succ_self _) (by omega) (hT3) (by have h2 := (rN_r hT).2; unfold rOk; rw [sSt_eq, sSt_nj (by decide), bRes_o (by decide)]; omega) (rfl)) (lvc_s (lvc_i (rfl) rfl)) rfl (rfl) (rfl)

set_option maxHeartbeats 4000000 in
set_option maxRecDepth 100000 in
theorem c_X6_read (l : Launch) (D : va_G) (G : sG) {M : sM} {L : sL} (hT : TInv M) (hc : sCt M) : sKi l D G yX6_read cX6_read 2 .int 7 157 [.ref (G.1 (0))] M L (fun r M' L' => r = sI (if (pShore M).1 = -1 then -10 - (pShore M).2 195 4 else (pShore M).1) ∧ M' = (if (pShore M).1 = -1 then (pShore M).2 else bCpy (pShore M).2 1 197) ∧ TInv M' ∧ L = L') := by
  refine sKi_go (by decide) (Nat.le_of_ble_eq_true rfl) ?_
  intro zp ze zs zm za zb zt zc Q C hret
  refine at_eq (lv' := [(0, .ref (G.1 (0)))]) (st' := []) (M' := M) (L' := L) ?_ rfl rfl rfl rfl
  have hpr := pShore_r M
  refine at_aload_n C 0 dX6_read_0 rfl ?_
  refine at_getf (v := .ref (G.1 (195))) C (obj_Sho G) (ci := 6) rfl inX6 (slot := 4) (by decide) qw_253 rfl rfl dX6_read_1 ?_
  refine at_call_i C (c_X3_readShore l D G hT) (As := []) (obj_Rea G) (ci := 3) rfl qw_351 qw_348 qw_5 qw_349 qw_350 ⟨by decide, by decide, show (parseMethodDescriptor yX3_readShore.desc).map (fun d => d.parameters.length) = some 0 by decide +kernel⟩ ⟨by decide, by decide⟩ ⟨Nat.zero_le _, Nat.zero_le _⟩ (Nat.le_of_ble_eq_true rfl) dX6_read_4 rfl (fun r M' L' hp2 => ?_)
  obtain ⟨rfl, rfl, hT1, rfl⟩ := hp2
  refine at_istore_n C [(1, .int (sI ((pShore M).1))), (0, .ref (G.1 (0)))] dX6_read_7 (by decide) rfl ?_
  refine at_iload_n C 0 dX6_read_8 rfl ?_
  refine at_iconst C dX6_read_9 ?_
  refine at_icmp_ne C 24 dX6_read_10 (by decide) (⟨by omega, by omega⟩) (⟨by omega, by omega⟩) (fun h3 => ?_) (fun h3 => ?_)
  · refine at_aload_n C 1 dX6_read_24 rfl ?_
    refine at_getf (v := .ref (G.1 (1))) C (obj_Sho G) (ci := 6) rfl inX6 (slot := 0) (by decide) qw_249 rfl rfl dX6_read_25 ?_
    refine at_aload_n C 1 dX6_read_28 rfl ?_
    refine at_getf (v := .ref (G.1 (195))) C (obj_Sho G) (ci := 6) rfl inX6 (slot := 4) (by decide) qw_253 rfl rfl dX6_read_29 ?_
    refine at_getf (v := .ref (G.1 (197))) C (obj_Rea G) (ci := 3) rfl inX3 (slot := 1) (by decide) qw_151 rfl rfl dX6_read_32 ?_
    refine at_call_v C (c_X0_copy l D G (Or.inl rfl) (Or.inr (Or.inr (Or.inr (Or.inr rfl)))) (by omega) hT1) (As := [.ref (G.1 (197))]) (obj_Bea G (Or.inl rfl)) (ci := 0) rfl qw_534 qw_531 qw_2 qw_532 qw_533 ⟨by decide, by decide, show (parseMethodDescriptor yX0_copy.desc).map (fun d => d.parameters.length) = some 1 by decide +kernel⟩ ⟨by decide, by decide⟩ ⟨Nat.zero_le _, Nat.zero_le _⟩ (Nat.le_of_ble_eq_true rfl) dX6_read_35 rfl (fun M' L' hp5 => ?_)
    obtain ⟨rfl, hT4, rfl⟩ := hp5
    refine at_iload_n C 0 dX6_read_38 rfl ?_
    exact hret _ _ _ _ _ dX6_read_39 (⟨congrArg sI (if_neg (by omega)).symm, (if_neg (by omega)).symm, hT4, rfl⟩)
  · refine at_bipush C dX6_read_13 (by decide) (by decide) ?_
    refine at_aload_n C 1 dX6_read_15 rfl ?_
    refine at_getf (v := .ref (G.1 (195))) C (obj_Sho G) (ci := 6) rfl inX6 (slot := 4) (by decide) qw_253 rfl rfl dX6_read_16 ?_
    refine at_getf (v := .int (sI ((pShore M).2 195 4))) C (obj_Rea G) (ci := 3) rfl inX3 (slot := 4) (by decide) qw_155 rfl rfl dX6_read_19 ?_
    have hb6 := tv hT1 (k := 195) (j := 4) rfl
    refine at_isub C dX6_read_22 ?_
    exact hret _ _ _ _ _ dX6_read_23 (⟨congrArg sI (if_pos (by omega)).symm, (if_pos (by omega)).symm, hT1, rfl⟩)
