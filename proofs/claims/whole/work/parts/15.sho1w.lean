set_option maxHeartbeats 4000000 in
set_option maxRecDepth 100000 in
theorem c_X6_refuseBad (l : Launch) (D : va_G) (G : sG) {M : sM} {L : sL} (a : Int) (hT : TInv M) (hc : sCt M) : sKi l D G yX6_refuseBad cX6_refuseBad 2 .int 0 0 [.ref (G.1 (0)), .int (sI (a))] M L (fun r M' L' => r = sI (a) ∧ M' = sBad M ∧ TInv M' ∧ L = L') := by
  refine sKi_go (by decide) (Nat.le_of_ble_eq_true rfl) ?_
  intro zp ze zs zm za zb zt zc Q C hret
  refine at_eq (lv' := [(0, .ref (G.1 (0))), (1, .int (sI (a)))]) (st' := []) (M' := M) (L' := L) ?_ rfl rfl rfl rfl
  refine at_aload_n C 0 dX6_refuseBad_0 rfl ?_
  refine at_dup C dX6_refuseBad_1 rfl ?_
  refine at_getf (v := .int (sI (M 0 10))) C (obj_Sho G) (ci := 6) rfl inX6 (slot := 10) (by decide) qw_259 rfl rfl dX6_refuseBad_2 ?_
  have hb1 : _ ≤ M 0 10 ∧ M 0 10 ≤ _ := tv hT (k := 0) (j := 10) rfl
  refine at_iconst C dX6_refuseBad_5 ?_
  refine at_iadd C dX6_refuseBad_6 ?_
  refine at_putM (slot := 10) (ty := .int) C tyX6 (obj_Sho G) (ci := 6) rfl inX6 tyX6_ok nmX6 (by decide) qw_259 rfl rfl (by decide +kernel) rfl rfl (Nat.le_of_ble_eq_true rfl) rfl dX6_refuseBad_7 ?_
  have hT2 : TInv (sSt M 0 10 ((M 0 10) + 1)) := tv_st hT (k := 0) (j := 10) rfl (⟨by omega, by omega⟩)
  refine at_iload_n C 1 dX6_refuseBad_10 rfl ?_
  exact hret _ _ _ _ _ dX6_refuseBad_11 (⟨rfl, rfl, hT2, rfl⟩)

set_option maxHeartbeats 4000000 in
set_option maxRecDepth 100000 in
theorem c_X6_refuseNo (l : Launch) (D : va_G) (G : sG) {M : sM} {L : sL} (hT : TInv M) (hc : sCt M) : sKi l D G yX6_refuseNo cX6_refuseNo 1 .int 0 0 [.ref (G.1 (0))] M L (fun r M' L' => r = sI (-3) ∧ M' = sNo M ∧ TInv M' ∧ L = L') := by
  refine sKi_go (by decide) (Nat.le_of_ble_eq_true rfl) ?_
  intro zp ze zs zm za zb zt zc Q C hret
  refine at_eq (lv' := [(0, .ref (G.1 (0)))]) (st' := []) (M' := M) (L' := L) ?_ rfl rfl rfl rfl
  refine at_aload_n C 0 dX6_refuseNo_0 rfl ?_
  refine at_dup C dX6_refuseNo_1 rfl ?_
  refine at_getf (v := .int (sI (M 0 11))) C (obj_Sho G) (ci := 6) rfl inX6 (slot := 11) (by decide) qw_260 rfl rfl dX6_refuseNo_2 ?_
  have hb1 : _ ≤ M 0 11 ∧ M 0 11 ≤ _ := tv hT (k := 0) (j := 11) rfl
  refine at_iconst C dX6_refuseNo_5 ?_
  refine at_iadd C dX6_refuseNo_6 ?_
  refine at_putM (slot := 11) (ty := .int) C tyX6 (obj_Sho G) (ci := 6) rfl inX6 tyX6_ok nmX6 (by decide) qw_260 rfl rfl (by decide +kernel) rfl rfl (Nat.le_of_ble_eq_true rfl) rfl dX6_refuseNo_7 ?_
  have hT2 : TInv (sSt M 0 11 ((M 0 11) + 1)) := tv_st hT (k := 0) (j := 11) rfl (⟨by omega, by omega⟩)
  refine at_bipush C dX6_refuseNo_10 (by decide) (by decide) ?_
  exact hret _ _ _ _ _ dX6_refuseNo_12 (⟨rfl, rfl, hT2, rfl⟩)

set_option maxHeartbeats 4000000 in
set_option maxRecDepth 100000 in
theorem c_X6_refuseFull (l : Launch) (D : va_G) (G : sG) {M : sM} {L : sL} (hT : TInv M) (hc : sCt M) : sKi l D G yX6_refuseFull cX6_refuseFull 1 .int 0 0 [.ref (G.1 (0))] M L (fun r M' L' => r = sI (-4) ∧ M' = sFul M ∧ TInv M' ∧ L = L') := by
  refine sKi_go (by decide) (Nat.le_of_ble_eq_true rfl) ?_
  intro zp ze zs zm za zb zt zc Q C hret
  refine at_eq (lv' := [(0, .ref (G.1 (0)))]) (st' := []) (M' := M) (L' := L) ?_ rfl rfl rfl rfl
  refine at_aload_n C 0 dX6_refuseFull_0 rfl ?_
  refine at_dup C dX6_refuseFull_1 rfl ?_
  refine at_getf (v := .int (sI (M 0 12))) C (obj_Sho G) (ci := 6) rfl inX6 (slot := 12) (by decide) qw_261 rfl rfl dX6_refuseFull_2 ?_
  have hb1 : _ ≤ M 0 12 ∧ M 0 12 ≤ _ := tv hT (k := 0) (j := 12) rfl
  refine at_iconst C dX6_refuseFull_5 ?_
  refine at_iadd C dX6_refuseFull_6 ?_
  refine at_putM (slot := 12) (ty := .int) C tyX6 (obj_Sho G) (ci := 6) rfl inX6 tyX6_ok nmX6 (by decide) qw_261 rfl rfl (by decide +kernel) rfl rfl (Nat.le_of_ble_eq_true rfl) rfl dX6_refuseFull_7 ?_
  have hT2 : TInv (sSt M 0 12 ((M 0 12) + 1)) := tv_st hT (k := 0) (j := 12) rfl (⟨by omega, by omega⟩)
  refine at_bipush C dX6_refuseFull_10 (by decide) (by decide) ?_
  exact hret _ _ _ _ _ dX6_refuseFull_12 (⟨rfl, rfl, hT2, rfl⟩)

set_option maxHeartbeats 4000000 in
set_option maxRecDepth 100000 in
theorem c_X6_contains (l : Launch) (D : va_G) (G : sG) {M : sM} {L : sL} (x k : Nat) (hx : x < 2147483648) (hk : k < 31) : sKi l D G yX6_contains cX6_contains 2 .boolean 0 0 [.int (sI ((x : Int))), .int (sI ((k : Int)))] M L (fun r M' L' => r = sB (x.testBit k = true) ∧ (M = M' ∧ L = L')) := by
  refine sKz_go (by decide) (Nat.le_of_ble_eq_true rfl) ?_
  intro zp ze zs zm za zb zt zc Q C hret
  refine at_eq (lv' := [(0, .int (sI ((x : Int)))), (1, .int (sI ((k : Int))))]) (st' := []) (M' := M) (L' := L) ?_ rfl rfl rfl rfl
  refine at_iload_n C 0 dX6_contains_0 rfl ?_
  refine at_iload_n C 1 dX6_contains_1 rfl ?_
  refine at_ishr C ((((x / 2 ^ k) : Nat) : Int)) dX6_contains_2 (zb_shr hx (by omega)) ?_
  refine at_iconst C dX6_contains_3 ?_
  refine at_iand C ((((x / 2 ^ k % 2) : Nat) : Int)) dX6_contains_4 (zb_a1 _) ?_
  refine at_iconst C dX6_contains_5 ?_
  refine at_icmp_ne C 13 dX6_contains_6 (by decide) (⟨by omega, by omega⟩) (⟨by omega, by omega⟩) (fun h1 => ?_) (fun h1 => ?_)
  · refine at_iconst C dX6_contains_13 ?_
    exact hret _ _ _ _ _ dX6_contains_14 (sB_f (by rw [zb_test]; omega)) ⟨rfl, rfl⟩
  · refine at_iconst C dX6_contains_9 ?_
    refine at_goto C 14 dX6_contains_10 (by decide) ?_
    exact hret _ _ _ _ _ dX6_contains_14 (sB_t (by rw [zb_test]; omega)) ⟨rfl, rfl⟩

set_option maxHeartbeats 4000000 in
set_option maxRecDepth 100000 in
theorem c_X6_shore (l : Launch) (D : va_G) (G : sG) {M : sM} {L : sL} (hT : TInv M) (hc : sCt M) : sKi l D G yX6_shore cX6_shore 2 .int 2 42 [.ref (G.1 (0))] M L (fun r M' L' => r = sI (M 1 9) ∧ M' = bRes M 1 ∧ TInv M' ∧ L = L') := by
  refine sKi_go (by decide) (Nat.le_of_ble_eq_true rfl) ?_
  intro zp ze zs zm za zb zt zc Q C hret
  refine at_eq (lv' := [(0, .ref (G.1 (0)))]) (st' := []) (M' := M) (L' := L) ?_ rfl rfl rfl rfl
  refine at_aload_n C 0 dX6_shore_0 rfl ?_
  refine at_getf (v := .ref (G.1 (1))) C (obj_Sho G) (ci := 6) rfl inX6 (slot := 0) (by decide) qw_249 rfl rfl dX6_shore_1 ?_
  refine at_getf (v := .int (sI (M 1 9))) C (obj_Bea G (Or.inl rfl)) (ci := 0) rfl inX0 (slot := 9) (by decide) qw_104 rfl rfl dX6_shore_4 ?_
  have hb1 : _ ≤ M 1 9 ∧ M 1 9 ≤ _ := tv_souls hT (Or.inl rfl)
  refine at_istore_n C [(1, .int (sI (M 1 9))), (0, .ref (G.1 (0)))] dX6_shore_7 (by decide) rfl ?_
  refine at_aload_n C 1 dX6_shore_8 rfl ?_
  refine at_getf (v := .ref (G.1 (1))) C (obj_Sho G) (ci := 6) rfl inX6 (slot := 0) (by decide) qw_249 rfl rfl dX6_shore_9 ?_
  refine at_call_v C (c_X0_reset l D G (Or.inl rfl) hT) (As := []) (obj_Bea G (Or.inl rfl)) (ci := 0) rfl qw_296 qw_293 qw_2 qw_294 qw_295 ⟨by decide, by decide, show (parseMethodDescriptor yX0_reset.desc).map (fun d => d.parameters.length) = some 0 by decide +kernel⟩ ⟨by decide, by decide⟩ ⟨Nat.zero_le _, Nat.zero_le _⟩ (Nat.le_of_ble_eq_true rfl) dX6_shore_12 rfl (fun M' L' hp3 => ?_)
  obtain ⟨rfl, hT2, rfl⟩ := hp3
  refine at_iload_n C 0 dX6_shore_15 rfl ?_
  exact hret _ _ _ _ _ dX6_shore_16 (⟨rfl, rfl, hT2, rfl⟩)

set_option maxHeartbeats 4000000 in
set_option maxRecDepth 100000 in
theorem c_X6_current (l : Launch) (D : va_G) (G : sG) {M : sM} {L : sL} (c v : Int) (hcr : InR c) (hvr : InR v) (hT : TInv M) (hc : sCt M) : sKi l D G yX6_current cX6_current 4 .int 1 22 [.ref (G.1 (0)), .int (sI (c)), .int (sI (v))] M L (fun r M' L' => r = sI (rCur M c v) ∧ M' = mCur M c v ∧ TInv M' ∧ L = L') := by
  refine sKi_go (by decide) (Nat.le_of_ble_eq_true rfl) ?_
  intro zp ze zs zm za zb zt zc Q C hret
  refine at_eq (lv' := [(0, .ref (G.1 (0))), (1, .int (sI (c))), (2, .int (sI (v)))]) (st' := []) (M' := M) (L' := L) ?_ rfl rfl rfl rfl
  refine at_iload_n C 1 dX6_current_0 rfl ?_
  refine at_iconst C dX6_current_1 ?_
  refine at_bipush C dX6_current_2 (by decide) (by decide) ?_
  refine at_stat_i C (c_X6_within l D G c 0 11 ⟨by omega, by omega⟩ ⟨by omega, by omega⟩ ⟨by omega, by omega⟩) (As := [.int (sI (c)), .int (sI (0)), .int (sI (11))]) qw_307 qw_305 qw_1 qw_306 ⟨by decide, by decide, show (parseMethodDescriptor yX6_within.desc).map (fun d => d.parameters.length) = some 3 by decide +kernel⟩ ⟨by decide, by decide⟩ ⟨Nat.zero_le _, Nat.zero_le _⟩ (Nat.le_of_ble_eq_true rfl) dX6_current_4 rfl (fun r M' L' hp1 => ?_)
  obtain ⟨rfl, rfl, rfl⟩ := hp1
  refine at_if_eqB C 20 dX6_current_7 (by decide) (fun h2 => ?_) (fun h2 => ?_)
  · refine at_aload_n C 0 dX6_current_20 rfl ?_
    refine at_bipush C dX6_current_21 (by decide) (by decide) ?_
    refine at_call_i C (c_X6_refuseBad l D G (-10) hT ⟨by omega, by omega, by omega⟩) (As := [.int (sI (-10))]) (obj_Sho G) (ci := 6) rfl qw_311 qw_308 qw_1 qw_310 qp_0 ⟨by decide, by decide, show (parseMethodDescriptor yX6_refuseBad.desc).map (fun d => d.parameters.length) = some 1 by decide +kernel⟩ ⟨by decide, by decide⟩ ⟨Nat.zero_le _, Nat.zero_le _⟩ (Nat.le_of_ble_eq_true rfl) dX6_current_23 rfl (fun r M' L' hp4 => ?_)
    obtain ⟨rfl, rfl, hT3, rfl⟩ := hp4
    exact hret _ _ _ _ _ dX6_current_26 (⟨congrArg sI (if_neg (by first | omega | (simp only [Int.toNat_natCast]; omega))).symm, (if_neg (by first | omega | (simp only [Int.toNat_natCast]; omega))).symm, hT3, rfl⟩)
  · refine at_iload_n C 2 dX6_current_10 rfl ?_
    refine at_bipush C dX6_current_11 (by decide) (by decide) ?_
    refine at_iconst C dX6_current_13 ?_
    refine at_stat_i C (c_X6_within l D G v (-2) 2 ⟨by omega, by omega⟩ ⟨by omega, by omega⟩ ⟨by omega, by omega⟩) (As := [.int (sI (v)), .int (sI (-2)), .int (sI (2))]) qw_307 qw_305 qw_1 qw_306 ⟨by decide, by decide, show (parseMethodDescriptor yX6_within.desc).map (fun d => d.parameters.length) = some 3 by decide +kernel⟩ ⟨by decide, by decide⟩ ⟨Nat.zero_le _, Nat.zero_le _⟩ (Nat.le_of_ble_eq_true rfl) dX6_current_14 rfl (fun r M' L' hp5 => ?_)
    obtain ⟨rfl, rfl, rfl⟩ := hp5
    refine at_if_neB C 27 dX6_current_17 (by decide) (fun h6 => ?_) (fun h6 => ?_)
    · obtain ⟨cn, rfl⟩ : ∃ cn : Nat, c = (cn : Int) := ⟨c.toNat, by omega⟩
      refine at_aload_n C 0 dX6_current_27 rfl ?_
      refine at_getf (v := .ref (G.1 (1))) C (obj_Sho G) (ci := 6) rfl inX6 (slot := 0) (by decide) qw_249 rfl rfl dX6_current_28 ?_
      refine at_getf (v := .ref (G.1 (2))) C (obj_Bea G (Or.inl rfl)) (ci := 0) rfl inX0 (slot := 0) (by decide) qw_86 rfl rfl dX6_current_31 ?_
      refine at_iload_n C 1 dX6_current_34 rfl ?_
      refine at_iald C cn (arI_cur G (Or.inl rfl)) (rfl) (by omega) dX6_current_35 ?_
      have hb7 : _ ≤ M 2 cn ∧ M 2 cn ≤ _ := tv_cur hT (Or.inl rfl) cn
      refine at_istore_n C [(3, .int (sI (M 2 cn))), (0, .ref (G.1 (0))), (1, .int (sI ((cn : Int)))), (2, .int (sI (v)))] dX6_current_36 (by decide) rfl ?_
      refine at_aload_n C 1 dX6_current_37 rfl ?_
      refine at_getf (v := .ref (G.1 (1))) C (obj_Sho G) (ci := 6) rfl inX6 (slot := 0) (by decide) qw_249 rfl rfl dX6_current_38 ?_
      refine at_getf (v := .ref (G.1 (2))) C (obj_Bea G (Or.inl rfl)) (ci := 0) rfl inX0 (slot := 0) (by decide) qw_86 rfl rfl dX6_current_41 ?_
      refine at_iload_n C 2 dX6_current_44 rfl ?_
      refine at_iload_n C 3 dX6_current_45 rfl ?_
      refine at_iast C cn (arI_cur G (Or.inl rfl)) (rfl) (by omega) dX6_current_46 ?_
      have hT8 : TInv (sSt M 2 cn v) := tw_cur hT (Or.inl rfl) (⟨by omega, by omega⟩)
      refine at_aload_n C 1 dX6_current_47 rfl ?_
      refine at_getf (v := .ref (G.1 (1))) C (obj_Sho G) (ci := 6) rfl inX6 (slot := 0) (by decide) qw_249 rfl rfl dX6_current_48 ?_
      refine at_iconst C dX6_current_51 ?_
      refine at_putM (slot := 11) (ty := .int) C tyX0 (obj_Bea G (Or.inl rfl)) (ci := 0) rfl inX0 tyX0_ok nmX0 (by decide) qw_114 rfl rfl (by decide +kernel) rfl rfl (Nat.le_of_ble_eq_true rfl) rfl dX6_current_52 ?_
      have hT9 : TInv (sSt (sSt M 2 cn v) 1 11 0) := tw_undos hT8 (Or.inl rfl) (⟨by omega, by omega⟩)
      refine at_iload_n C 0 dX6_current_55 rfl ?_
      exact hret _ _ _ _ _ dX6_current_56 (⟨congrArg sI (if_pos (by first | omega | (simp only [Int.toNat_natCast]; omega))).symm, (if_pos (by first | omega | (simp only [Int.toNat_natCast]; omega))).symm, hT9, rfl⟩)
    · refine at_aload_n C 0 dX6_current_20 rfl ?_
      refine at_bipush C dX6_current_21 (by decide) (by decide) ?_
      refine at_call_i C (c_X6_refuseBad l D G (-10) hT ⟨by omega, by omega, by omega⟩) (As := [.int (sI (-10))]) (obj_Sho G) (ci := 6) rfl qw_311 qw_308 qw_1 qw_310 qp_0 ⟨by decide, by decide, show (parseMethodDescriptor yX6_refuseBad.desc).map (fun d => d.parameters.length) = some 1 by decide +kernel⟩ ⟨by decide, by decide⟩ ⟨Nat.zero_le _, Nat.zero_le _⟩ (Nat.le_of_ble_eq_true rfl) dX6_current_23 rfl (fun r M' L' hp11 => ?_)
      obtain ⟨rfl, rfl, hT10, rfl⟩ := hp11
      exact hret _ _ _ _ _ dX6_current_26 (⟨congrArg sI (if_neg (by first | omega | (simp only [Int.toNat_natCast]; omega))).symm, (if_neg (by first | omega | (simp only [Int.toNat_natCast]; omega))).symm, hT10, rfl⟩)

set_option maxHeartbeats 4000000 in
set_option maxRecDepth 100000 in
theorem c_X6_soul (l : Launch) (D : va_G) (G : sG) {M : sM} {L : sL} (k w c : Int) (hkr : InR k) (hwr : InR w) (hcr : InR c) (hT : TInv M) (hc : sCt M) : sKi l D G yX6_soul cX6_soul 4 .int 1 24 [.ref (G.1 (0)), .int (sI (k)), .int (sI (w)), .int (sI (c))] M L (fun r M' L' => r = sI (rSoul M k w c) ∧ M' = mSoul M k w c ∧ TInv M' ∧ L = L') := by
  refine sKi_go (by decide) (Nat.le_of_ble_eq_true rfl) ?_
  intro zp ze zs zm za zb zt zc Q C hret
  refine at_eq (lv' := [(0, .ref (G.1 (0))), (1, .int (sI (k))), (2, .int (sI (w))), (3, .int (sI (c)))]) (st' := []) (M' := M) (L' := L) ?_ rfl rfl rfl rfl
  refine at_iload_n C 1 dX6_soul_0 rfl ?_
  refine at_iconst C dX6_soul_1 ?_
  refine at_iconst C dX6_soul_2 ?_
  refine at_stat_i C (c_X6_within l D G k 0 5 ⟨by omega, by omega⟩ ⟨by omega, by omega⟩ ⟨by omega, by omega⟩) (As := [.int (sI (k)), .int (sI (0)), .int (sI (5))]) qw_307 qw_305 qw_1 qw_306 ⟨by decide, by decide, show (parseMethodDescriptor yX6_within.desc).map (fun d => d.parameters.length) = some 3 by decide +kernel⟩ ⟨by decide, by decide⟩ ⟨Nat.zero_le _, Nat.zero_le _⟩ (Nat.le_of_ble_eq_true rfl) dX6_soul_3 rfl (fun r M' L' hp1 => ?_)
  obtain ⟨rfl, rfl, rfl⟩ := hp1
  refine at_if_eqB C 29 dX6_soul_6 (by decide) (fun h2 => ?_) (fun h2 => ?_)
  · refine at_aload_n C 0 dX6_soul_29 rfl ?_
    refine at_bipush C dX6_soul_30 (by decide) (by decide) ?_
    refine at_call_i C (c_X6_refuseBad l D G (-2) hT ⟨by omega, by omega, by omega⟩) (As := [.int (sI (-2))]) (obj_Sho G) (ci := 6) rfl qw_311 qw_308 qw_1 qw_310 qp_0 ⟨by decide, by decide, show (parseMethodDescriptor yX6_refuseBad.desc).map (fun d => d.parameters.length) = some 1 by decide +kernel⟩ ⟨by decide, by decide⟩ ⟨Nat.zero_le _, Nat.zero_le _⟩ (Nat.le_of_ble_eq_true rfl) dX6_soul_32 rfl (fun r M' L' hp4 => ?_)
    obtain ⟨rfl, rfl, hT3, rfl⟩ := hp4
    exact hret _ _ _ _ _ dX6_soul_35 (⟨congrArg sI (if_neg (by first | omega | (simp only [Int.toNat_natCast]; omega))).symm, (if_neg (by first | omega | (simp only [Int.toNat_natCast]; omega))).symm, hT3, rfl⟩)
  · refine at_iload_n C 2 dX6_soul_9 rfl ?_
    refine at_iconst C dX6_soul_10 ?_
    refine at_bipush C dX6_soul_11 (by decide) (by decide) ?_
    refine at_stat_i C (c_X6_within l D G w 1 9 ⟨by omega, by omega⟩ ⟨by omega, by omega⟩ ⟨by omega, by omega⟩) (As := [.int (sI (w)), .int (sI (1)), .int (sI (9))]) qw_307 qw_305 qw_1 qw_306 ⟨by decide, by decide, show (parseMethodDescriptor yX6_within.desc).map (fun d => d.parameters.length) = some 3 by decide +kernel⟩ ⟨by decide, by decide⟩ ⟨Nat.zero_le _, Nat.zero_le _⟩ (Nat.le_of_ble_eq_true rfl) dX6_soul_13 rfl (fun r M' L' hp5 => ?_)
    obtain ⟨rfl, rfl, rfl⟩ := hp5
    refine at_if_eqB C 29 dX6_soul_16 (by decide) (fun h6 => ?_) (fun h6 => ?_)
    · refine at_aload_n C 0 dX6_soul_29 rfl ?_
      refine at_bipush C dX6_soul_30 (by decide) (by decide) ?_
      refine at_call_i C (c_X6_refuseBad l D G (-2) hT ⟨by omega, by omega, by omega⟩) (As := [.int (sI (-2))]) (obj_Sho G) (ci := 6) rfl qw_311 qw_308 qw_1 qw_310 qp_0 ⟨by decide, by decide, show (parseMethodDescriptor yX6_refuseBad.desc).map (fun d => d.parameters.length) = some 1 by decide +kernel⟩ ⟨by decide, by decide⟩ ⟨Nat.zero_le _, Nat.zero_le _⟩ (Nat.le_of_ble_eq_true rfl) dX6_soul_32 rfl (fun r M' L' hp8 => ?_)
      obtain ⟨rfl, rfl, hT7, rfl⟩ := hp8
      exact hret _ _ _ _ _ dX6_soul_35 (⟨congrArg sI (if_neg (by first | omega | (simp only [Int.toNat_natCast]; omega))).symm, (if_neg (by first | omega | (simp only [Int.toNat_natCast]; omega))).symm, hT7, rfl⟩)
    · refine at_iload_n C 3 dX6_soul_19 rfl ?_
      refine at_iconst C dX6_soul_20 ?_
      refine at_bipush C dX6_soul_21 (by decide) (by decide) ?_
      refine at_stat_i C (c_X6_within l D G c 0 11 ⟨by omega, by omega⟩ ⟨by omega, by omega⟩ ⟨by omega, by omega⟩) (As := [.int (sI (c)), .int (sI (0)), .int (sI (11))]) qw_307 qw_305 qw_1 qw_306 ⟨by decide, by decide, show (parseMethodDescriptor yX6_within.desc).map (fun d => d.parameters.length) = some 3 by decide +kernel⟩ ⟨by decide, by decide⟩ ⟨Nat.zero_le _, Nat.zero_le _⟩ (Nat.le_of_ble_eq_true rfl) dX6_soul_23 rfl (fun r M' L' hp9 => ?_)
      obtain ⟨rfl, rfl, rfl⟩ := hp9
      refine at_if_neB C 36 dX6_soul_26 (by decide) (fun h10 => ?_) (fun h10 => ?_)
      · refine at_aload_n C 0 dX6_soul_36 rfl ?_
        refine at_getf (v := .ref (G.1 (1))) C (obj_Sho G) (ci := 6) rfl inX6 (slot := 0) (by decide) qw_249 rfl rfl dX6_soul_37 ?_
        refine at_getf (v := .int (sI (M 1 9))) C (obj_Bea G (Or.inl rfl)) (ci := 0) rfl inX0 (slot := 9) (by decide) qw_104 rfl rfl dX6_soul_40 ?_
        have hb11 : _ ≤ M 1 9 ∧ M 1 9 ≤ _ := tv_souls hT (Or.inl rfl)
        refine at_bipush C dX6_soul_43 (by decide) (by decide) ?_
        refine at_icmp_lt C 53 dX6_soul_45 (by decide) (⟨by omega, by omega⟩) (⟨by omega, by omega⟩) (fun h12 => ?_) (fun h12 => ?_)
        · refine at_aload_n C 0 dX6_soul_53 rfl ?_
          refine at_getf (v := .ref (G.1 (1))) C (obj_Sho G) (ci := 6) rfl inX6 (slot := 0) (by decide) qw_249 rfl rfl dX6_soul_54 ?_
          refine at_iconst C dX6_soul_57 ?_
          refine at_putM (slot := 11) (ty := .int) C tyX0 (obj_Bea G (Or.inl rfl)) (ci := 0) rfl inX0 tyX0_ok nmX0 (by decide) qw_114 rfl rfl (by decide +kernel) rfl rfl (Nat.le_of_ble_eq_true rfl) rfl dX6_soul_58 ?_
          have hT13 : TInv (sSt M 1 11 0) := tw_undos hT (Or.inl rfl) (⟨by omega, by omega⟩)
          refine at_aload_n C 0 dX6_soul_61 rfl ?_
          refine at_getf (v := .ref (G.1 (1))) C (obj_Sho G) (ci := 6) rfl inX6 (slot := 0) (by decide) qw_249 rfl rfl dX6_soul_62 ?_
          refine at_iload_n C 1 dX6_soul_65 rfl ?_
          refine at_iload_n C 2 dX6_soul_66 rfl ?_
          refine at_iload_n C 3 dX6_soul_67 rfl ?_
          have hq : sSt M 1 11 0 1 9 = M 1 9 := by rw [sSt_nj (by decide)]
          refine at_call_i C (c_X0_addSoul l D G (Or.inl rfl) hT13 k w c ⟨by omega, by omega⟩ ⟨by omega, by omega⟩ ⟨by omega, by omega⟩ (by omega)) (As := [.int (sI (k)), .int (sI (w)), .int (sI (c))]) (obj_Bea G (Or.inl rfl)) (ci := 0) rfl qw_323 qw_320 qw_2 qw_321 qw_322 ⟨by decide, by decide, show (parseMethodDescriptor yX0_addSoul.desc).map (fun d => d.parameters.length) = some 3 by decide +kernel⟩ ⟨by decide, by decide⟩ ⟨Nat.zero_le _, Nat.zero_le _⟩ (Nat.le_of_ble_eq_true rfl) dX6_soul_68 rfl (fun r M' L' hp15 => ?_)
          obtain ⟨rfl, rfl, hT14, rfl⟩ := hp15
          refine at_ve (b := M 1 9) (hq) ?_
          exact hret _ _ _ _ _ dX6_soul_71 (⟨congrArg sI ((if_pos (by first | omega | (simp only [Int.toNat_natCast]; omega))).trans (if_pos (by first | omega | (simp only [Int.toNat_natCast]; omega)))).symm, ((if_pos (by first | omega | (simp only [Int.toNat_natCast]; omega))).trans (if_pos (by first | omega | (simp only [Int.toNat_natCast]; omega)))).symm, hT14, rfl⟩)
        · refine at_aload_n C 0 dX6_soul_48 rfl ?_
          refine at_call_i C (c_X6_refuseFull l D G hT ⟨by omega, by omega, by omega⟩) (As := []) (obj_Sho G) (ci := 6) rfl qw_319 qw_316 qw_1 qw_318 qp_1 ⟨by decide, by decide, show (parseMethodDescriptor yX6_refuseFull.desc).map (fun d => d.parameters.length) = some 0 by decide +kernel⟩ ⟨by decide, by decide⟩ ⟨Nat.zero_le _, Nat.zero_le _⟩ (Nat.le_of_ble_eq_true rfl) dX6_soul_49 rfl (fun r M' L' hp17 => ?_)
          obtain ⟨rfl, rfl, hT16, rfl⟩ := hp17
          exact hret _ _ _ _ _ dX6_soul_52 (⟨congrArg sI ((if_pos (by first | omega | (simp only [Int.toNat_natCast]; omega))).trans (if_neg (by first | omega | (simp only [Int.toNat_natCast]; omega)))).symm, ((if_pos (by first | omega | (simp only [Int.toNat_natCast]; omega))).trans (if_neg (by first | omega | (simp only [Int.toNat_natCast]; omega)))).symm, hT16, rfl⟩)
      · refine at_aload_n C 0 dX6_soul_29 rfl ?_
        refine at_bipush C dX6_soul_30 (by decide) (by decide) ?_
        refine at_call_i C (c_X6_refuseBad l D G (-2) hT ⟨by omega, by omega, by omega⟩) (As := [.int (sI (-2))]) (obj_Sho G) (ci := 6) rfl qw_311 qw_308 qw_1 qw_310 qp_0 ⟨by decide, by decide, show (parseMethodDescriptor yX6_refuseBad.desc).map (fun d => d.parameters.length) = some 1 by decide +kernel⟩ ⟨by decide, by decide⟩ ⟨Nat.zero_le _, Nat.zero_le _⟩ (Nat.le_of_ble_eq_true rfl) dX6_soul_32 rfl (fun r M' L' hp19 => ?_)
        obtain ⟨rfl, rfl, hT18, rfl⟩ := hp19
        exact hret _ _ _ _ _ dX6_soul_35 (⟨congrArg sI (if_neg (by first | omega | (simp only [Int.toNat_natCast]; omega))).symm, (if_neg (by first | omega | (simp only [Int.toNat_natCast]; omega))).symm, hT18, rfl⟩)

set_option maxHeartbeats 4000000 in
set_option maxRecDepth 100000 in
theorem c_X6_caller (l : Launch) (D : va_G) (G : sG) {M : sM} {L : sL} (k : Int) (hkr : InR k) (hT : TInv M) (hc : sCt M) : sKi l D G yX6_caller cX6_caller 2 .int 1 22 [.ref (G.1 (0)), .int (sI (k))] M L (fun r M' L' => r = sI (rCaller M k) ∧ M' = mCaller M k ∧ TInv M' ∧ L = L') := by
  refine sKi_go (by decide) (Nat.le_of_ble_eq_true rfl) ?_
  intro zp ze zs zm za zb zt zc Q C hret
  refine at_eq (lv' := [(0, .ref (G.1 (0))), (1, .int (sI (k)))]) (st' := []) (M' := M) (L' := L) ?_ rfl rfl rfl rfl
  refine at_iload_n C 1 dX6_caller_0 rfl ?_
  refine at_iconst C dX6_caller_1 ?_
  refine at_iconst C dX6_caller_2 ?_
  refine at_stat_i C (c_X6_within l D G k 0 5 ⟨by omega, by omega⟩ ⟨by omega, by omega⟩ ⟨by omega, by omega⟩) (As := [.int (sI (k)), .int (sI (0)), .int (sI (5))]) qw_307 qw_305 qw_1 qw_306 ⟨by decide, by decide, show (parseMethodDescriptor yX6_within.desc).map (fun d => d.parameters.length) = some 3 by decide +kernel⟩ ⟨by decide, by decide⟩ ⟨Nat.zero_le _, Nat.zero_le _⟩ (Nat.le_of_ble_eq_true rfl) dX6_caller_3 rfl (fun r M' L' hp1 => ?_)
  obtain ⟨rfl, rfl, rfl⟩ := hp1
  refine at_if_neB C 16 dX6_caller_6 (by decide) (fun h2 => ?_) (fun h2 => ?_)
  · refine at_aload_n C 0 dX6_caller_16 rfl ?_
    refine at_getf (v := .ref (G.1 (1))) C (obj_Sho G) (ci := 6) rfl inX6 (slot := 0) (by decide) qw_249 rfl rfl dX6_caller_17 ?_
    refine at_getf (v := .int (sI (M 1 10))) C (obj_Bea G (Or.inl rfl)) (ci := 0) rfl inX0 (slot := 10) (by decide) qw_111 rfl rfl dX6_caller_20 ?_
    have hb3 : _ ≤ M 1 10 ∧ M 1 10 ≤ _ := tv_callers hT (Or.inl rfl)
    refine at_bipush C dX6_caller_23 (by decide) (by decide) ?_
    refine at_icmp_lt C 33 dX6_caller_25 (by decide) (⟨by omega, by omega⟩) (⟨by omega, by omega⟩) (fun h4 => ?_) (fun h4 => ?_)
    · refine at_aload_n C 0 dX6_caller_33 rfl ?_
      refine at_getf (v := .ref (G.1 (1))) C (obj_Sho G) (ci := 6) rfl inX6 (slot := 0) (by decide) qw_249 rfl rfl dX6_caller_34 ?_
      refine at_iconst C dX6_caller_37 ?_
      refine at_putM (slot := 11) (ty := .int) C tyX0 (obj_Bea G (Or.inl rfl)) (ci := 0) rfl inX0 tyX0_ok nmX0 (by decide) qw_114 rfl rfl (by decide +kernel) rfl rfl (Nat.le_of_ble_eq_true rfl) rfl dX6_caller_38 ?_
      have hT5 : TInv (sSt M 1 11 0) := tw_undos hT (Or.inl rfl) (⟨by omega, by omega⟩)
      refine at_aload_n C 0 dX6_caller_41 rfl ?_
      refine at_getf (v := .ref (G.1 (1))) C (obj_Sho G) (ci := 6) rfl inX6 (slot := 0) (by decide) qw_249 rfl rfl dX6_caller_42 ?_
      refine at_iload_n C 1 dX6_caller_45 rfl ?_
      have hq : sSt M 1 11 0 1 10 = M 1 10 := by rw [sSt_nj (by decide)]
      refine at_call_i C (c_X0_addCaller l D G (Or.inl rfl) hT5 k ⟨by omega, by omega⟩ (by omega)) (As := [.int (sI (k))]) (obj_Bea G (Or.inl rfl)) (ci := 0) rfl qw_331 qw_328 qw_2 qw_329 qw_330 ⟨by decide, by decide, show (parseMethodDescriptor yX0_addCaller.desc).map (fun d => d.parameters.length) = some 1 by decide +kernel⟩ ⟨by decide, by decide⟩ ⟨Nat.zero_le _, Nat.zero_le _⟩ (Nat.le_of_ble_eq_true rfl) dX6_caller_46 rfl (fun r M' L' hp7 => ?_)
      obtain ⟨rfl, rfl, hT6, rfl⟩ := hp7
      refine at_ve (b := M 1 10) (hq) ?_
      exact hret _ _ _ _ _ dX6_caller_49 (⟨congrArg sI ((if_pos (by first | omega | (simp only [Int.toNat_natCast]; omega))).trans (if_pos (by first | omega | (simp only [Int.toNat_natCast]; omega)))).symm, ((if_pos (by first | omega | (simp only [Int.toNat_natCast]; omega))).trans (if_pos (by first | omega | (simp only [Int.toNat_natCast]; omega)))).symm, hT6, rfl⟩)
    · refine at_aload_n C 0 dX6_caller_28 rfl ?_
      refine at_call_i C (c_X6_refuseFull l D G hT ⟨by omega, by omega, by omega⟩) (As := []) (obj_Sho G) (ci := 6) rfl qw_319 qw_316 qw_1 qw_318 qp_1 ⟨by decide, by decide, show (parseMethodDescriptor yX6_refuseFull.desc).map (fun d => d.parameters.length) = some 0 by decide +kernel⟩ ⟨by decide, by decide⟩ ⟨Nat.zero_le _, Nat.zero_le _⟩ (Nat.le_of_ble_eq_true rfl) dX6_caller_29 rfl (fun r M' L' hp9 => ?_)
      obtain ⟨rfl, rfl, hT8, rfl⟩ := hp9
      exact hret _ _ _ _ _ dX6_caller_32 (⟨congrArg sI ((if_pos (by first | omega | (simp only [Int.toNat_natCast]; omega))).trans (if_neg (by first | omega | (simp only [Int.toNat_natCast]; omega)))).symm, ((if_pos (by first | omega | (simp only [Int.toNat_natCast]; omega))).trans (if_neg (by first | omega | (simp only [Int.toNat_natCast]; omega)))).symm, hT8, rfl⟩)
  · refine at_aload_n C 0 dX6_caller_9 rfl ?_
    refine at_bipush C dX6_caller_10 (by decide) (by decide) ?_
    refine at_call_i C (c_X6_refuseBad l D G (-2) hT ⟨by omega, by omega, by omega⟩) (As := [.int (sI (-2))]) (obj_Sho G) (ci := 6) rfl qw_311 qw_308 qw_1 qw_310 qp_0 ⟨by decide, by decide, show (parseMethodDescriptor yX6_refuseBad.desc).map (fun d => d.parameters.length) = some 1 by decide +kernel⟩ ⟨by decide, by decide⟩ ⟨Nat.zero_le _, Nat.zero_le _⟩ (Nat.le_of_ble_eq_true rfl) dX6_caller_12 rfl (fun r M' L' hp11 => ?_)
    obtain ⟨rfl, rfl, hT10, rfl⟩ := hp11
    exact hret _ _ _ _ _ dX6_caller_15 (⟨congrArg sI (if_neg (by first | omega | (simp only [Int.toNat_natCast]; omega))).symm, (if_neg (by first | omega | (simp only [Int.toNat_natCast]; omega))).symm, hT10, rfl⟩)

set_option maxHeartbeats 4000000 in
set_option maxRecDepth 100000 in
theorem c_X3_put (l : Launch) (D : va_G) (G : sG) {M : sM} {L : sL} (hT : TInv M) (b : Int) (hb : 0 ≤ b ∧ b ≤ 127) (hl : M 195 2 < 150) : sKi l D G yX3_put cX3_put 2 .int 0 0 [.ref (G.1 (195)), .int (sI (b))] M L (fun r M' L' => r = sI (M 195 2 + 1) ∧ M' = sSt (sSt M 196 (M 195 2).toNat b) 195 2 (M 195 2 + 1) ∧ TInv M' ∧ L = L') := by
  refine sKi_go (by decide) (Nat.le_of_ble_eq_true rfl) ?_
  intro zp ze zs zm za zb zt zc Q C hret
  refine at_eq (lv' := [(0, .ref (G.1 (195))), (1, .int (sI (b)))]) (st' := []) (M' := M) (L' := L) ?_ rfl rfl rfl rfl
  refine at_aload_n C 0 dX3_put_0 rfl ?_
  refine at_getf (v := .int (sI (M 195 2))) C (obj_Rea G) (ci := 3) rfl inX3 (slot := 2) (by decide) qw_152 rfl rfl dX3_put_1 ?_
  have hb1 : _ ≤ M 195 2 ∧ M 195 2 ≤ _ := tv hT (k := 195) (j := 2) rfl
  refine at_sipush C dX3_put_4 (by decide) (by decide) ?_
  refine at_icmp_ge C 31 dX3_put_7 (by decide) (⟨by omega, by omega⟩) (⟨by omega, by omega⟩) (fun h2 => absurd h2 (by omega)) (fun h2 => ?_)
  refine at_aload_n C 0 dX3_put_10 rfl ?_
  refine at_getf (v := .ref (G.1 (196))) C (obj_Rea G) (ci := 3) rfl inX3 (slot := 0) (by decide) qw_149 rfl rfl dX3_put_11 ?_
  refine at_aload_n C 0 dX3_put_14 rfl ?_
  refine at_getf (v := .int (sI (M 195 2))) C (obj_Rea G) (ci := 3) rfl inX3 (slot := 2) (by decide) qw_152 rfl rfl dX3_put_15 ?_
  have hb3 : _ ≤ M 195 2 ∧ M 195 2 ≤ _ := tv hT (k := 195) (j := 2) rfl
  refine at_iload_n C 1 dX3_put_18 rfl ?_
  refine at_i2b C dX3_put_19 (by omega) (by omega) ?_
  refine at_bast C ((M 195 2).toNat) (arB_text G) (by omega) (by omega) (by omega) (by omega) dX3_put_20 ?_
  have hT4 : TInv (sSt M 196 ((M 195 2).toNat) b) := tv_st hT (k := 196) rfl (⟨by omega, by omega⟩)
  refine at_aload_n C 0 dX3_put_21 rfl ?_
  refine at_dup C dX3_put_22 rfl ?_
  refine at_getf (v := .int (sI ((sSt M 196 ((M 195 2).toNat) b) 195 2))) C (obj_Rea G) (ci := 3) rfl inX3 (slot := 2) (by decide) qw_152 rfl rfl dX3_put_23 ?_
  have hb5 := tv hT4 (k := 195) (j := 2) rfl
  refine at_ve (b := M 195 2) (by rw [sSt_ne (by decide)]) ?_
  refine at_iconst C dX3_put_26 ?_
  refine at_iadd C dX3_put_27 ?_
  refine at_putM (slot := 2) (ty := .int) C tyX3 (obj_Rea G) (ci := 3) rfl inX3 tyX3_ok nmX3 (by decide) qw_152 rfl rfl (by decide +kernel) rfl rfl (Nat.le_of_ble_eq_true rfl) rfl dX3_put_28 ?_
  have hT6 : TInv (sSt (sSt M 196 ((M 195 2).toNat) b) 195 2 ((M 195 2) + 1)) := tv_st hT4 (k := 195) (j := 2) rfl (⟨by omega, by omega⟩)
  refine at_aload_n C 0 dX3_put_31 rfl ?_
  refine at_getf (v := .int (sI ((sSt (sSt M 196 ((M 195 2).toNat) b) 195 2 ((M 195 2) + 1)) 195 2))) C (obj_Rea G) (ci := 3) rfl inX3 (slot := 2) (by decide) qw_152 rfl rfl dX3_put_32 ?_
  have hb7 := tv hT6 (k := 195) (j := 2) rfl
  refine at_ve (b := M 195 2 + 1) (sSt_eq) ?_
  exact hret _ _ _ _ _ dX3_put_35 (⟨rfl, rfl, hT6, rfl⟩)

set_option maxHeartbeats 4000000 in
set_option maxRecDepth 100000 in
theorem c_X6_type (l : Launch) (D : va_G) (G : sG) {M : sM} {L : sL} (c : Int) (hcr : InR c) (hT : TInv M) (hc : sCt M) : sKi l D G yX6_type cX6_type 2 .int 1 22 [.ref (G.1 (0)), .int (sI (c))] M L (fun r M' L' => r = sI (rType M c) ∧ M' = mType M c ∧ TInv M' ∧ L = L') := by
  refine sKi_go (by decide) (Nat.le_of_ble_eq_true rfl) ?_
  intro zp ze zs zm za zb zt zc Q C hret
  refine at_eq (lv' := [(0, .ref (G.1 (0))), (1, .int (sI (c)))]) (st' := []) (M' := M) (L' := L) ?_ rfl rfl rfl rfl
  refine at_iload_n C 1 dX6_type_0 rfl ?_
  refine at_iconst C dX6_type_1 ?_
  refine at_bipush C dX6_type_2 (by decide) (by decide) ?_
  refine at_stat_i C (c_X6_within l D G c 0 127 ⟨by omega, by omega⟩ ⟨by omega, by omega⟩ ⟨by omega, by omega⟩) (As := [.int (sI (c)), .int (sI (0)), .int (sI (127))]) qw_307 qw_305 qw_1 qw_306 ⟨by decide, by decide, show (parseMethodDescriptor yX6_within.desc).map (fun d => d.parameters.length) = some 3 by decide +kernel⟩ ⟨by decide, by decide⟩ ⟨Nat.zero_le _, Nat.zero_le _⟩ (Nat.le_of_ble_eq_true rfl) dX6_type_4 rfl (fun r M' L' hp1 => ?_)
  obtain ⟨rfl, rfl, rfl⟩ := hp1
  refine at_if_neB C 17 dX6_type_7 (by decide) (fun h2 => ?_) (fun h2 => ?_)
  · refine at_aload_n C 0 dX6_type_17 rfl ?_
    refine at_getf (v := .ref (G.1 (195))) C (obj_Sho G) (ci := 6) rfl inX6 (slot := 4) (by decide) qw_253 rfl rfl dX6_type_18 ?_
    refine at_getf (v := .int (sI (M 195 2))) C (obj_Rea G) (ci := 3) rfl inX3 (slot := 2) (by decide) qw_153 rfl rfl dX6_type_21 ?_
    have hb3 : _ ≤ M 195 2 ∧ M 195 2 ≤ _ := tv hT (k := 195) (j := 2) rfl
    refine at_sipush C dX6_type_24 (by decide) (by decide) ?_
    refine at_icmp_lt C 35 dX6_type_27 (by decide) (⟨by omega, by omega⟩) (⟨by omega, by omega⟩) (fun h4 => ?_) (fun h4 => ?_)
    · refine at_aload_n C 0 dX6_type_35 rfl ?_
      refine at_getf (v := .ref (G.1 (195))) C (obj_Sho G) (ci := 6) rfl inX6 (slot := 4) (by decide) qw_253 rfl rfl dX6_type_36 ?_
      refine at_iload_n C 1 dX6_type_39 rfl ?_
      refine at_call_i C (c_X3_put l D G hT c ⟨by omega, by omega⟩ (by omega)) (As := [.int (sI (c))]) (obj_Rea G) (ci := 3) rfl qw_339 qw_336 qw_5 qw_337 qw_338 ⟨by decide, by decide, show (parseMethodDescriptor yX3_put.desc).map (fun d => d.parameters.length) = some 1 by decide +kernel⟩ ⟨by decide, by decide⟩ ⟨Nat.zero_le _, Nat.zero_le _⟩ (Nat.le_of_ble_eq_true rfl) dX6_type_40 rfl (fun r M' L' hp6 => ?_)
      obtain ⟨rfl, rfl, hT5, rfl⟩ := hp6
      exact hret _ _ _ _ _ dX6_type_43 (⟨congrArg sI ((if_pos (by first | omega | (simp only [Int.toNat_natCast]; omega))).trans (if_pos (by first | omega | (simp only [Int.toNat_natCast]; omega)))).symm, ((if_pos (by first | omega | (simp only [Int.toNat_natCast]; omega))).trans (if_pos (by first | omega | (simp only [Int.toNat_natCast]; omega)))).symm, hT5, rfl⟩)
    · refine at_aload_n C 0 dX6_type_30 rfl ?_
      refine at_call_i C (c_X6_refuseFull l D G hT ⟨by omega, by omega, by omega⟩) (As := []) (obj_Sho G) (ci := 6) rfl qw_319 qw_316 qw_1 qw_318 qp_1 ⟨by decide, by decide, show (parseMethodDescriptor yX6_refuseFull.desc).map (fun d => d.parameters.length) = some 0 by decide +kernel⟩ ⟨by decide, by decide⟩ ⟨Nat.zero_le _, Nat.zero_le _⟩ (Nat.le_of_ble_eq_true rfl) dX6_type_31 rfl (fun r M' L' hp8 => ?_)
      obtain ⟨rfl, rfl, hT7, rfl⟩ := hp8
      exact hret _ _ _ _ _ dX6_type_34 (⟨congrArg sI ((if_pos (by first | omega | (simp only [Int.toNat_natCast]; omega))).trans (if_neg (by first | omega | (simp only [Int.toNat_natCast]; omega)))).symm, ((if_pos (by first | omega | (simp only [Int.toNat_natCast]; omega))).trans (if_neg (by first | omega | (simp only [Int.toNat_natCast]; omega)))).symm, hT7, rfl⟩)
  · refine at_aload_n C 0 dX6_type_10 rfl ?_
    refine at_bipush C dX6_type_11 (by decide) (by decide) ?_
    refine at_call_i C (c_X6_refuseBad l D G (-2) hT ⟨by omega, by omega, by omega⟩) (As := [.int (sI (-2))]) (obj_Sho G) (ci := 6) rfl qw_311 qw_308 qw_1 qw_310 qp_0 ⟨by decide, by decide, show (parseMethodDescriptor yX6_refuseBad.desc).map (fun d => d.parameters.length) = some 1 by decide +kernel⟩ ⟨by decide, by decide⟩ ⟨Nat.zero_le _, Nat.zero_le _⟩ (Nat.le_of_ble_eq_true rfl) dX6_type_13 rfl (fun r M' L' hp10 => ?_)
    obtain ⟨rfl, rfl, hT9, rfl⟩ := hp10
    exact hret _ _ _ _ _ dX6_type_16 (⟨congrArg sI (if_neg (by first | omega | (simp only [Int.toNat_natCast]; omega))).symm, (if_neg (by first | omega | (simp only [Int.toNat_natCast]; omega))).symm, hT9, rfl⟩)

set_option maxHeartbeats 4000000 in
set_option maxRecDepth 100000 in
theorem c_X6_clear (l : Launch) (D : va_G) (G : sG) {M : sM} {L : sL} (hT : TInv M) (hc : sCt M) : sKi l D G yX6_clear cX6_clear 2 .int 0 0 [.ref (G.1 (0))] M L (fun r M' L' => r = sI (M 195 2) ∧ M' = sSt M 195 2 0 ∧ TInv M' ∧ L = L') := by
  refine sKi_go (by decide) (Nat.le_of_ble_eq_true rfl) ?_
  intro zp ze zs zm za zb zt zc Q C hret
  refine at_eq (lv' := [(0, .ref (G.1 (0)))]) (st' := []) (M' := M) (L' := L) ?_ rfl rfl rfl rfl
  refine at_aload_n C 0 dX6_clear_0 rfl ?_
  refine at_getf (v := .ref (G.1 (195))) C (obj_Sho G) (ci := 6) rfl inX6 (slot := 4) (by decide) qw_253 rfl rfl dX6_clear_1 ?_
  refine at_getf (v := .int (sI (M 195 2))) C (obj_Rea G) (ci := 3) rfl inX3 (slot := 2) (by decide) qw_153 rfl rfl dX6_clear_4 ?_
  have hb1 : _ ≤ M 195 2 ∧ M 195 2 ≤ _ := tv hT (k := 195) (j := 2) rfl
  refine at_istore_n C [(1, .int (sI (M 195 2))), (0, .ref (G.1 (0)))] dX6_clear_7 (by decide) rfl ?_
  refine at_aload_n C 1 dX6_clear_8 rfl ?_
  refine at_getf (v := .ref (G.1 (195))) C (obj_Sho G) (ci := 6) rfl inX6 (slot := 4) (by decide) qw_253 rfl rfl dX6_clear_9 ?_
  refine at_iconst C dX6_clear_12 ?_
  refine at_putM (slot := 2) (ty := .int) C tyX3 (obj_Rea G) (ci := 3) rfl inX3 tyX3_ok nmX3 (by decide) qw_153 rfl rfl (by decide +kernel) rfl rfl (Nat.le_of_ble_eq_true rfl) rfl dX6_clear_13 ?_
  have hT2 : TInv (sSt M 195 2 0) := tv_st hT (k := 195) (j := 2) rfl (⟨by omega, by omega⟩)
  refine at_iload_n C 0 dX6_clear_16 rfl ?_
  exact hret _ _ _ _ _ dX6_clear_17 (⟨rfl, rfl, hT2, rfl⟩)

set_option maxHeartbeats 4000000 in
set_option maxRecDepth 100000 in
theorem c_X6_tides (l : Launch) (D : va_G) (G : sG) {M : sM} {L : sL} (n : Int) (hnr : InR n) (hT : TInv M) (hc : sCt M) : sKi l D G yX6_tides cX6_tides 2 .int 4 88 [.ref (G.1 (0)), .int (sI (n))] M L (fun r M' L' => r = sI (rTides M n) ∧ M' = mTides M n ∧ TInv M' ∧ L = L') := by
  refine sKi_go (by decide) (Nat.le_of_ble_eq_true rfl) ?_
  intro zp ze zs zm za zb zt zc Q C hret
  refine at_eq (lv' := [(0, .ref (G.1 (0))), (1, .int (sI (n)))]) (st' := []) (M' := M) (L' := L) ?_ rfl rfl rfl rfl
  refine at_iload_n C 1 dX6_tides_0 rfl ?_
  refine at_iconst C dX6_tides_1 ?_
  refine at_bipush C dX6_tides_2 (by decide) (by decide) ?_
  refine at_stat_i C (c_X6_within l D G n 1 60 ⟨by omega, by omega⟩ ⟨by omega, by omega⟩ ⟨by omega, by omega⟩) (As := [.int (sI (n)), .int (sI (1)), .int (sI (60))]) qw_307 qw_305 qw_1 qw_306 ⟨by decide, by decide, show (parseMethodDescriptor yX6_within.desc).map (fun d => d.parameters.length) = some 3 by decide +kernel⟩ ⟨by decide, by decide⟩ ⟨Nat.zero_le _, Nat.zero_le _⟩ (Nat.le_of_ble_eq_true rfl) dX6_tides_4 rfl (fun r M' L' hp1 => ?_)
  obtain ⟨rfl, rfl, rfl⟩ := hp1
  refine at_if_neB C 17 dX6_tides_7 (by decide) (fun h2 => ?_) (fun h2 => ?_)
  · obtain ⟨nn, rfl⟩ : ∃ nn : Nat, n = (nn : Int) := ⟨n.toNat, by omega⟩
    refine at_aload_n C 0 dX6_tides_17 rfl ?_
    refine at_getf (v := .ref (G.1 (1))) C (obj_Sho G) (ci := 6) rfl inX6 (slot := 0) (by decide) qw_249 rfl rfl dX6_tides_18 ?_
    refine at_call_v C (c_X0_remember l D G (Or.inl rfl) hT) (As := []) (obj_Bea G (Or.inl rfl)) (ci := 0) rfl qw_556 qw_553 qw_2 qw_554 qw_555 ⟨by decide, by decide, show (parseMethodDescriptor yX0_remember.desc).map (fun d => d.parameters.length) = some 0 by decide +kernel⟩ ⟨by decide, by decide⟩ ⟨Nat.zero_le _, Nat.zero_le _⟩ (Nat.le_of_ble_eq_true rfl) dX6_tides_21 rfl (fun M' L' hp4 => ?_)
    obtain ⟨rfl, hT3, rfl⟩ := hp4
    refine at_aload_n C 0 dX6_tides_24 rfl ?_
    refine at_getf (v := .ref (G.1 (1))) C (obj_Sho G) (ci := 6) rfl inX6 (slot := 0) (by decide) qw_249 rfl rfl dX6_tides_25 ?_
    refine at_iload_n C 1 dX6_tides_28 rfl ?_
    refine at_call_v C (c_X0_passTides l D G (Or.inl rfl) hT3 nn (by omega)) (As := [.int (sI ((nn : Int)))]) (obj_Bea G (Or.inl rfl)) (ci := 0) rfl qw_473 qw_557 qw_2 qw_471 qw_472 ⟨by decide, by decide, show (parseMethodDescriptor yX0_passTides.desc).map (fun d => d.parameters.length) = some 1 by decide +kernel⟩ ⟨by decide, by decide⟩ ⟨Nat.zero_le _, Nat.zero_le _⟩ (Nat.le_of_ble_eq_true rfl) dX6_tides_29 rfl (fun M' L' hp6 => ?_)
    obtain ⟨rfl, hT5, rfl⟩ := hp6
    refine at_aload_n C 0 dX6_tides_32 rfl ?_
    refine at_getf (v := .ref (G.1 (1))) C (obj_Sho G) (ci := 6) rfl inX6 (slot := 0) (by decide) qw_249 rfl rfl dX6_tides_33 ?_
    refine at_call_i C (c_X0_adriftCount l D G (Or.inl rfl) hT5) (As := []) (obj_Bea G (Or.inl rfl)) (ci := 0) rfl qw_561 qw_558 qw_2 qw_559 qw_560 ⟨by decide, by decide, show (parseMethodDescriptor yX0_adriftCount.desc).map (fun d => d.parameters.length) = some 0 by decide +kernel⟩ ⟨by decide, by decide⟩ ⟨Nat.zero_le _, Nat.zero_le _⟩ (Nat.le_of_ble_eq_true rfl) dX6_tides_36 rfl (fun r M' L' hp7 => ?_)
    obtain ⟨rfl, rfl, rfl⟩ := hp7
    exact hret _ _ _ _ _ dX6_tides_39 (⟨congrArg sI (if_pos (by first | omega | (simp only [Int.toNat_natCast]; omega))).symm, (if_pos (by first | omega | (simp only [Int.toNat_natCast]; omega))).symm, hT5, rfl⟩)
  · refine at_aload_n C 0 dX6_tides_10 rfl ?_
    refine at_bipush C dX6_tides_11 (by decide) (by decide) ?_
    refine at_call_i C (c_X6_refuseBad l D G (-2) hT ⟨by omega, by omega, by omega⟩) (As := [.int (sI (-2))]) (obj_Sho G) (ci := 6) rfl qw_311 qw_308 qw_1 qw_310 qp_0 ⟨by decide, by decide, show (parseMethodDescriptor yX6_refuseBad.desc).map (fun d => d.parameters.length) = some 1 by decide +kernel⟩ ⟨by decide, by decide⟩ ⟨Nat.zero_le _, Nat.zero_le _⟩ (Nat.le_of_ble_eq_true rfl) dX6_tides_13 rfl (fun r M' L' hp9 => ?_)
    obtain ⟨rfl, rfl, hT8, rfl⟩ := hp9
    exact hret _ _ _ _ _ dX6_tides_16 (⟨congrArg sI (if_neg (by first | omega | (simp only [Int.toNat_natCast]; omega))).symm, (if_neg (by first | omega | (simp only [Int.toNat_natCast]; omega))).symm, hT8, rfl⟩)

set_option maxHeartbeats 4000000 in
set_option maxRecDepth 100000 in
theorem c_X6_walks (l : Launch) (D : va_G) (G : sG) {M : sM} {L : sL} (d : Int) (hdr : InR d) (hT : TInv M) (hc : sCt M) : sKi l D G yX6_walks cX6_walks 3 .int 3 82 [.ref (G.1 (0)), .int (sI (d))] M L (fun r M' L' => r = sI (rWalks M d) ∧ M' = mWalks M d ∧ TInv M' ∧ L = L') := by
  refine sKi_go (by decide) (Nat.le_of_ble_eq_true rfl) ?_
  intro zp ze zs zm za zb zt zc Q C hret
  refine at_eq (lv' := [(0, .ref (G.1 (0))), (1, .int (sI (d)))]) (st' := []) (M' := M) (L' := L) ?_ rfl rfl rfl rfl
  refine at_iload_n C 1 dX6_walks_0 rfl ?_
  refine at_iconst C dX6_walks_1 ?_
  refine at_iconst C dX6_walks_2 ?_
  refine at_stat_i C (c_X6_within l D G d (-1) 1 ⟨by omega, by omega⟩ ⟨by omega, by omega⟩ ⟨by omega, by omega⟩) (As := [.int (sI (d)), .int (sI (-1)), .int (sI (1))]) qw_307 qw_305 qw_1 qw_306 ⟨by decide, by decide, show (parseMethodDescriptor yX6_within.desc).map (fun d => d.parameters.length) = some 3 by decide +kernel⟩ ⟨by decide, by decide⟩ ⟨Nat.zero_le _, Nat.zero_le _⟩ (Nat.le_of_ble_eq_true rfl) dX6_walks_3 rfl (fun r M' L' hp1 => ?_)
  obtain ⟨rfl, rfl, rfl⟩ := hp1
  refine at_if_neB C 16 dX6_walks_6 (by decide) (fun h2 => ?_) (fun h2 => ?_)
  · refine at_aload_n C 0 dX6_walks_16 rfl ?_
    refine at_getf (v := .ref (G.1 (1))) C (obj_Sho G) (ci := 6) rfl inX6 (slot := 0) (by decide) qw_249 rfl rfl dX6_walks_17 ?_
    refine at_getf (v := .ref (G.1 (6))) C (obj_Bea G (Or.inl rfl)) (ci := 0) rfl inX0 (slot := 4) (by decide) qw_95 rfl rfl dX6_walks_20 ?_
    refine at_getf (v := .int (sI (M 6 4))) C ((isMo_now G (Or.inl rfl)).1) (ci := 1) rfl inX1 (slot := 4) (by decide) qw_51 rfl rfl dX6_walks_23 ?_
    have hb3 : _ ≤ M 6 4 ∧ M 6 4 ≤ _ := tv_tide hT (Or.inl rfl)
    refine at_sipush C dX6_walks_26 (by decide) (by decide) ?_
    refine at_icmp_lt C 37 dX6_walks_29 (by decide) (⟨by omega, by omega⟩) (⟨by omega, by omega⟩) (fun h4 => ?_) (fun h4 => ?_)
    · refine at_aload_n C 0 dX6_walks_37 rfl ?_
      refine at_getf (v := .ref (G.1 (1))) C (obj_Sho G) (ci := 6) rfl inX6 (slot := 0) (by decide) qw_249 rfl rfl dX6_walks_38 ?_
      refine at_call_v C (c_X0_remember l D G (Or.inl rfl) hT) (As := []) (obj_Bea G (Or.inl rfl)) (ci := 0) rfl qw_556 qw_553 qw_2 qw_554 qw_555 ⟨by decide, by decide, show (parseMethodDescriptor yX0_remember.desc).map (fun d => d.parameters.length) = some 0 by decide +kernel⟩ ⟨by decide, by decide⟩ ⟨Nat.zero_le _, Nat.zero_le _⟩ (Nat.le_of_ble_eq_true rfl) dX6_walks_41 rfl (fun M' L' hp6 => ?_)
      obtain ⟨rfl, hT5, rfl⟩ := hp6
      refine at_aload_n C 0 dX6_walks_44 rfl ?_
      refine at_getf (v := .ref (G.1 (1))) C (obj_Sho G) (ci := 6) rfl inX6 (slot := 0) (by decide) qw_249 rfl rfl dX6_walks_45 ?_
      refine at_iload_n C 1 dX6_walks_48 rfl ?_
      have htb : bRem M 1 6 4 = M 6 4 := bRem_ne (o := 1) (by decide) (by decide)
      refine at_call_i C (c_X0_gather l D G (Or.inl rfl) hT5 d ⟨by omega, by omega⟩) (As := [.int (sI (d))]) (obj_Bea G (Or.inl rfl)) (ci := 0) rfl qw_463 qw_570 qw_2 qw_461 qw_462 ⟨by decide, by decide, show (parseMethodDescriptor yX0_gather.desc).map (fun d => d.parameters.length) = some 1 by decide +kernel⟩ ⟨by decide, by decide⟩ ⟨Nat.zero_le _, Nat.zero_le _⟩ (Nat.le_of_ble_eq_true rfl) dX6_walks_49 rfl (fun r M' L' hp8 => ?_)
      obtain ⟨rfl, rfl, hT7, rfl⟩ := hp8
      refine at_istore_n C [(2, .int (sI (bGaC (bRem M 1) 1 d))), (0, .ref (G.1 (0))), (1, .int (sI (d)))] dX6_walks_52 (by decide) rfl ?_
      refine at_aload_n C 1 dX6_walks_53 rfl ?_
      refine at_getf (v := .ref (G.1 (1))) C (obj_Sho G) (ci := 6) rfl inX6 (slot := 0) (by decide) qw_249 rfl rfl dX6_walks_54 ?_
      have hgt : bGat (bRem M 1) 1 d 6 4 = M 6 4 := (bGat_tide (o := 1) _ _).trans htb
      refine at_call_v C (c_X0_flow l D G (Or.inl rfl) hT7 (by first | omega | (show (bGat (bRem M 1) 1 d) 6 4 < 2000; omega))) (As := []) (obj_Bea G (Or.inl rfl)) (ci := 0) rfl qw_477 qw_571 qw_2 qw_475 qw_476 ⟨by decide, by decide, show (parseMethodDescriptor yX0_flow.desc).map (fun d => d.parameters.length) = some 0 by decide +kernel⟩ ⟨by decide, by decide⟩ ⟨Nat.zero_le _, Nat.zero_le _⟩ (Nat.le_of_ble_eq_true rfl) dX6_walks_57 rfl (fun M' L' hp10 => ?_)
      obtain ⟨rfl, hT9, rfl⟩ := hp10
      refine at_iload_n C 0 dX6_walks_60 rfl ?_
      exact hret _ _ _ _ _ dX6_walks_61 (⟨congrArg sI ((if_pos (by first | omega | (simp only [Int.toNat_natCast]; omega))).trans (if_pos (by first | omega | (simp only [Int.toNat_natCast]; omega)))).symm, ((if_pos (by first | omega | (simp only [Int.toNat_natCast]; omega))).trans (if_pos (by first | omega | (simp only [Int.toNat_natCast]; omega)))).symm, hT9, rfl⟩)
    · refine at_aload_n C 0 dX6_walks_32 rfl ?_
      refine at_call_i C (c_X6_refuseNo l D G hT ⟨by omega, by omega, by omega⟩) (As := []) (obj_Sho G) (ci := 6) rfl qw_569 qw_566 qw_1 qw_568 qp_16 ⟨by decide, by decide, show (parseMethodDescriptor yX6_refuseNo.desc).map (fun d => d.parameters.length) = some 0 by decide +kernel⟩ ⟨by decide, by decide⟩ ⟨Nat.zero_le _, Nat.zero_le _⟩ (Nat.le_of_ble_eq_true rfl) dX6_walks_33 rfl (fun r M' L' hp12 => ?_)
      obtain ⟨rfl, rfl, hT11, rfl⟩ := hp12
      exact hret _ _ _ _ _ dX6_walks_36 (⟨congrArg sI ((if_pos (by first | omega | (simp only [Int.toNat_natCast]; omega))).trans (if_neg (by first | omega | (simp only [Int.toNat_natCast]; omega)))).symm, ((if_pos (by first | omega | (simp only [Int.toNat_natCast]; omega))).trans (if_neg (by first | omega | (simp only [Int.toNat_natCast]; omega)))).symm, hT11, rfl⟩)
  · refine at_aload_n C 0 dX6_walks_9 rfl ?_
    refine at_bipush C dX6_walks_10 (by decide) (by decide) ?_
    refine at_call_i C (c_X6_refuseBad l D G (-2) hT ⟨by omega, by omega, by omega⟩) (As := [.int (sI (-2))]) (obj_Sho G) (ci := 6) rfl qw_311 qw_308 qw_1 qw_310 qp_0 ⟨by decide, by decide, show (parseMethodDescriptor yX6_refuseBad.desc).map (fun d => d.parameters.length) = some 1 by decide +kernel⟩ ⟨by decide, by decide⟩ ⟨Nat.zero_le _, Nat.zero_le _⟩ (Nat.le_of_ble_eq_true rfl) dX6_walks_12 rfl (fun r M' L' hp14 => ?_)
    obtain ⟨rfl, rfl, hT13, rfl⟩ := hp14
    exact hret _ _ _ _ _ dX6_walks_15 (⟨congrArg sI (if_neg (by first | omega | (simp only [Int.toNat_natCast]; omega))).symm, (if_neg (by first | omega | (simp only [Int.toNat_natCast]; omega))).symm, hT13, rfl⟩)

set_option maxHeartbeats 4000000 in
set_option maxRecDepth 100000 in
theorem c_X6_calls (l : Launch) (D : va_G) (G : sG) {M : sM} {L : sL} (i : Int) (hir : InR i) (hT : TInv M) (hc : sCt M) : sKi l D G yX6_calls cX6_calls 3 .int 4 92 [.ref (G.1 (0)), .int (sI (i))] M L (fun r M' L' => r = sI (rCalls M i) ∧ M' = mCalls M i ∧ TInv M' ∧ L = L') := by
  refine sKi_go (by decide) (Nat.le_of_ble_eq_true rfl) ?_
  intro zp ze zs zm za zb zt zc Q C hret
  refine at_eq (lv' := [(0, .ref (G.1 (0))), (1, .int (sI (i)))]) (st' := []) (M' := M) (L' := L) ?_ rfl rfl rfl rfl
  refine at_aload_n C 0 dX6_calls_0 rfl ?_
  refine at_getf (v := .ref (G.1 (1))) C (obj_Sho G) (ci := 6) rfl inX6 (slot := 0) (by decide) qw_249 rfl rfl dX6_calls_1 ?_
  refine at_iload_n C 1 dX6_calls_4 rfl ?_
  refine at_call_i C (c_X0_hasCaller l D G (Or.inl rfl) hT i ⟨by omega, by omega⟩) (As := [.int (sI (i))]) (obj_Bea G (Or.inl rfl)) (ci := 0) rfl qw_579 qw_576 qw_2 qw_577 qw_578 ⟨by decide, by decide, show (parseMethodDescriptor yX0_hasCaller.desc).map (fun d => d.parameters.length) = some 1 by decide +kernel⟩ ⟨by decide, by decide⟩ ⟨Nat.zero_le _, Nat.zero_le _⟩ (Nat.le_of_ble_eq_true rfl) dX6_calls_5 rfl (fun r M' L' hp1 => ?_)
  obtain ⟨rfl, rfl, rfl⟩ := hp1
  refine at_if_neB C 18 dX6_calls_8 (by decide) (fun h2 => ?_) (fun h2 => ?_)
  · obtain ⟨n, rfl⟩ : ∃ n : Nat, i = (n : Int) := ⟨i.toNat, by omega⟩
    have hcc := tv_callers hT (Or.inl rfl)
    have hss := nS_r hT (Or.inl rfl)
    refine at_aload_n C 0 dX6_calls_18 rfl ?_
    refine at_getf (v := .ref (G.1 (1))) C (obj_Sho G) (ci := 6) rfl inX6 (slot := 0) (by decide) qw_249 rfl rfl dX6_calls_19 ?_
    refine at_iload_n C 1 dX6_calls_22 rfl ?_
    refine at_call_i C (c_X0_choice l D G (Or.inl rfl) hT n (by omega)) (As := [.int (sI ((n : Int)))]) (obj_Bea G (Or.inl rfl)) (ci := 0) rfl qw_497 qw_581 qw_2 qw_495 qw_496 ⟨by decide, by decide, show (parseMethodDescriptor yX0_choice.desc).map (fun d => d.parameters.length) = some 1 by decide +kernel⟩ ⟨by decide, by decide⟩ ⟨Nat.zero_le _, Nat.zero_le _⟩ (Nat.le_of_ble_eq_true rfl) dX6_calls_23 rfl (fun r M' L' hp4 => ?_)
    obtain ⟨rfl, rfl, rfl⟩ := hp4
    have hb3 := bCho_r hT (Or.inl rfl) n
    refine at_istore_n C [(2, .int (sI (bCho M 1 n))), (0, .ref (G.1 (0))), (1, .int (sI ((n : Int))))] dX6_calls_26 (by decide) rfl ?_
    refine at_iload_n C 0 dX6_calls_27 rfl ?_
    refine at_iconst C dX6_calls_28 ?_
    refine at_icmp_ne C 37 dX6_calls_29 (by decide) (⟨by omega, by omega⟩) (⟨by omega, by omega⟩) (fun h5 => ?_) (fun h5 => ?_)
    · refine at_aload_n C 1 dX6_calls_37 rfl ?_
      refine at_getf (v := .ref (G.1 (1))) C (obj_Sho G) (ci := 6) rfl inX6 (slot := 0) (by decide) qw_249 rfl rfl dX6_calls_38 ?_
      refine at_call_v C (c_X0_remember l D G (Or.inl rfl) hT) (As := []) (obj_Bea G (Or.inl rfl)) (ci := 0) rfl qw_556 qw_553 qw_2 qw_554 qw_555 ⟨by decide, by decide, show (parseMethodDescriptor yX0_remember.desc).map (fun d => d.parameters.length) = some 0 by decide +kernel⟩ ⟨by decide, by decide⟩ ⟨Nat.zero_le _, Nat.zero_le _⟩ (Nat.le_of_ble_eq_true rfl) dX6_calls_41 rfl (fun M' L' hp7 => ?_)
      obtain ⟨rfl, hT6, rfl⟩ := hp7
      refine at_aload_n C 1 dX6_calls_44 rfl ?_
      refine at_getf (v := .ref (G.1 (1))) C (obj_Sho G) (ci := 6) rfl inX6 (slot := 0) (by decide) qw_249 rfl rfl dX6_calls_45 ?_
      refine at_getf (v := .ref (G.1 (6))) C (obj_Bea G (Or.inl rfl)) (ci := 0) rfl inX0 (slot := 4) (by decide) qw_95 rfl rfl dX6_calls_48 ?_
      refine at_getf (v := .ref (G.1 (8))) C ((isMo_now G (Or.inl rfl)).1) (ci := 1) rfl inX1 (slot := 1) (by decide) qw_42 rfl rfl dX6_calls_51 ?_
      refine at_iload_n C 0 dX6_calls_54 rfl ?_
      refine at_iload_n C 2 dX6_calls_55 rfl ?_
      refine at_iast C ((bCho M 1 n).toNat) (arI_hold G (Or.inl rfl)) (by omega) (by omega) dX6_calls_56 ?_
      have hT8 : TInv (sSt (bRem M 1) 8 ((bCho M 1 n).toNat) (n : Int)) := tw_hold hT6 (Or.inl rfl) (⟨by omega, by omega⟩)
      refine at_iload_n C 0 dX6_calls_57 rfl ?_
      exact hret _ _ _ _ _ dX6_calls_58 (⟨congrArg sI ((if_pos (by first | omega | (simp only [Int.toNat_natCast]; omega))).trans (if_neg (by first | omega | (simp only [Int.toNat_natCast]; omega)))).symm, ((if_pos (by first | omega | (simp only [Int.toNat_natCast]; omega))).trans (if_neg (by first | omega | (simp only [Int.toNat_natCast]; omega)))).symm, hT8, rfl⟩)
    · refine at_aload_n C 1 dX6_calls_32 rfl ?_
      refine at_call_i C (c_X6_refuseNo l D G hT ⟨by omega, by omega, by omega⟩) (As := []) (obj_Sho G) (ci := 6) rfl qw_569 qw_566 qw_1 qw_568 qp_16 ⟨by decide, by decide, show (parseMethodDescriptor yX6_refuseNo.desc).map (fun d => d.parameters.length) = some 0 by decide +kernel⟩ ⟨by decide, by decide⟩ ⟨Nat.zero_le _, Nat.zero_le _⟩ (Nat.le_of_ble_eq_true rfl) dX6_calls_33 rfl (fun r M' L' hp10 => ?_)
      obtain ⟨rfl, rfl, hT9, rfl⟩ := hp10
      exact hret _ _ _ _ _ dX6_calls_36 (⟨congrArg sI ((if_pos (by first | omega | (simp only [Int.toNat_natCast]; omega))).trans (if_pos (by first | omega | (simp only [Int.toNat_natCast]; omega)))).symm, ((if_pos (by first | omega | (simp only [Int.toNat_natCast]; omega))).trans (if_pos (by first | omega | (simp only [Int.toNat_natCast]; omega)))).symm, hT9, rfl⟩)
  · refine at_aload_n C 0 dX6_calls_11 rfl ?_
    refine at_bipush C dX6_calls_12 (by decide) (by decide) ?_
    refine at_call_i C (c_X6_refuseBad l D G (-2) hT ⟨by omega, by omega, by omega⟩) (As := [.int (sI (-2))]) (obj_Sho G) (ci := 6) rfl qw_311 qw_308 qw_1 qw_310 qp_0 ⟨by decide, by decide, show (parseMethodDescriptor yX6_refuseBad.desc).map (fun d => d.parameters.length) = some 1 by decide +kernel⟩ ⟨by decide, by decide⟩ ⟨Nat.zero_le _, Nat.zero_le _⟩ (Nat.le_of_ble_eq_true rfl) dX6_calls_14 rfl (fun r M' L' hp12 => ?_)
    obtain ⟨rfl, rfl, hT11, rfl⟩ := hp12
    exact hret _ _ _ _ _ dX6_calls_17 (⟨congrArg sI (if_neg (by first | omega | (simp only [Int.toNat_natCast]; omega))).symm, (if_neg (by first | omega | (simp only [Int.toNat_natCast]; omega))).symm, hT11, rfl⟩)

set_option maxHeartbeats 4000000 in
set_option maxRecDepth 100000 in
theorem c_X6_returns (l : Launch) (D : va_G) (G : sG) {M : sM} {L : sL} (i : Int) (hir : InR i) (hT : TInv M) (hc : sCt M) : sKi l D G yX6_returns cX6_returns 3 .int 3 82 [.ref (G.1 (0)), .int (sI (i))] M L (fun r M' L' => r = sI (rReturns M i) ∧ M' = mReturns M i ∧ TInv M' ∧ L = L') := by
  refine sKi_go (by decide) (Nat.le_of_ble_eq_true rfl) ?_
  intro zp ze zs zm za zb zt zc Q C hret
  refine at_eq (lv' := [(0, .ref (G.1 (0))), (1, .int (sI (i)))]) (st' := []) (M' := M) (L' := L) ?_ rfl rfl rfl rfl
  refine at_aload_n C 0 dX6_returns_0 rfl ?_
  refine at_getf (v := .ref (G.1 (1))) C (obj_Sho G) (ci := 6) rfl inX6 (slot := 0) (by decide) qw_249 rfl rfl dX6_returns_1 ?_
  refine at_iload_n C 1 dX6_returns_4 rfl ?_
  refine at_call_i C (c_X0_hasCaller l D G (Or.inl rfl) hT i ⟨by omega, by omega⟩) (As := [.int (sI (i))]) (obj_Bea G (Or.inl rfl)) (ci := 0) rfl qw_579 qw_576 qw_2 qw_577 qw_578 ⟨by decide, by decide, show (parseMethodDescriptor yX0_hasCaller.desc).map (fun d => d.parameters.length) = some 1 by decide +kernel⟩ ⟨by decide, by decide⟩ ⟨Nat.zero_le _, Nat.zero_le _⟩ (Nat.le_of_ble_eq_true rfl) dX6_returns_5 rfl (fun r M' L' hp1 => ?_)
  obtain ⟨rfl, rfl, rfl⟩ := hp1
  refine at_if_neB C 18 dX6_returns_8 (by decide) (fun h2 => ?_) (fun h2 => ?_)
  · obtain ⟨n, rfl⟩ : ∃ n : Nat, i = (n : Int) := ⟨i.toNat, by omega⟩
    have hcc := tv_callers hT (Or.inl rfl)
    have hss := nS_r hT (Or.inl rfl)
    have hhr : -1 ≤ bHeld M 1 n ∧ bHeld M 1 n < nS M 1 := fst_r _ _
    refine at_aload_n C 0 dX6_returns_18 rfl ?_
    refine at_getf (v := .ref (G.1 (1))) C (obj_Sho G) (ci := 6) rfl inX6 (slot := 0) (by decide) qw_249 rfl rfl dX6_returns_19 ?_
    refine at_iload_n C 1 dX6_returns_22 rfl ?_
    refine at_call_i C (c_X0_heldBy l D G (Or.inl rfl) hT n (by omega)) (As := [.int (sI ((n : Int)))]) (obj_Bea G (Or.inl rfl)) (ci := 0) rfl qw_501 qw_586 qw_2 qw_499 qw_500 ⟨by decide, by decide, show (parseMethodDescriptor yX0_heldBy.desc).map (fun d => d.parameters.length) = some 1 by decide +kernel⟩ ⟨by decide, by decide⟩ ⟨Nat.zero_le _, Nat.zero_le _⟩ (Nat.le_of_ble_eq_true rfl) dX6_returns_23 rfl (fun r M' L' hp4 => ?_)
    obtain ⟨rfl, rfl, rfl⟩ := hp4
    have hb3 := fst_r (fun s => M (1 + 7) s = n) (nS M 1)
    refine at_istore_n C [(2, .int (sI (bHeld M 1 n))), (0, .ref (G.1 (0))), (1, .int (sI ((n : Int))))] dX6_returns_26 (by decide) rfl ?_
    refine at_iload_n C 0 dX6_returns_27 rfl ?_
    refine at_iconst C dX6_returns_28 ?_
    refine at_icmp_ne C 37 dX6_returns_29 (by decide) (⟨by omega, by omega⟩) (⟨by omega, by omega⟩) (fun h5 => ?_) (fun h5 => ?_)
    · refine at_aload_n C 1 dX6_returns_37 rfl ?_
      refine at_getf (v := .ref (G.1 (1))) C (obj_Sho G) (ci := 6) rfl inX6 (slot := 0) (by decide) qw_249 rfl rfl dX6_returns_38 ?_
      refine at_call_v C (c_X0_remember l D G (Or.inl rfl) hT) (As := []) (obj_Bea G (Or.inl rfl)) (ci := 0) rfl qw_556 qw_553 qw_2 qw_554 qw_555 ⟨by decide, by decide, show (parseMethodDescriptor yX0_remember.desc).map (fun d => d.parameters.length) = some 0 by decide +kernel⟩ ⟨by decide, by decide⟩ ⟨Nat.zero_le _, Nat.zero_le _⟩ (Nat.le_of_ble_eq_true rfl) dX6_returns_41 rfl (fun M' L' hp7 => ?_)
      obtain ⟨rfl, hT6, rfl⟩ := hp7
      refine at_aload_n C 1 dX6_returns_44 rfl ?_
      refine at_getf (v := .ref (G.1 (1))) C (obj_Sho G) (ci := 6) rfl inX6 (slot := 0) (by decide) qw_249 rfl rfl dX6_returns_45 ?_
      refine at_getf (v := .ref (G.1 (6))) C (obj_Bea G (Or.inl rfl)) (ci := 0) rfl inX0 (slot := 4) (by decide) qw_95 rfl rfl dX6_returns_48 ?_
      refine at_getf (v := .ref (G.1 (8))) C ((isMo_now G (Or.inl rfl)).1) (ci := 1) rfl inX1 (slot := 1) (by decide) qw_42 rfl rfl dX6_returns_51 ?_
      refine at_iload_n C 0 dX6_returns_54 rfl ?_
      refine at_iconst C dX6_returns_55 ?_
      refine at_iast C ((bHeld M 1 n).toNat) (arI_hold G (Or.inl rfl)) (by omega) (by omega) dX6_returns_56 ?_
      have hT8 : TInv (sSt (bRem M 1) 8 ((bHeld M 1 n).toNat) (-1)) := tw_hold hT6 (Or.inl rfl) (⟨by omega, by omega⟩)
      refine at_iload_n C 0 dX6_returns_57 rfl ?_
      exact hret _ _ _ _ _ dX6_returns_58 (⟨congrArg sI ((if_pos (by first | omega | (simp only [Int.toNat_natCast]; omega))).trans (if_neg (by first | omega | (simp only [Int.toNat_natCast]; omega)))).symm, ((if_pos (by first | omega | (simp only [Int.toNat_natCast]; omega))).trans (if_neg (by first | omega | (simp only [Int.toNat_natCast]; omega)))).symm, hT8, rfl⟩)
    · refine at_aload_n C 1 dX6_returns_32 rfl ?_
      refine at_call_i C (c_X6_refuseNo l D G hT ⟨by omega, by omega, by omega⟩) (As := []) (obj_Sho G) (ci := 6) rfl qw_569 qw_566 qw_1 qw_568 qp_16 ⟨by decide, by decide, show (parseMethodDescriptor yX6_refuseNo.desc).map (fun d => d.parameters.length) = some 0 by decide +kernel⟩ ⟨by decide, by decide⟩ ⟨Nat.zero_le _, Nat.zero_le _⟩ (Nat.le_of_ble_eq_true rfl) dX6_returns_33 rfl (fun r M' L' hp10 => ?_)
      obtain ⟨rfl, rfl, hT9, rfl⟩ := hp10
      exact hret _ _ _ _ _ dX6_returns_36 (⟨congrArg sI ((if_pos (by first | omega | (simp only [Int.toNat_natCast]; omega))).trans (if_pos (by first | omega | (simp only [Int.toNat_natCast]; omega)))).symm, ((if_pos (by first | omega | (simp only [Int.toNat_natCast]; omega))).trans (if_pos (by first | omega | (simp only [Int.toNat_natCast]; omega)))).symm, hT9, rfl⟩)
  · refine at_aload_n C 0 dX6_returns_11 rfl ?_
    refine at_bipush C dX6_returns_12 (by decide) (by decide) ?_
    refine at_call_i C (c_X6_refuseBad l D G (-2) hT ⟨by omega, by omega, by omega⟩) (As := [.int (sI (-2))]) (obj_Sho G) (ci := 6) rfl qw_311 qw_308 qw_1 qw_310 qp_0 ⟨by decide, by decide, show (parseMethodDescriptor yX6_refuseBad.desc).map (fun d => d.parameters.length) = some 1 by decide +kernel⟩ ⟨by decide, by decide⟩ ⟨Nat.zero_le _, Nat.zero_le _⟩ (Nat.le_of_ble_eq_true rfl) dX6_returns_14 rfl (fun r M' L' hp12 => ?_)
    obtain ⟨rfl, rfl, hT11, rfl⟩ := hp12
    exact hret _ _ _ _ _ dX6_returns_17 (⟨congrArg sI (if_neg (by first | omega | (simp only [Int.toNat_natCast]; omega))).symm, (if_neg (by first | omega | (simp only [Int.toNat_natCast]; omega))).symm, hT11, rfl⟩)

set_option maxHeartbeats 4000000 in
set_option maxRecDepth 100000 in
theorem c_X6_undo (l : Launch) (D : va_G) (G : sG) {M : sM} {L : sL} (hT : TInv M) (hc : sCt M) : sKi l D G yX6_undo cX6_undo 1 .int 3 81 [.ref (G.1 (0))] M L (fun r M' L' => r = sI (rUndo M) ∧ M' = mUndo M ∧ TInv M' ∧ L = L') := by
  refine sKi_go (by decide) (Nat.le_of_ble_eq_true rfl) ?_
  intro zp ze zs zm za zb zt zc Q C hret
  refine at_eq (lv' := [(0, .ref (G.1 (0)))]) (st' := []) (M' := M) (L' := L) ?_ rfl rfl rfl rfl
  refine at_aload_n C 0 dX6_undo_0 rfl ?_
  refine at_getf (v := .ref (G.1 (1))) C (obj_Sho G) (ci := 6) rfl inX6 (slot := 0) (by decide) qw_249 rfl rfl dX6_undo_1 ?_
  refine at_getf (v := .int (sI (M 1 11))) C (obj_Bea G (Or.inl rfl)) (ci := 0) rfl inX0 (slot := 11) (by decide) qw_114 rfl rfl dX6_undo_4 ?_
  have hb1 : _ ≤ M 1 11 ∧ M 1 11 ≤ _ := tv_undos hT (Or.inl rfl)
  refine at_if_gt C 15 dX6_undo_7 (by decide) (⟨by omega, by omega⟩) (fun h2 => ?_) (fun h2 => ?_)
  · refine at_aload_n C 0 dX6_undo_15 rfl ?_
    refine at_getf (v := .ref (G.1 (1))) C (obj_Sho G) (ci := 6) rfl inX6 (slot := 0) (by decide) qw_249 rfl rfl dX6_undo_16 ?_
    refine at_call_v C (c_X0_stepBack l D G (Or.inl rfl) hT (by omega)) (As := []) (obj_Bea G (Or.inl rfl)) (ci := 0) rfl qw_594 qw_591 qw_2 qw_592 qw_593 ⟨by decide, by decide, show (parseMethodDescriptor yX0_stepBack.desc).map (fun d => d.parameters.length) = some 0 by decide +kernel⟩ ⟨by decide, by decide⟩ ⟨Nat.zero_le _, Nat.zero_le _⟩ (Nat.le_of_ble_eq_true rfl) dX6_undo_19 rfl (fun M' L' hp4 => ?_)
    obtain ⟨rfl, hT3, rfl⟩ := hp4
    refine at_aload_n C 0 dX6_undo_22 rfl ?_
    refine at_getf (v := .ref (G.1 (1))) C (obj_Sho G) (ci := 6) rfl inX6 (slot := 0) (by decide) qw_249 rfl rfl dX6_undo_23 ?_
    refine at_getf (v := .ref (G.1 (6))) C (obj_Bea G (Or.inl rfl)) (ci := 0) rfl inX0 (slot := 4) (by decide) qw_95 rfl rfl dX6_undo_26 ?_
    refine at_getf (v := .int (sI ((bUnd M 1) 6 4))) C ((isMo_now G (Or.inl rfl)).1) (ci := 1) rfl inX1 (slot := 4) (by decide) qw_51 rfl rfl dX6_undo_29 ?_
    have hb5 := tv_tide hT3 (Or.inl rfl)
    exact hret _ _ _ _ _ dX6_undo_32 (⟨congrArg sI (if_pos (by first | omega | (simp only [Int.toNat_natCast]; omega))).symm, (if_pos (by first | omega | (simp only [Int.toNat_natCast]; omega))).symm, hT3, rfl⟩)
  · refine at_aload_n C 0 dX6_undo_10 rfl ?_
    refine at_call_i C (c_X6_refuseNo l D G hT ⟨by omega, by omega, by omega⟩) (As := []) (obj_Sho G) (ci := 6) rfl qw_569 qw_566 qw_1 qw_568 qp_16 ⟨by decide, by decide, show (parseMethodDescriptor yX6_refuseNo.desc).map (fun d => d.parameters.length) = some 0 by decide +kernel⟩ ⟨by decide, by decide⟩ ⟨Nat.zero_le _, Nat.zero_le _⟩ (Nat.le_of_ble_eq_true rfl) dX6_undo_11 rfl (fun r M' L' hp7 => ?_)
    obtain ⟨rfl, rfl, hT6, rfl⟩ := hp7
    exact hret _ _ _ _ _ dX6_undo_14 (⟨congrArg sI (if_neg (by first | omega | (simp only [Int.toNat_natCast]; omega))).symm, (if_neg (by first | omega | (simp only [Int.toNat_natCast]; omega))).symm, hT6, rfl⟩)

set_option maxHeartbeats 4000000 in
set_option maxRecDepth 100000 in
theorem c_X6_of (l : Launch) (D : va_G) (G : sG) {M : sM} {L : sL} (s w : Int) (hsr : InR s) (hwr : InR w) (hT : TInv M) (hc : sCt M) : sKi l D G yX6_of cX6_of 3 .int 3 67 [.ref (G.1 (0)), .int (sI (s)), .int (sI (w))] M L (fun r M' L' => r = sI (rOf M s w) ∧ M' = mB M (isSou M s ∧ (0 ≤ w ∧ w ≤ 5)) ∧ TInv M' ∧ L = L') := by
  refine sKi_go (by decide) (Nat.le_of_ble_eq_true rfl) ?_
  intro zp ze zs zm za zb zt zc Q C hret
  refine at_eq (lv' := [(0, .ref (G.1 (0))), (1, .int (sI (s))), (2, .int (sI (w)))]) (st' := []) (M' := M) (L' := L) ?_ rfl rfl rfl rfl
  refine at_aload_n C 0 dX6_of_0 rfl ?_
  refine at_getf (v := .ref (G.1 (1))) C (obj_Sho G) (ci := 6) rfl inX6 (slot := 0) (by decide) qw_249 rfl rfl dX6_of_1 ?_
  refine at_iload_n C 1 dX6_of_4 rfl ?_
  refine at_call_i C (c_X0_hasSoul l D G (Or.inl rfl) hT s ⟨by omega, by omega⟩) (As := [.int (sI (s))]) (obj_Bea G (Or.inl rfl)) (ci := 0) rfl qw_602 qw_599 qw_2 qw_600 qw_601 ⟨by decide, by decide, show (parseMethodDescriptor yX0_hasSoul.desc).map (fun d => d.parameters.length) = some 1 by decide +kernel⟩ ⟨by decide, by decide⟩ ⟨Nat.zero_le _, Nat.zero_le _⟩ (Nat.le_of_ble_eq_true rfl) dX6_of_5 rfl (fun r M' L' hp1 => ?_)
  obtain ⟨rfl, rfl, rfl⟩ := hp1
  refine at_if_eqB C 20 dX6_of_8 (by decide) (fun h2 => ?_) (fun h2 => ?_)
  · refine at_aload_n C 0 dX6_of_20 rfl ?_
    refine at_bipush C dX6_of_21 (by decide) (by decide) ?_
    refine at_call_i C (c_X6_refuseBad l D G (-2) hT ⟨by omega, by omega, by omega⟩) (As := [.int (sI (-2))]) (obj_Sho G) (ci := 6) rfl qw_311 qw_308 qw_1 qw_310 qp_0 ⟨by decide, by decide, show (parseMethodDescriptor yX6_refuseBad.desc).map (fun d => d.parameters.length) = some 1 by decide +kernel⟩ ⟨by decide, by decide⟩ ⟨Nat.zero_le _, Nat.zero_le _⟩ (Nat.le_of_ble_eq_true rfl) dX6_of_23 rfl (fun r M' L' hp4 => ?_)
    obtain ⟨rfl, rfl, hT3, rfl⟩ := hp4
    exact hret _ _ _ _ _ dX6_of_26 (⟨congrArg sI (if_neg (by first | omega | (simp only [Int.toNat_natCast]; omega))).symm, (if_neg (by omega)).symm, hT3, rfl⟩)
  · refine at_iload_n C 2 dX6_of_11 rfl ?_
    refine at_iconst C dX6_of_12 ?_
    refine at_iconst C dX6_of_13 ?_
    refine at_stat_i C (c_X6_within l D G w 0 5 ⟨by omega, by omega⟩ ⟨by omega, by omega⟩ ⟨by omega, by omega⟩) (As := [.int (sI (w)), .int (sI (0)), .int (sI (5))]) qw_307 qw_305 qw_1 qw_306 ⟨by decide, by decide, show (parseMethodDescriptor yX6_within.desc).map (fun d => d.parameters.length) = some 3 by decide +kernel⟩ ⟨by decide, by decide⟩ ⟨Nat.zero_le _, Nat.zero_le _⟩ (Nat.le_of_ble_eq_true rfl) dX6_of_14 rfl (fun r M' L' hp5 => ?_)
    obtain ⟨rfl, rfl, rfl⟩ := hp5
    refine at_if_neB C 27 dX6_of_17 (by decide) (fun h6 => ?_) (fun h6 => ?_)
    · obtain ⟨n, rfl⟩ : ∃ n : Nat, s = (n : Int) := ⟨s.toNat, by omega⟩
      have hcc := tv_callers hT (Or.inl rfl)
      have hss := tv_souls hT (Or.inl rfl)
      refine at_aload_n C 0 dX6_of_27 rfl ?_
      refine at_getf (v := .ref (G.1 (1))) C (obj_Sho G) (ci := 6) rfl inX6 (slot := 0) (by decide) qw_249 rfl rfl dX6_of_28 ?_
      refine at_iload_n C 1 dX6_of_31 rfl ?_
      refine at_iload_n C 2 dX6_of_32 rfl ?_
      refine at_call_i C (c_X0_soulFact l D G (Or.inl rfl) hT n (by omega) w ⟨by omega, by omega⟩) (As := [.int (sI ((n : Int))), .int (sI (w))]) (obj_Bea G (Or.inl rfl)) (ci := 0) rfl qw_606 qw_603 qw_2 qw_604 qw_605 ⟨by decide, by decide, show (parseMethodDescriptor yX0_soulFact.desc).map (fun d => d.parameters.length) = some 2 by decide +kernel⟩ ⟨by decide, by decide⟩ ⟨Nat.zero_le _, Nat.zero_le _⟩ (Nat.le_of_ble_eq_true rfl) dX6_of_33 rfl (fun r M' L' hp7 => ?_)
      obtain ⟨rfl, rfl, rfl⟩ := hp7
      exact hret _ _ _ _ _ dX6_of_36 (⟨congrArg sI (if_pos (by first | omega | (simp only [Int.toNat_natCast]; omega))).symm, (if_pos (by omega)).symm, hT, rfl⟩)
    · refine at_aload_n C 0 dX6_of_20 rfl ?_
      refine at_bipush C dX6_of_21 (by decide) (by decide) ?_
      refine at_call_i C (c_X6_refuseBad l D G (-2) hT ⟨by omega, by omega, by omega⟩) (As := [.int (sI (-2))]) (obj_Sho G) (ci := 6) rfl qw_311 qw_308 qw_1 qw_310 qp_0 ⟨by decide, by decide, show (parseMethodDescriptor yX6_refuseBad.desc).map (fun d => d.parameters.length) = some 1 by decide +kernel⟩ ⟨by decide, by decide⟩ ⟨Nat.zero_le _, Nat.zero_le _⟩ (Nat.le_of_ble_eq_true rfl) dX6_of_23 rfl (fun r M' L' hp9 => ?_)
      obtain ⟨rfl, rfl, hT8, rfl⟩ := hp9
      exact hret _ _ _ _ _ dX6_of_26 (⟨congrArg sI (if_neg (by first | omega | (simp only [Int.toNat_natCast]; omega))).symm, (if_neg (by omega)).symm, hT8, rfl⟩)

set_option maxHeartbeats 4000000 in
set_option maxRecDepth 100000 in
theorem c_X6_about (l : Launch) (D : va_G) (G : sG) {M : sM} {L : sL} (i w : Int) (hir : InR i) (hwr : InR w) (hT : TInv M) (hc : sCt M) : sKi l D G yX6_about cX6_about 3 .int 4 92 [.ref (G.1 (0)), .int (sI (i)), .int (sI (w))] M L (fun r M' L' => r = sI (rAbout M i w) ∧ M' = mB M (isCal M i ∧ (0 ≤ w ∧ w ≤ 3)) ∧ TInv M' ∧ L = L') := by
  refine sKi_go (by decide) (Nat.le_of_ble_eq_true rfl) ?_
  intro zp ze zs zm za zb zt zc Q C hret
  refine at_eq (lv' := [(0, .ref (G.1 (0))), (1, .int (sI (i))), (2, .int (sI (w)))]) (st' := []) (M' := M) (L' := L) ?_ rfl rfl rfl rfl
  refine at_aload_n C 0 dX6_about_0 rfl ?_
  refine at_getf (v := .ref (G.1 (1))) C (obj_Sho G) (ci := 6) rfl inX6 (slot := 0) (by decide) qw_249 rfl rfl dX6_about_1 ?_
  refine at_iload_n C 1 dX6_about_4 rfl ?_
  refine at_call_i C (c_X0_hasCaller l D G (Or.inl rfl) hT i ⟨by omega, by omega⟩) (As := [.int (sI (i))]) (obj_Bea G (Or.inl rfl)) (ci := 0) rfl qw_579 qw_576 qw_2 qw_577 qw_578 ⟨by decide, by decide, show (parseMethodDescriptor yX0_hasCaller.desc).map (fun d => d.parameters.length) = some 1 by decide +kernel⟩ ⟨by decide, by decide⟩ ⟨Nat.zero_le _, Nat.zero_le _⟩ (Nat.le_of_ble_eq_true rfl) dX6_about_5 rfl (fun r M' L' hp1 => ?_)
  obtain ⟨rfl, rfl, rfl⟩ := hp1
  refine at_if_eqB C 20 dX6_about_8 (by decide) (fun h2 => ?_) (fun h2 => ?_)
  · refine at_aload_n C 0 dX6_about_20 rfl ?_
    refine at_bipush C dX6_about_21 (by decide) (by decide) ?_
    refine at_call_i C (c_X6_refuseBad l D G (-2) hT ⟨by omega, by omega, by omega⟩) (As := [.int (sI (-2))]) (obj_Sho G) (ci := 6) rfl qw_311 qw_308 qw_1 qw_310 qp_0 ⟨by decide, by decide, show (parseMethodDescriptor yX6_refuseBad.desc).map (fun d => d.parameters.length) = some 1 by decide +kernel⟩ ⟨by decide, by decide⟩ ⟨Nat.zero_le _, Nat.zero_le _⟩ (Nat.le_of_ble_eq_true rfl) dX6_about_23 rfl (fun r M' L' hp4 => ?_)
    obtain ⟨rfl, rfl, hT3, rfl⟩ := hp4
    exact hret _ _ _ _ _ dX6_about_26 (⟨congrArg sI (if_neg (by first | omega | (simp only [Int.toNat_natCast]; omega))).symm, (if_neg (by omega)).symm, hT3, rfl⟩)
  · refine at_iload_n C 2 dX6_about_11 rfl ?_
    refine at_iconst C dX6_about_12 ?_
    refine at_iconst C dX6_about_13 ?_
    refine at_stat_i C (c_X6_within l D G w 0 3 ⟨by omega, by omega⟩ ⟨by omega, by omega⟩ ⟨by omega, by omega⟩) (As := [.int (sI (w)), .int (sI (0)), .int (sI (3))]) qw_307 qw_305 qw_1 qw_306 ⟨by decide, by decide, show (parseMethodDescriptor yX6_within.desc).map (fun d => d.parameters.length) = some 3 by decide +kernel⟩ ⟨by decide, by decide⟩ ⟨Nat.zero_le _, Nat.zero_le _⟩ (Nat.le_of_ble_eq_true rfl) dX6_about_14 rfl (fun r M' L' hp5 => ?_)
    obtain ⟨rfl, rfl, rfl⟩ := hp5
    refine at_if_neB C 27 dX6_about_17 (by decide) (fun h6 => ?_) (fun h6 => ?_)
    · obtain ⟨n, rfl⟩ : ∃ n : Nat, i = (n : Int) := ⟨i.toNat, by omega⟩
      have hcc := tv_callers hT (Or.inl rfl)
      have hss := tv_souls hT (Or.inl rfl)
      refine at_iload_n C 2 dX6_about_27 rfl ?_
      by_cases hs7 : w = 0
      · refine at_tsw C dX6_about_28 (⟨by omega, by omega⟩) 56 (Or.inr ⟨by omega, by omega, 28, by rw [hs7]; rfl, by decide⟩) ?_
        refine at_aload_n C 0 dX6_about_56 rfl ?_
        refine at_getf (v := .ref (G.1 (1))) C (obj_Sho G) (ci := 6) rfl inX6 (slot := 0) (by decide) qw_249 rfl rfl dX6_about_57 ?_
        refine at_getf (v := .ref (G.1 (5))) C (obj_Bea G (Or.inl rfl)) (ci := 0) rfl inX0 (slot := 3) (by decide) qw_92 rfl rfl dX6_about_60 ?_
        refine at_iload_n C 1 dX6_about_63 rfl ?_
        refine at_iald C n (arI_ck G (Or.inl rfl)) (rfl) (by omega) dX6_about_64 ?_
        have hb8 : _ ≤ M 5 n ∧ M 5 n ≤ _ := tv_ck hT (Or.inl rfl) n
        exact hret _ _ _ _ _ dX6_about_65 (⟨congrArg sI ((if_pos (by first | omega | (simp only [Int.toNat_natCast]; omega))).trans (if_pos (by first | omega | (simp only [Int.toNat_natCast]; omega)))).symm, (if_pos (by omega)).symm, hT, rfl⟩)
      by_cases hs9 : w = 1
      · refine at_tsw C dX6_about_28 (⟨by omega, by omega⟩) 66 (Or.inr ⟨by omega, by omega, 38, by rw [hs9]; rfl, by decide⟩) ?_
        refine at_aload_n C 0 dX6_about_66 rfl ?_
        refine at_getf (v := .ref (G.1 (1))) C (obj_Sho G) (ci := 6) rfl inX6 (slot := 0) (by decide) qw_249 rfl rfl dX6_about_67 ?_
        refine at_iload_n C 1 dX6_about_70 rfl ?_
        refine at_call_i C (c_X0_heldBy l D G (Or.inl rfl) hT n (by omega)) (As := [.int (sI ((n : Int)))]) (obj_Bea G (Or.inl rfl)) (ci := 0) rfl qw_501 qw_586 qw_2 qw_499 qw_500 ⟨by decide, by decide, show (parseMethodDescriptor yX0_heldBy.desc).map (fun d => d.parameters.length) = some 1 by decide +kernel⟩ ⟨by decide, by decide⟩ ⟨Nat.zero_le _, Nat.zero_le _⟩ (Nat.le_of_ble_eq_true rfl) dX6_about_71 rfl (fun r M' L' hp11 => ?_)
        obtain ⟨rfl, rfl, rfl⟩ := hp11
        have hb10 := fst_r (fun s => M (1 + 7) s = n) (nS M 1)
        exact hret _ _ _ _ _ dX6_about_74 (⟨congrArg sI (((if_pos (by first | omega | (simp only [Int.toNat_natCast]; omega))).trans (if_neg (by first | omega | (simp only [Int.toNat_natCast]; omega)))).trans (if_pos (by first | omega | (simp only [Int.toNat_natCast]; omega)))).symm, (if_pos (by omega)).symm, hT, rfl⟩)
      by_cases hs12 : w = 2
      · refine at_tsw C dX6_about_28 (⟨by omega, by omega⟩) 75 (Or.inr ⟨by omega, by omega, 47, by rw [hs12]; rfl, by decide⟩) ?_
        refine at_aload_n C 0 dX6_about_75 rfl ?_
        refine at_getf (v := .ref (G.1 (1))) C (obj_Sho G) (ci := 6) rfl inX6 (slot := 0) (by decide) qw_249 rfl rfl dX6_about_76 ?_
        refine at_iload_n C 1 dX6_about_79 rfl ?_
        refine at_call_i C (c_X0_wanted l D G (Or.inl rfl) hT n (by omega)) (As := [.int (sI ((n : Int)))]) (obj_Bea G (Or.inl rfl)) (ci := 0) rfl qw_519 qw_615 qw_2 qw_517 qw_518 ⟨by decide, by decide, show (parseMethodDescriptor yX0_wanted.desc).map (fun d => d.parameters.length) = some 1 by decide +kernel⟩ ⟨by decide, by decide⟩ ⟨Nat.zero_le _, Nat.zero_le _⟩ (Nat.le_of_ble_eq_true rfl) dX6_about_80 rfl (fun r M' L' hp14 => ?_)
        obtain ⟨rfl, rfl, rfl⟩ := hp14
        have hb13 := bWan_r hT (Or.inl rfl) n
        exact hret _ _ _ _ _ dX6_about_83 (⟨congrArg sI ((((if_pos (by first | omega | (simp only [Int.toNat_natCast]; omega))).trans (if_neg (by first | omega | (simp only [Int.toNat_natCast]; omega)))).trans (if_neg (by first | omega | (simp only [Int.toNat_natCast]; omega)))).trans (if_pos (by first | omega | (simp only [Int.toNat_natCast]; omega)))).symm, (if_pos (by omega)).symm, hT, rfl⟩)
      refine at_tsw C dX6_about_28 (⟨by omega, by omega⟩) 84 (Or.inl ⟨by omega, by decide⟩) ?_
      refine at_aload_n C 0 dX6_about_84 rfl ?_
      refine at_getf (v := .ref (G.1 (1))) C (obj_Sho G) (ci := 6) rfl inX6 (slot := 0) (by decide) qw_249 rfl rfl dX6_about_85 ?_
      refine at_iload_n C 1 dX6_about_88 rfl ?_
      refine at_call_i C (c_X0_choice l D G (Or.inl rfl) hT n (by omega)) (As := [.int (sI ((n : Int)))]) (obj_Bea G (Or.inl rfl)) (ci := 0) rfl qw_497 qw_581 qw_2 qw_495 qw_496 ⟨by decide, by decide, show (parseMethodDescriptor yX0_choice.desc).map (fun d => d.parameters.length) = some 1 by decide +kernel⟩ ⟨by decide, by decide⟩ ⟨Nat.zero_le _, Nat.zero_le _⟩ (Nat.le_of_ble_eq_true rfl) dX6_about_89 rfl (fun r M' L' hp16 => ?_)
      obtain ⟨rfl, rfl, rfl⟩ := hp16
      have hb15 := bCho_r hT (Or.inl rfl) n
      exact hret _ _ _ _ _ dX6_about_92 (⟨congrArg sI ((((if_pos (by first | omega | (simp only [Int.toNat_natCast]; omega))).trans (if_neg (by first | omega | (simp only [Int.toNat_natCast]; omega)))).trans (if_neg (by first | omega | (simp only [Int.toNat_natCast]; omega)))).trans (if_neg (by first | omega | (simp only [Int.toNat_natCast]; omega)))).symm, (if_pos (by omega)).symm, hT, rfl⟩)
    · refine at_aload_n C 0 dX6_about_20 rfl ?_
      refine at_bipush C dX6_about_21 (by decide) (by decide) ?_
      refine at_call_i C (c_X6_refuseBad l D G (-2) hT ⟨by omega, by omega, by omega⟩) (As := [.int (sI (-2))]) (obj_Sho G) (ci := 6) rfl qw_311 qw_308 qw_1 qw_310 qp_0 ⟨by decide, by decide, show (parseMethodDescriptor yX6_refuseBad.desc).map (fun d => d.parameters.length) = some 1 by decide +kernel⟩ ⟨by decide, by decide⟩ ⟨Nat.zero_le _, Nat.zero_le _⟩ (Nat.le_of_ble_eq_true rfl) dX6_about_23 rfl (fun r M' L' hp18 => ?_)
      obtain ⟨rfl, rfl, hT17, rfl⟩ := hp18
      exact hret _ _ _ _ _ dX6_about_26 (⟨congrArg sI (if_neg (by first | omega | (simp only [Int.toNat_natCast]; omega))).symm, (if_neg (by omega)).symm, hT17, rfl⟩)

set_option maxHeartbeats 4000000 in
set_option maxRecDepth 100000 in
theorem c_X6_feels (l : Launch) (D : va_G) (G : sG) {M : sM} {L : sL} (s i : Int) (hsr : InR s) (hir : InR i) (hT : TInv M) (hc : sCt M) : sKi l D G yX6_feels cX6_feels 3 .int 2 46 [.ref (G.1 (0)), .int (sI (s)), .int (sI (i))] M L (fun r M' L' => r = sI (rFeels M s i) ∧ M' = mB M (isSou M s ∧ isCal M i) ∧ TInv M' ∧ L = L') := by
  refine sKi_go (by decide) (Nat.le_of_ble_eq_true rfl) ?_
  intro zp ze zs zm za zb zt zc Q C hret
  refine at_eq (lv' := [(0, .ref (G.1 (0))), (1, .int (sI (s))), (2, .int (sI (i)))]) (st' := []) (M' := M) (L' := L) ?_ rfl rfl rfl rfl
  refine at_aload_n C 0 dX6_feels_0 rfl ?_
  refine at_getf (v := .ref (G.1 (1))) C (obj_Sho G) (ci := 6) rfl inX6 (slot := 0) (by decide) qw_249 rfl rfl dX6_feels_1 ?_
  refine at_iload_n C 1 dX6_feels_4 rfl ?_
  refine at_call_i C (c_X0_hasSoul l D G (Or.inl rfl) hT s ⟨by omega, by omega⟩) (As := [.int (sI (s))]) (obj_Bea G (Or.inl rfl)) (ci := 0) rfl qw_602 qw_599 qw_2 qw_600 qw_601 ⟨by decide, by decide, show (parseMethodDescriptor yX0_hasSoul.desc).map (fun d => d.parameters.length) = some 1 by decide +kernel⟩ ⟨by decide, by decide⟩ ⟨Nat.zero_le _, Nat.zero_le _⟩ (Nat.le_of_ble_eq_true rfl) dX6_feels_5 rfl (fun r M' L' hp1 => ?_)
  obtain ⟨rfl, rfl, rfl⟩ := hp1
  refine at_if_eqB C 22 dX6_feels_8 (by decide) (fun h2 => ?_) (fun h2 => ?_)
  · refine at_aload_n C 0 dX6_feels_22 rfl ?_
    refine at_bipush C dX6_feels_23 (by decide) (by decide) ?_
    refine at_call_i C (c_X6_refuseBad l D G (-2) hT ⟨by omega, by omega, by omega⟩) (As := [.int (sI (-2))]) (obj_Sho G) (ci := 6) rfl qw_311 qw_308 qw_1 qw_310 qp_0 ⟨by decide, by decide, show (parseMethodDescriptor yX6_refuseBad.desc).map (fun d => d.parameters.length) = some 1 by decide +kernel⟩ ⟨by decide, by decide⟩ ⟨Nat.zero_le _, Nat.zero_le _⟩ (Nat.le_of_ble_eq_true rfl) dX6_feels_25 rfl (fun r M' L' hp4 => ?_)
    obtain ⟨rfl, rfl, hT3, rfl⟩ := hp4
    exact hret _ _ _ _ _ dX6_feels_28 (⟨congrArg sI (if_neg (by first | omega | (simp only [Int.toNat_natCast]; omega))).symm, (if_neg (by omega)).symm, hT3, rfl⟩)
  · refine at_aload_n C 0 dX6_feels_11 rfl ?_
    refine at_getf (v := .ref (G.1 (1))) C (obj_Sho G) (ci := 6) rfl inX6 (slot := 0) (by decide) qw_249 rfl rfl dX6_feels_12 ?_
    refine at_iload_n C 2 dX6_feels_15 rfl ?_
    refine at_call_i C (c_X0_hasCaller l D G (Or.inl rfl) hT i ⟨by omega, by omega⟩) (As := [.int (sI (i))]) (obj_Bea G (Or.inl rfl)) (ci := 0) rfl qw_579 qw_576 qw_2 qw_577 qw_578 ⟨by decide, by decide, show (parseMethodDescriptor yX0_hasCaller.desc).map (fun d => d.parameters.length) = some 1 by decide +kernel⟩ ⟨by decide, by decide⟩ ⟨Nat.zero_le _, Nat.zero_le _⟩ (Nat.le_of_ble_eq_true rfl) dX6_feels_16 rfl (fun r M' L' hp5 => ?_)
    obtain ⟨rfl, rfl, rfl⟩ := hp5
    refine at_if_neB C 29 dX6_feels_19 (by decide) (fun h6 => ?_) (fun h6 => ?_)
    · obtain ⟨n, rfl⟩ : ∃ n : Nat, s = (n : Int) := ⟨s.toNat, by omega⟩
      obtain ⟨k, rfl⟩ : ∃ k : Nat, i = (k : Int) := ⟨i.toNat, by omega⟩
      have hcc := tv_callers hT (Or.inl rfl)
      have hss := tv_souls hT (Or.inl rfl)
      refine at_aload_n C 0 dX6_feels_29 rfl ?_
      refine at_getf (v := .ref (G.1 (1))) C (obj_Sho G) (ci := 6) rfl inX6 (slot := 0) (by decide) qw_249 rfl rfl dX6_feels_30 ?_
      refine at_iload_n C 1 dX6_feels_33 rfl ?_
      refine at_iload_n C 2 dX6_feels_34 rfl ?_
      refine at_call_i C (c_X0_felt l D G (Or.inl rfl) hT n k (by omega) (by omega)) (As := [.int (sI ((n : Int))), .int (sI ((k : Int)))]) (obj_Bea G (Or.inl rfl)) (ci := 0) rfl qw_509 qw_620 qw_2 qw_507 qw_508 ⟨by decide, by decide, show (parseMethodDescriptor yX0_felt.desc).map (fun d => d.parameters.length) = some 2 by decide +kernel⟩ ⟨by decide, by decide⟩ ⟨Nat.zero_le _, Nat.zero_le _⟩ (Nat.le_of_ble_eq_true rfl) dX6_feels_35 rfl (fun r M' L' hp8 => ?_)
      obtain ⟨rfl, rfl, rfl⟩ := hp8
      have hb7 := bFel_r hT (Or.inl rfl) n k
      exact hret _ _ _ _ _ dX6_feels_38 (⟨congrArg sI (if_pos (by first | omega | (simp only [Int.toNat_natCast]; omega))).symm, (if_pos (by omega)).symm, hT, rfl⟩)
    · refine at_aload_n C 0 dX6_feels_22 rfl ?_
      refine at_bipush C dX6_feels_23 (by decide) (by decide) ?_
      refine at_call_i C (c_X6_refuseBad l D G (-2) hT ⟨by omega, by omega, by omega⟩) (As := [.int (sI (-2))]) (obj_Sho G) (ci := 6) rfl qw_311 qw_308 qw_1 qw_310 qp_0 ⟨by decide, by decide, show (parseMethodDescriptor yX6_refuseBad.desc).map (fun d => d.parameters.length) = some 1 by decide +kernel⟩ ⟨by decide, by decide⟩ ⟨Nat.zero_le _, Nat.zero_le _⟩ (Nat.le_of_ble_eq_true rfl) dX6_feels_25 rfl (fun r M' L' hp10 => ?_)
      obtain ⟨rfl, rfl, hT9, rfl⟩ := hp10
      exact hret _ _ _ _ _ dX6_feels_28 (⟨congrArg sI (if_neg (by first | omega | (simp only [Int.toNat_natCast]; omega))).symm, (if_neg (by omega)).symm, hT9, rfl⟩)

set_option maxHeartbeats 4000000 in
set_option maxRecDepth 100000 in
theorem c_X6_where (l : Launch) (D : va_G) (G : sG) {M : sM} {L : sL} (s m : Int) (hsr : InR s) (hmr : InR m) (hT : TInv M) (hc : sCt M) : sKi l D G yX6_where cX6_where 3 .int 3 67 [.ref (G.1 (0)), .int (sI (s)), .int (sI (m))] M L (fun r M' L' => r = sI (rWhere M s m) ∧ M' = mB M (isSou M s ∧ (0 ≤ m ∧ m ≤ 60)) ∧ TInv M' ∧ L = L') := by
  refine sKi_go (by decide) (Nat.le_of_ble_eq_true rfl) ?_
  intro zp ze zs zm za zb zt zc Q C hret
  refine at_eq (lv' := [(0, .ref (G.1 (0))), (1, .int (sI (s))), (2, .int (sI (m)))]) (st' := []) (M' := M) (L' := L) ?_ rfl rfl rfl rfl
  refine at_aload_n C 0 dX6_where_0 rfl ?_
  refine at_getf (v := .ref (G.1 (1))) C (obj_Sho G) (ci := 6) rfl inX6 (slot := 0) (by decide) qw_249 rfl rfl dX6_where_1 ?_
  refine at_iload_n C 1 dX6_where_4 rfl ?_
  refine at_call_i C (c_X0_hasSoul l D G (Or.inl rfl) hT s ⟨by omega, by omega⟩) (As := [.int (sI (s))]) (obj_Bea G (Or.inl rfl)) (ci := 0) rfl qw_602 qw_599 qw_2 qw_600 qw_601 ⟨by decide, by decide, show (parseMethodDescriptor yX0_hasSoul.desc).map (fun d => d.parameters.length) = some 1 by decide +kernel⟩ ⟨by decide, by decide⟩ ⟨Nat.zero_le _, Nat.zero_le _⟩ (Nat.le_of_ble_eq_true rfl) dX6_where_5 rfl (fun r M' L' hp1 => ?_)
  obtain ⟨rfl, rfl, rfl⟩ := hp1
  refine at_if_eqB C 21 dX6_where_8 (by decide) (fun h2 => ?_) (fun h2 => ?_)
  · refine at_aload_n C 0 dX6_where_21 rfl ?_
    refine at_bipush C dX6_where_22 (by decide) (by decide) ?_
    refine at_call_i C (c_X6_refuseBad l D G (-2) hT ⟨by omega, by omega, by omega⟩) (As := [.int (sI (-2))]) (obj_Sho G) (ci := 6) rfl qw_311 qw_308 qw_1 qw_310 qp_0 ⟨by decide, by decide, show (parseMethodDescriptor yX6_refuseBad.desc).map (fun d => d.parameters.length) = some 1 by decide +kernel⟩ ⟨by decide, by decide⟩ ⟨Nat.zero_le _, Nat.zero_le _⟩ (Nat.le_of_ble_eq_true rfl) dX6_where_24 rfl (fun r M' L' hp4 => ?_)
    obtain ⟨rfl, rfl, hT3, rfl⟩ := hp4
    exact hret _ _ _ _ _ dX6_where_27 (⟨congrArg sI (if_neg (by first | omega | (simp only [Int.toNat_natCast]; omega))).symm, (if_neg (by omega)).symm, hT3, rfl⟩)
  · refine at_iload_n C 2 dX6_where_11 rfl ?_
    refine at_iconst C dX6_where_12 ?_
    refine at_bipush C dX6_where_13 (by decide) (by decide) ?_
    refine at_stat_i C (c_X6_within l D G m 0 60 ⟨by omega, by omega⟩ ⟨by omega, by omega⟩ ⟨by omega, by omega⟩) (As := [.int (sI (m)), .int (sI (0)), .int (sI (60))]) qw_307 qw_305 qw_1 qw_306 ⟨by decide, by decide, show (parseMethodDescriptor yX6_within.desc).map (fun d => d.parameters.length) = some 3 by decide +kernel⟩ ⟨by decide, by decide⟩ ⟨Nat.zero_le _, Nat.zero_le _⟩ (Nat.le_of_ble_eq_true rfl) dX6_where_15 rfl (fun r M' L' hp5 => ?_)
    obtain ⟨rfl, rfl, rfl⟩ := hp5
    refine at_if_neB C 28 dX6_where_18 (by decide) (fun h6 => ?_) (fun h6 => ?_)
    · obtain ⟨n, rfl⟩ : ∃ n : Nat, s = (n : Int) := ⟨s.toNat, by omega⟩
      obtain ⟨k, rfl⟩ : ∃ k : Nat, m = (k : Int) := ⟨m.toNat, by omega⟩
      have hcc := tv_callers hT (Or.inl rfl)
      have hss := tv_souls hT (Or.inl rfl)
      refine at_aload_n C 0 dX6_where_28 rfl ?_
      refine at_getf (v := .ref (G.1 (1))) C (obj_Sho G) (ci := 6) rfl inX6 (slot := 0) (by decide) qw_249 rfl rfl dX6_where_29 ?_
      refine at_iload_n C 1 dX6_where_32 rfl ?_
      refine at_iload_n C 2 dX6_where_33 rfl ?_
      refine at_call_i C (c_X0_cellAhead l D G (Or.inl rfl) hT n k (by omega) (by omega)) (As := [.int (sI ((n : Int))), .int (sI ((k : Int)))]) (obj_Bea G (Or.inl rfl)) (ci := 0) rfl qw_628 qw_625 qw_2 qw_626 qw_627 ⟨by decide, by decide, show (parseMethodDescriptor yX0_cellAhead.desc).map (fun d => d.parameters.length) = some 2 by decide +kernel⟩ ⟨by decide, by decide⟩ ⟨Nat.zero_le _, Nat.zero_le _⟩ (Nat.le_of_ble_eq_true rfl) dX6_where_34 rfl (fun r M' L' hp7 => ?_)
      obtain ⟨rfl, rfl, rfl⟩ := hp7
      exact hret _ _ _ _ _ dX6_where_37 (⟨congrArg sI (if_pos (by first | omega | (simp only [Int.toNat_natCast]; omega))).symm, (if_pos (by omega)).symm, hT, rfl⟩)
    · refine at_aload_n C 0 dX6_where_21 rfl ?_
      refine at_bipush C dX6_where_22 (by decide) (by decide) ?_
      refine at_call_i C (c_X6_refuseBad l D G (-2) hT ⟨by omega, by omega, by omega⟩) (As := [.int (sI (-2))]) (obj_Sho G) (ci := 6) rfl qw_311 qw_308 qw_1 qw_310 qp_0 ⟨by decide, by decide, show (parseMethodDescriptor yX6_refuseBad.desc).map (fun d => d.parameters.length) = some 1 by decide +kernel⟩ ⟨by decide, by decide⟩ ⟨Nat.zero_le _, Nat.zero_le _⟩ (Nat.le_of_ble_eq_true rfl) dX6_where_24 rfl (fun r M' L' hp9 => ?_)
      obtain ⟨rfl, rfl, hT8, rfl⟩ := hp9
      exact hret _ _ _ _ _ dX6_where_27 (⟨congrArg sI (if_neg (by first | omega | (simp only [Int.toNat_natCast]; omega))).symm, (if_neg (by omega)).symm, hT8, rfl⟩)

set_option maxHeartbeats 4000000 in
set_option maxRecDepth 100000 in
theorem c_X6_right (l : Launch) (D : va_G) (G : sG) {M : sM} {L : sL} (hT : TInv M) (hc : sCt M) : sKi l D G yX6_right cX6_right 1 .int 1 22 [.ref (G.1 (0))] M L (fun r M' L' => r = sI (bRig M 1) ∧ M' = M ∧ TInv M' ∧ L = L') := by
  refine sKi_go (by decide) (Nat.le_of_ble_eq_true rfl) ?_
  intro zp ze zs zm za zb zt zc Q C hret
  refine at_eq (lv' := [(0, .ref (G.1 (0)))]) (st' := []) (M' := M) (L' := L) ?_ rfl rfl rfl rfl
  refine at_aload_n C 0 dX6_right_0 rfl ?_
  refine at_getf (v := .ref (G.1 (1))) C (obj_Sho G) (ci := 6) rfl inX6 (slot := 0) (by decide) qw_249 rfl rfl dX6_right_1 ?_
  refine at_call_i C (c_X0_rightCount l D G (Or.inl rfl) hT) (As := []) (obj_Bea G (Or.inl rfl)) (ci := 0) rfl qw_674 qw_671 qw_2 qw_672 qw_673 ⟨by decide, by decide, show (parseMethodDescriptor yX0_rightCount.desc).map (fun d => d.parameters.length) = some 0 by decide +kernel⟩ ⟨by decide, by decide⟩ ⟨Nat.zero_le _, Nat.zero_le _⟩ (Nat.le_of_ble_eq_true rfl) dX6_right_4 rfl (fun r M' L' hp1 => ?_)
  obtain ⟨rfl, rfl, rfl⟩ := hp1
  exact hret _ _ _ _ _ dX6_right_7 (⟨rfl, rfl, hT, rfl⟩)

set_option maxHeartbeats 4000000 in
set_option maxRecDepth 100000 in
theorem c_X6_seen (l : Launch) (D : va_G) (G : sG) {M : sM} {L : sL} (m c : Int) (hmr : InR m) (hcr : InR c) (hT : TInv M) (hc : sCt M) : sKi l D G yX6_seen cX6_seen 3 .int 2 46 [.ref (G.1 (0)), .int (sI (m)), .int (sI (c))] M L (fun r M' L' => r = sI (rSeen M m c) ∧ M' = mSeen M m c ∧ TInv M' ∧ L = L') := by
  refine sKi_go (by decide) (Nat.le_of_ble_eq_true rfl) ?_
  intro zp ze zs zm za zb zt zc Q C hret
  refine at_eq (lv' := [(0, .ref (G.1 (0))), (1, .int (sI (m))), (2, .int (sI (c)))]) (st' := []) (M' := M) (L' := L) ?_ rfl rfl rfl rfl
  refine at_iload_n C 1 dX6_seen_0 rfl ?_
  refine at_iconst C dX6_seen_1 ?_
  refine at_bipush C dX6_seen_2 (by decide) (by decide) ?_
  refine at_stat_i C (c_X6_within l D G m 0 60 ⟨by omega, by omega⟩ ⟨by omega, by omega⟩ ⟨by omega, by omega⟩) (As := [.int (sI (m)), .int (sI (0)), .int (sI (60))]) qw_307 qw_305 qw_1 qw_306 ⟨by decide, by decide, show (parseMethodDescriptor yX6_within.desc).map (fun d => d.parameters.length) = some 3 by decide +kernel⟩ ⟨by decide, by decide⟩ ⟨Nat.zero_le _, Nat.zero_le _⟩ (Nat.le_of_ble_eq_true rfl) dX6_seen_4 rfl (fun r M' L' hp1 => ?_)
  obtain ⟨rfl, rfl, rfl⟩ := hp1
  refine at_if_eqB C 20 dX6_seen_7 (by decide) (fun h2 => ?_) (fun h2 => ?_)
  · refine at_aload_n C 0 dX6_seen_20 rfl ?_
    refine at_bipush C dX6_seen_21 (by decide) (by decide) ?_
    refine at_call_i C (c_X6_refuseBad l D G (-2) hT ⟨by omega, by omega, by omega⟩) (As := [.int (sI (-2))]) (obj_Sho G) (ci := 6) rfl qw_311 qw_308 qw_1 qw_310 qp_0 ⟨by decide, by decide, show (parseMethodDescriptor yX6_refuseBad.desc).map (fun d => d.parameters.length) = some 1 by decide +kernel⟩ ⟨by decide, by decide⟩ ⟨Nat.zero_le _, Nat.zero_le _⟩ (Nat.le_of_ble_eq_true rfl) dX6_seen_23 rfl (fun r M' L' hp4 => ?_)
    obtain ⟨rfl, rfl, hT3, rfl⟩ := hp4
    exact hret _ _ _ _ _ dX6_seen_26 (⟨congrArg sI (if_neg (by first | omega | (simp only [Int.toNat_natCast]; omega))).symm, (if_neg (by first | omega | (simp only [Int.toNat_natCast]; omega))).symm, hT3, rfl⟩)
  · refine at_iload_n C 2 dX6_seen_10 rfl ?_
    refine at_iconst C dX6_seen_11 ?_
    refine at_bipush C dX6_seen_12 (by decide) (by decide) ?_
    refine at_stat_i C (c_X6_within l D G c 0 11 ⟨by omega, by omega⟩ ⟨by omega, by omega⟩ ⟨by omega, by omega⟩) (As := [.int (sI (c)), .int (sI (0)), .int (sI (11))]) qw_307 qw_305 qw_1 qw_306 ⟨by decide, by decide, show (parseMethodDescriptor yX6_within.desc).map (fun d => d.parameters.length) = some 3 by decide +kernel⟩ ⟨by decide, by decide⟩ ⟨Nat.zero_le _, Nat.zero_le _⟩ (Nat.le_of_ble_eq_true rfl) dX6_seen_14 rfl (fun r M' L' hp5 => ?_)
    obtain ⟨rfl, rfl, rfl⟩ := hp5
    refine at_if_neB C 27 dX6_seen_17 (by decide) (fun h6 => ?_) (fun h6 => ?_)
    · refine at_aload_n C 0 dX6_seen_27 rfl ?_
      refine at_getf (v := .ref (G.1 (1))) C (obj_Sho G) (ci := 6) rfl inX6 (slot := 0) (by decide) qw_249 rfl rfl dX6_seen_28 ?_
      refine at_getf (v := .ref (G.1 (11))) C (obj_Bea G (Or.inl rfl)) (ci := 0) rfl inX0 (slot := 6) (by decide) qw_99 rfl rfl dX6_seen_31 ?_
      refine at_getf (v := .int (sI (M 11 3))) C ((isTa_sig G (Or.inl rfl)).1) (ci := 4) rfl inX4 (slot := 3) (by decide) qw_75 rfl rfl dX6_seen_34 ?_
      have hb7 : _ ≤ M 11 3 ∧ M 11 3 ≤ _ := tv hT (k := 11) (j := 3) (lo := 0) (hi := 5) (by first | rfl | (rw [rg_B (Or.inl rfl) (by omega)]; rfl))
      refine at_iconst C dX6_seen_37 ?_
      refine at_icmp_lt C 46 dX6_seen_38 (by decide) (⟨by omega, by omega⟩) (⟨by omega, by omega⟩) (fun h8 => ?_) (fun h8 => ?_)
      · refine at_aload_n C 0 dX6_seen_46 rfl ?_
        refine at_getf (v := .ref (G.1 (1))) C (obj_Sho G) (ci := 6) rfl inX6 (slot := 0) (by decide) qw_249 rfl rfl dX6_seen_47 ?_
        refine at_getf (v := .ref (G.1 (11))) C (obj_Bea G (Or.inl rfl)) (ci := 0) rfl inX0 (slot := 6) (by decide) qw_99 rfl rfl dX6_seen_50 ?_
        refine at_iload_n C 1 dX6_seen_53 rfl ?_
        refine at_iload_n C 2 dX6_seen_54 rfl ?_
        refine at_iconst C dX6_seen_55 ?_
        refine at_iconst C dX6_seen_56 ?_
        refine at_call_i C (c_X4_add_sgn l D G (Or.inl rfl) hT m c 0 0 ⟨by omega, by omega⟩ ⟨by omega, by omega⟩ ⟨by omega, by omega⟩ ⟨by omega, by omega⟩ (by omega)) (As := [.int (sI (m)), .int (sI (c)), .int (sI (0)), .int (sI (0))]) ((isTa_sig G (Or.inl rfl)).1) (ci := 4) rfl qw_726 qw_723 qw_4 qw_724 qw_725 ⟨by decide, by decide, show (parseMethodDescriptor yX4_add.desc).map (fun d => d.parameters.length) = some 4 by decide +kernel⟩ ⟨by decide, by decide⟩ ⟨Nat.zero_le _, Nat.zero_le _⟩ (Nat.le_of_ble_eq_true rfl) dX6_seen_57 rfl (fun r M' L' hp10 => ?_)
        obtain ⟨rfl, rfl, hT9, rfl⟩ := hp10
        exact hret _ _ _ _ _ dX6_seen_60 (⟨congrArg sI ((if_pos (by first | omega | (simp only [Int.toNat_natCast]; omega))).trans (if_pos (by first | omega | (simp only [Int.toNat_natCast]; omega)))).symm, ((if_pos (by first | omega | (simp only [Int.toNat_natCast]; omega))).trans (if_pos (by first | omega | (simp only [Int.toNat_natCast]; omega)))).symm, hT9, rfl⟩)
      · refine at_aload_n C 0 dX6_seen_41 rfl ?_
        refine at_call_i C (c_X6_refuseFull l D G hT ⟨by omega, by omega, by omega⟩) (As := []) (obj_Sho G) (ci := 6) rfl qw_319 qw_316 qw_1 qw_318 qp_1 ⟨by decide, by decide, show (parseMethodDescriptor yX6_refuseFull.desc).map (fun d => d.parameters.length) = some 0 by decide +kernel⟩ ⟨by decide, by decide⟩ ⟨Nat.zero_le _, Nat.zero_le _⟩ (Nat.le_of_ble_eq_true rfl) dX6_seen_42 rfl (fun r M' L' hp12 => ?_)
        obtain ⟨rfl, rfl, hT11, rfl⟩ := hp12
        exact hret _ _ _ _ _ dX6_seen_45 (⟨congrArg sI ((if_pos (by first | omega | (simp only [Int.toNat_natCast]; omega))).trans (if_neg (by first | omega | (simp only [Int.toNat_natCast]; omega)))).symm, ((if_pos (by first | omega | (simp only [Int.toNat_natCast]; omega))).trans (if_neg (by first | omega | (simp only [Int.toNat_natCast]; omega)))).symm, hT11, rfl⟩)
    · refine at_aload_n C 0 dX6_seen_20 rfl ?_
      refine at_bipush C dX6_seen_21 (by decide) (by decide) ?_
      refine at_call_i C (c_X6_refuseBad l D G (-2) hT ⟨by omega, by omega, by omega⟩) (As := [.int (sI (-2))]) (obj_Sho G) (ci := 6) rfl qw_311 qw_308 qw_1 qw_310 qp_0 ⟨by decide, by decide, show (parseMethodDescriptor yX6_refuseBad.desc).map (fun d => d.parameters.length) = some 1 by decide +kernel⟩ ⟨by decide, by decide⟩ ⟨Nat.zero_le _, Nat.zero_le _⟩ (Nat.le_of_ble_eq_true rfl) dX6_seen_23 rfl (fun r M' L' hp14 => ?_)
      obtain ⟨rfl, rfl, hT13, rfl⟩ := hp14
      exact hret _ _ _ _ _ dX6_seen_26 (⟨congrArg sI (if_neg (by first | omega | (simp only [Int.toNat_natCast]; omega))).symm, (if_neg (by first | omega | (simp only [Int.toNat_natCast]; omega))).symm, hT13, rfl⟩)

set_option maxHeartbeats 4000000 in
set_option maxRecDepth 100000 in
theorem c_X6_note (l : Launch) (D : va_G) (G : sG) {M : sM} {L : sL} (s w d x : Int) (hsr : InR s) (hwr : InR w) (hdr : InR d) (hxr : InR x) (hT : TInv M) (hc : sCt M) : sKi l D G yX6_note cX6_note 5 .int 2 46 [.ref (G.1 (0)), .int (sI (s)), .int (sI (w)), .int (sI (d)), .int (sI (x))] M L (fun r M' L' => r = sI (rNote M s w d x) ∧ M' = mNote M s w d x ∧ TInv M' ∧ L = L') := by
  refine sKi_go (by decide) (Nat.le_of_ble_eq_true rfl) ?_
  intro zp ze zs zm za zb zt zc Q C hret
  refine at_eq (lv' := [(0, .ref (G.1 (0))), (1, .int (sI (s))), (2, .int (sI (w))), (3, .int (sI (d))), (4, .int (sI (x)))]) (st' := []) (M' := M) (L' := L) ?_ rfl rfl rfl rfl
  have hcc := tv_callers hT (Or.inl rfl)
  have hss := tv_souls hT (Or.inl rfl)
  refine at_aload_n C 0 dX6_note_0 rfl ?_
  refine at_getf (v := .ref (G.1 (1))) C (obj_Sho G) (ci := 6) rfl inX6 (slot := 0) (by decide) qw_249 rfl rfl dX6_note_1 ?_
  refine at_iload_n C 1 dX6_note_4 rfl ?_
  refine at_call_i C (c_X0_hasSoul l D G (Or.inl rfl) hT s ⟨by omega, by omega⟩) (As := [.int (sI (s))]) (obj_Bea G (Or.inl rfl)) (ci := 0) rfl qw_602 qw_599 qw_2 qw_600 qw_601 ⟨by decide, by decide, show (parseMethodDescriptor yX0_hasSoul.desc).map (fun d => d.parameters.length) = some 1 by decide +kernel⟩ ⟨by decide, by decide⟩ ⟨Nat.zero_le _, Nat.zero_le _⟩ (Nat.le_of_ble_eq_true rfl) dX6_note_5 rfl (fun r M' L' hp1 => ?_)
  obtain ⟨rfl, rfl, rfl⟩ := hp1
  refine at_if_eqB C 42 dX6_note_8 (by decide) (fun h2 => ?_) (fun h2 => ?_)
  · refine at_aload_n C 0 dX6_note_42 rfl ?_
    refine at_bipush C dX6_note_43 (by decide) (by decide) ?_
    refine at_call_i C (c_X6_refuseBad l D G (-2) hT ⟨by omega, by omega, by omega⟩) (As := [.int (sI (-2))]) (obj_Sho G) (ci := 6) rfl qw_311 qw_308 qw_1 qw_310 qp_0 ⟨by decide, by decide, show (parseMethodDescriptor yX6_refuseBad.desc).map (fun d => d.parameters.length) = some 1 by decide +kernel⟩ ⟨by decide, by decide⟩ ⟨Nat.zero_le _, Nat.zero_le _⟩ (Nat.le_of_ble_eq_true rfl) dX6_note_45 rfl (fun r M' L' hp4 => ?_)
    obtain ⟨rfl, rfl, hT3, rfl⟩ := hp4
    exact hret _ _ _ _ _ dX6_note_48 (⟨congrArg sI (if_neg (by first | omega | (simp only [Int.toNat_natCast]; omega))).symm, (if_neg (by first | omega | (simp only [Int.toNat_natCast]; omega))).symm, hT3, rfl⟩)
  · refine at_iload_n C 2 dX6_note_11 rfl ?_
    refine at_iconst C dX6_note_12 ?_
    refine at_bipush C dX6_note_13 (by decide) (by decide) ?_
    refine at_stat_i C (c_X6_within l D G w 1 9 ⟨by omega, by omega⟩ ⟨by omega, by omega⟩ ⟨by omega, by omega⟩) (As := [.int (sI (w)), .int (sI (1)), .int (sI (9))]) qw_307 qw_305 qw_1 qw_306 ⟨by decide, by decide, show (parseMethodDescriptor yX6_within.desc).map (fun d => d.parameters.length) = some 3 by decide +kernel⟩ ⟨by decide, by decide⟩ ⟨Nat.zero_le _, Nat.zero_le _⟩ (Nat.le_of_ble_eq_true rfl) dX6_note_15 rfl (fun r M' L' hp5 => ?_)
    obtain ⟨rfl, rfl, rfl⟩ := hp5
    refine at_if_eqB C 42 dX6_note_18 (by decide) (fun h6 => ?_) (fun h6 => ?_)
    · refine at_aload_n C 0 dX6_note_42 rfl ?_
      refine at_bipush C dX6_note_43 (by decide) (by decide) ?_
      refine at_call_i C (c_X6_refuseBad l D G (-2) hT ⟨by omega, by omega, by omega⟩) (As := [.int (sI (-2))]) (obj_Sho G) (ci := 6) rfl qw_311 qw_308 qw_1 qw_310 qp_0 ⟨by decide, by decide, show (parseMethodDescriptor yX6_refuseBad.desc).map (fun d => d.parameters.length) = some 1 by decide +kernel⟩ ⟨by decide, by decide⟩ ⟨Nat.zero_le _, Nat.zero_le _⟩ (Nat.le_of_ble_eq_true rfl) dX6_note_45 rfl (fun r M' L' hp8 => ?_)
      obtain ⟨rfl, rfl, hT7, rfl⟩ := hp8
      exact hret _ _ _ _ _ dX6_note_48 (⟨congrArg sI (if_neg (by first | omega | (simp only [Int.toNat_natCast]; omega))).symm, (if_neg (by first | omega | (simp only [Int.toNat_natCast]; omega))).symm, hT7, rfl⟩)
    · refine at_iload_n C 3 dX6_note_21 rfl ?_
      refine at_iconst C dX6_note_22 ?_
      refine at_bipush C dX6_note_23 (by decide) (by decide) ?_
      refine at_stat_i C (c_X6_within l D G d 0 99 ⟨by omega, by omega⟩ ⟨by omega, by omega⟩ ⟨by omega, by omega⟩) (As := [.int (sI (d)), .int (sI (0)), .int (sI (99))]) qw_307 qw_305 qw_1 qw_306 ⟨by decide, by decide, show (parseMethodDescriptor yX6_within.desc).map (fun d => d.parameters.length) = some 3 by decide +kernel⟩ ⟨by decide, by decide⟩ ⟨Nat.zero_le _, Nat.zero_le _⟩ (Nat.le_of_ble_eq_true rfl) dX6_note_25 rfl (fun r M' L' hp9 => ?_)
      obtain ⟨rfl, rfl, rfl⟩ := hp9
      refine at_if_eqB C 42 dX6_note_28 (by decide) (fun h10 => ?_) (fun h10 => ?_)
      · refine at_aload_n C 0 dX6_note_42 rfl ?_
        refine at_bipush C dX6_note_43 (by decide) (by decide) ?_
        refine at_call_i C (c_X6_refuseBad l D G (-2) hT ⟨by omega, by omega, by omega⟩) (As := [.int (sI (-2))]) (obj_Sho G) (ci := 6) rfl qw_311 qw_308 qw_1 qw_310 qp_0 ⟨by decide, by decide, show (parseMethodDescriptor yX6_refuseBad.desc).map (fun d => d.parameters.length) = some 1 by decide +kernel⟩ ⟨by decide, by decide⟩ ⟨Nat.zero_le _, Nat.zero_le _⟩ (Nat.le_of_ble_eq_true rfl) dX6_note_45 rfl (fun r M' L' hp12 => ?_)
        obtain ⟨rfl, rfl, hT11, rfl⟩ := hp12
        exact hret _ _ _ _ _ dX6_note_48 (⟨congrArg sI (if_neg (by first | omega | (simp only [Int.toNat_natCast]; omega))).symm, (if_neg (by first | omega | (simp only [Int.toNat_natCast]; omega))).symm, hT11, rfl⟩)
      · refine at_iload C 4 dX6_note_31 rfl ?_
        refine at_iconst C dX6_note_33 ?_
        refine at_bipush C dX6_note_34 (by decide) (by decide) ?_
        refine at_stat_i C (c_X6_within l D G x 0 30 ⟨by omega, by omega⟩ ⟨by omega, by omega⟩ ⟨by omega, by omega⟩) (As := [.int (sI (x)), .int (sI (0)), .int (sI (30))]) qw_307 qw_305 qw_1 qw_306 ⟨by decide, by decide, show (parseMethodDescriptor yX6_within.desc).map (fun d => d.parameters.length) = some 3 by decide +kernel⟩ ⟨by decide, by decide⟩ ⟨Nat.zero_le _, Nat.zero_le _⟩ (Nat.le_of_ble_eq_true rfl) dX6_note_36 rfl (fun r M' L' hp13 => ?_)
        obtain ⟨rfl, rfl, rfl⟩ := hp13
        refine at_if_neB C 49 dX6_note_39 (by decide) (fun h14 => ?_) (fun h14 => ?_)
        · refine at_aload_n C 0 dX6_note_49 rfl ?_
          refine at_getf (v := .ref (G.1 (1))) C (obj_Sho G) (ci := 6) rfl inX6 (slot := 0) (by decide) qw_249 rfl rfl dX6_note_50 ?_
          refine at_getf (v := .ref (G.1 (13))) C (obj_Bea G (Or.inl rfl)) (ci := 0) rfl inX0 (slot := 7) (by decide) qw_101 rfl rfl dX6_note_53 ?_
          refine at_getf (v := .int (sI (M 13 3))) C ((isTa_not G (Or.inl rfl)).1) (ci := 4) rfl inX4 (slot := 3) (by decide) qw_75 rfl rfl dX6_note_56 ?_
          have hb15 : _ ≤ M 13 3 ∧ M 13 3 ≤ _ := tv hT (k := 13) (j := 3) (lo := 0) (hi := 6) (by first | rfl | (rw [rg_B (Or.inl rfl) (by omega)]; rfl))
          refine at_bipush C dX6_note_59 (by decide) (by decide) ?_
          refine at_icmp_lt C 69 dX6_note_61 (by decide) (⟨by omega, by omega⟩) (⟨by omega, by omega⟩) (fun h16 => ?_) (fun h16 => ?_)
          · refine at_aload_n C 0 dX6_note_69 rfl ?_
            refine at_getf (v := .ref (G.1 (1))) C (obj_Sho G) (ci := 6) rfl inX6 (slot := 0) (by decide) qw_249 rfl rfl dX6_note_70 ?_
            refine at_getf (v := .ref (G.1 (13))) C (obj_Bea G (Or.inl rfl)) (ci := 0) rfl inX0 (slot := 7) (by decide) qw_101 rfl rfl dX6_note_73 ?_
            refine at_iload_n C 1 dX6_note_76 rfl ?_
            refine at_iload_n C 2 dX6_note_77 rfl ?_
            refine at_iload_n C 3 dX6_note_78 rfl ?_
            refine at_iload C 4 dX6_note_79 rfl ?_
            refine at_call_i C (c_X4_add_ntn l D G (Or.inl rfl) hT s w d x ⟨by omega, by omega⟩ ⟨by omega, by omega⟩ ⟨by omega, by omega⟩ ⟨by omega, by omega⟩ (by omega)) (As := [.int (sI (s)), .int (sI (w)), .int (sI (d)), .int (sI (x))]) ((isTa_not G (Or.inl rfl)).1) (ci := 4) rfl qw_726 qw_723 qw_4 qw_724 qw_725 ⟨by decide, by decide, show (parseMethodDescriptor yX4_add.desc).map (fun d => d.parameters.length) = some 4 by decide +kernel⟩ ⟨by decide, by decide⟩ ⟨Nat.zero_le _, Nat.zero_le _⟩ (Nat.le_of_ble_eq_true rfl) dX6_note_81 rfl (fun r M' L' hp18 => ?_)
            obtain ⟨rfl, rfl, hT17, rfl⟩ := hp18
            exact hret _ _ _ _ _ dX6_note_84 (⟨congrArg sI ((if_pos (by first | omega | (simp only [Int.toNat_natCast]; omega))).trans (if_pos (by first | omega | (simp only [Int.toNat_natCast]; omega)))).symm, ((if_pos (by first | omega | (simp only [Int.toNat_natCast]; omega))).trans (if_pos (by first | omega | (simp only [Int.toNat_natCast]; omega)))).symm, hT17, rfl⟩)
          · refine at_aload_n C 0 dX6_note_64 rfl ?_
            refine at_call_i C (c_X6_refuseFull l D G hT ⟨by omega, by omega, by omega⟩) (As := []) (obj_Sho G) (ci := 6) rfl qw_319 qw_316 qw_1 qw_318 qp_1 ⟨by decide, by decide, show (parseMethodDescriptor yX6_refuseFull.desc).map (fun d => d.parameters.length) = some 0 by decide +kernel⟩ ⟨by decide, by decide⟩ ⟨Nat.zero_le _, Nat.zero_le _⟩ (Nat.le_of_ble_eq_true rfl) dX6_note_65 rfl (fun r M' L' hp20 => ?_)
            obtain ⟨rfl, rfl, hT19, rfl⟩ := hp20
            exact hret _ _ _ _ _ dX6_note_68 (⟨congrArg sI ((if_pos (by first | omega | (simp only [Int.toNat_natCast]; omega))).trans (if_neg (by first | omega | (simp only [Int.toNat_natCast]; omega)))).symm, ((if_pos (by first | omega | (simp only [Int.toNat_natCast]; omega))).trans (if_neg (by first | omega | (simp only [Int.toNat_natCast]; omega)))).symm, hT19, rfl⟩)
        · refine at_aload_n C 0 dX6_note_42 rfl ?_
          refine at_bipush C dX6_note_43 (by decide) (by decide) ?_
          refine at_call_i C (c_X6_refuseBad l D G (-2) hT ⟨by omega, by omega, by omega⟩) (As := [.int (sI (-2))]) (obj_Sho G) (ci := 6) rfl qw_311 qw_308 qw_1 qw_310 qp_0 ⟨by decide, by decide, show (parseMethodDescriptor yX6_refuseBad.desc).map (fun d => d.parameters.length) = some 1 by decide +kernel⟩ ⟨by decide, by decide⟩ ⟨Nat.zero_le _, Nat.zero_le _⟩ (Nat.le_of_ble_eq_true rfl) dX6_note_45 rfl (fun r M' L' hp22 => ?_)
          obtain ⟨rfl, rfl, hT21, rfl⟩ := hp22
          exact hret _ _ _ _ _ dX6_note_48 (⟨congrArg sI (if_neg (by first | omega | (simp only [Int.toNat_natCast]; omega))).symm, (if_neg (by first | omega | (simp only [Int.toNat_natCast]; omega))).symm, hT21, rfl⟩)

set_option maxHeartbeats 4000000 in
set_option maxRecDepth 100000 in
theorem c_X6_mark (l : Launch) (D : va_G) (G : sG) {M : sM} {L : sL} (i x y : Int) (hir : InR i) (hxr : InR x) (hyr : InR y) (hT : TInv M) (hc : sCt M) : sKi l D G yX6_mark cX6_mark 4 .int 2 46 [.ref (G.1 (0)), .int (sI (i)), .int (sI (x)), .int (sI (y))] M L (fun r M' L' => r = sI (rMark M i x y) ∧ M' = mMark M i x y ∧ TInv M' ∧ L = L') := by
  refine sKi_go (by decide) (Nat.le_of_ble_eq_true rfl) ?_
  intro zp ze zs zm za zb zt zc Q C hret
  refine at_eq (lv' := [(0, .ref (G.1 (0))), (1, .int (sI (i))), (2, .int (sI (x))), (3, .int (sI (y)))]) (st' := []) (M' := M) (L' := L) ?_ rfl rfl rfl rfl
  have hcc := tv_callers hT (Or.inl rfl)
  have hss := tv_souls hT (Or.inl rfl)
  refine at_aload_n C 0 dX6_mark_0 rfl ?_
  refine at_getf (v := .ref (G.1 (1))) C (obj_Sho G) (ci := 6) rfl inX6 (slot := 0) (by decide) qw_249 rfl rfl dX6_mark_1 ?_
  refine at_iload_n C 1 dX6_mark_4 rfl ?_
  refine at_call_i C (c_X0_hasCaller l D G (Or.inl rfl) hT i ⟨by omega, by omega⟩) (As := [.int (sI (i))]) (obj_Bea G (Or.inl rfl)) (ci := 0) rfl qw_579 qw_576 qw_2 qw_577 qw_578 ⟨by decide, by decide, show (parseMethodDescriptor yX0_hasCaller.desc).map (fun d => d.parameters.length) = some 1 by decide +kernel⟩ ⟨by decide, by decide⟩ ⟨Nat.zero_le _, Nat.zero_le _⟩ (Nat.le_of_ble_eq_true rfl) dX6_mark_5 rfl (fun r M' L' hp1 => ?_)
  obtain ⟨rfl, rfl, rfl⟩ := hp1
  refine at_if_eqB C 31 dX6_mark_8 (by decide) (fun h2 => ?_) (fun h2 => ?_)
  · refine at_aload_n C 0 dX6_mark_31 rfl ?_
    refine at_bipush C dX6_mark_32 (by decide) (by decide) ?_
    refine at_call_i C (c_X6_refuseBad l D G (-2) hT ⟨by omega, by omega, by omega⟩) (As := [.int (sI (-2))]) (obj_Sho G) (ci := 6) rfl qw_311 qw_308 qw_1 qw_310 qp_0 ⟨by decide, by decide, show (parseMethodDescriptor yX6_refuseBad.desc).map (fun d => d.parameters.length) = some 1 by decide +kernel⟩ ⟨by decide, by decide⟩ ⟨Nat.zero_le _, Nat.zero_le _⟩ (Nat.le_of_ble_eq_true rfl) dX6_mark_34 rfl (fun r M' L' hp4 => ?_)
    obtain ⟨rfl, rfl, hT3, rfl⟩ := hp4
    exact hret _ _ _ _ _ dX6_mark_37 (⟨congrArg sI (if_neg (by first | omega | (simp only [Int.toNat_natCast]; omega))).symm, (if_neg (by first | omega | (simp only [Int.toNat_natCast]; omega))).symm, hT3, rfl⟩)
  · refine at_iload_n C 2 dX6_mark_11 rfl ?_
    refine at_iconst C dX6_mark_12 ?_
    refine at_bipush C dX6_mark_13 (by decide) (by decide) ?_
    refine at_stat_i C (c_X6_within l D G x 0 30 ⟨by omega, by omega⟩ ⟨by omega, by omega⟩ ⟨by omega, by omega⟩) (As := [.int (sI (x)), .int (sI (0)), .int (sI (30))]) qw_307 qw_305 qw_1 qw_306 ⟨by decide, by decide, show (parseMethodDescriptor yX6_within.desc).map (fun d => d.parameters.length) = some 3 by decide +kernel⟩ ⟨by decide, by decide⟩ ⟨Nat.zero_le _, Nat.zero_le _⟩ (Nat.le_of_ble_eq_true rfl) dX6_mark_15 rfl (fun r M' L' hp5 => ?_)
    obtain ⟨rfl, rfl, rfl⟩ := hp5
    refine at_if_eqB C 31 dX6_mark_18 (by decide) (fun h6 => ?_) (fun h6 => ?_)
    · refine at_aload_n C 0 dX6_mark_31 rfl ?_
      refine at_bipush C dX6_mark_32 (by decide) (by decide) ?_
      refine at_call_i C (c_X6_refuseBad l D G (-2) hT ⟨by omega, by omega, by omega⟩) (As := [.int (sI (-2))]) (obj_Sho G) (ci := 6) rfl qw_311 qw_308 qw_1 qw_310 qp_0 ⟨by decide, by decide, show (parseMethodDescriptor yX6_refuseBad.desc).map (fun d => d.parameters.length) = some 1 by decide +kernel⟩ ⟨by decide, by decide⟩ ⟨Nat.zero_le _, Nat.zero_le _⟩ (Nat.le_of_ble_eq_true rfl) dX6_mark_34 rfl (fun r M' L' hp8 => ?_)
      obtain ⟨rfl, rfl, hT7, rfl⟩ := hp8
      exact hret _ _ _ _ _ dX6_mark_37 (⟨congrArg sI (if_neg (by first | omega | (simp only [Int.toNat_natCast]; omega))).symm, (if_neg (by first | omega | (simp only [Int.toNat_natCast]; omega))).symm, hT7, rfl⟩)
    · refine at_iload_n C 3 dX6_mark_21 rfl ?_
      refine at_iconst C dX6_mark_22 ?_
      refine at_bipush C dX6_mark_23 (by decide) (by decide) ?_
      refine at_stat_i C (c_X6_within l D G y 0 60 ⟨by omega, by omega⟩ ⟨by omega, by omega⟩ ⟨by omega, by omega⟩) (As := [.int (sI (y)), .int (sI (0)), .int (sI (60))]) qw_307 qw_305 qw_1 qw_306 ⟨by decide, by decide, show (parseMethodDescriptor yX6_within.desc).map (fun d => d.parameters.length) = some 3 by decide +kernel⟩ ⟨by decide, by decide⟩ ⟨Nat.zero_le _, Nat.zero_le _⟩ (Nat.le_of_ble_eq_true rfl) dX6_mark_25 rfl (fun r M' L' hp9 => ?_)
      obtain ⟨rfl, rfl, rfl⟩ := hp9
      refine at_if_neB C 38 dX6_mark_28 (by decide) (fun h10 => ?_) (fun h10 => ?_)
      · refine at_aload_n C 0 dX6_mark_38 rfl ?_
        refine at_getf (v := .ref (G.1 (1))) C (obj_Sho G) (ci := 6) rfl inX6 (slot := 0) (by decide) qw_249 rfl rfl dX6_mark_39 ?_
        refine at_getf (v := .ref (G.1 (15))) C (obj_Bea G (Or.inl rfl)) (ci := 0) rfl inX0 (slot := 8) (by decide) qw_103 rfl rfl dX6_mark_42 ?_
        refine at_getf (v := .int (sI (M 15 3))) C ((isTa_mar G (Or.inl rfl)).1) (ci := 4) rfl inX4 (slot := 3) (by decide) qw_75 rfl rfl dX6_mark_45 ?_
        have hb11 : _ ≤ M 15 3 ∧ M 15 3 ≤ _ := tv hT (k := 15) (j := 3) (lo := 0) (hi := 6) (by first | rfl | (rw [rg_B (Or.inl rfl) (by omega)]; rfl))
        refine at_bipush C dX6_mark_48 (by decide) (by decide) ?_
        refine at_icmp_lt C 58 dX6_mark_50 (by decide) (⟨by omega, by omega⟩) (⟨by omega, by omega⟩) (fun h12 => ?_) (fun h12 => ?_)
        · refine at_aload_n C 0 dX6_mark_58 rfl ?_
          refine at_getf (v := .ref (G.1 (1))) C (obj_Sho G) (ci := 6) rfl inX6 (slot := 0) (by decide) qw_249 rfl rfl dX6_mark_59 ?_
          refine at_getf (v := .ref (G.1 (15))) C (obj_Bea G (Or.inl rfl)) (ci := 0) rfl inX0 (slot := 8) (by decide) qw_103 rfl rfl dX6_mark_62 ?_
          refine at_iload_n C 1 dX6_mark_65 rfl ?_
          refine at_iload_n C 2 dX6_mark_66 rfl ?_
          refine at_iload_n C 3 dX6_mark_67 rfl ?_
          refine at_iconst C dX6_mark_68 ?_
          refine at_call_i C (c_X4_add_mkn l D G (Or.inl rfl) hT i x y 0 ⟨by omega, by omega⟩ ⟨by omega, by omega⟩ ⟨by omega, by omega⟩ ⟨by omega, by omega⟩ (by omega)) (As := [.int (sI (i)), .int (sI (x)), .int (sI (y)), .int (sI (0))]) ((isTa_mar G (Or.inl rfl)).1) (ci := 4) rfl qw_726 qw_723 qw_4 qw_724 qw_725 ⟨by decide, by decide, show (parseMethodDescriptor yX4_add.desc).map (fun d => d.parameters.length) = some 4 by decide +kernel⟩ ⟨by decide, by decide⟩ ⟨Nat.zero_le _, Nat.zero_le _⟩ (Nat.le_of_ble_eq_true rfl) dX6_mark_69 rfl (fun r M' L' hp14 => ?_)
          obtain ⟨rfl, rfl, hT13, rfl⟩ := hp14
          exact hret _ _ _ _ _ dX6_mark_72 (⟨congrArg sI ((if_pos (by first | omega | (simp only [Int.toNat_natCast]; omega))).trans (if_pos (by first | omega | (simp only [Int.toNat_natCast]; omega)))).symm, ((if_pos (by first | omega | (simp only [Int.toNat_natCast]; omega))).trans (if_pos (by first | omega | (simp only [Int.toNat_natCast]; omega)))).symm, hT13, rfl⟩)
        · refine at_aload_n C 0 dX6_mark_53 rfl ?_
          refine at_call_i C (c_X6_refuseFull l D G hT ⟨by omega, by omega, by omega⟩) (As := []) (obj_Sho G) (ci := 6) rfl qw_319 qw_316 qw_1 qw_318 qp_1 ⟨by decide, by decide, show (parseMethodDescriptor yX6_refuseFull.desc).map (fun d => d.parameters.length) = some 0 by decide +kernel⟩ ⟨by decide, by decide⟩ ⟨Nat.zero_le _, Nat.zero_le _⟩ (Nat.le_of_ble_eq_true rfl) dX6_mark_54 rfl (fun r M' L' hp16 => ?_)
          obtain ⟨rfl, rfl, hT15, rfl⟩ := hp16
          exact hret _ _ _ _ _ dX6_mark_57 (⟨congrArg sI ((if_pos (by first | omega | (simp only [Int.toNat_natCast]; omega))).trans (if_neg (by first | omega | (simp only [Int.toNat_natCast]; omega)))).symm, ((if_pos (by first | omega | (simp only [Int.toNat_natCast]; omega))).trans (if_neg (by first | omega | (simp only [Int.toNat_natCast]; omega)))).symm, hT15, rfl⟩)
      · refine at_aload_n C 0 dX6_mark_31 rfl ?_
        refine at_bipush C dX6_mark_32 (by decide) (by decide) ?_
        refine at_call_i C (c_X6_refuseBad l D G (-2) hT ⟨by omega, by omega, by omega⟩) (As := [.int (sI (-2))]) (obj_Sho G) (ci := 6) rfl qw_311 qw_308 qw_1 qw_310 qp_0 ⟨by decide, by decide, show (parseMethodDescriptor yX6_refuseBad.desc).map (fun d => d.parameters.length) = some 1 by decide +kernel⟩ ⟨by decide, by decide⟩ ⟨Nat.zero_le _, Nat.zero_le _⟩ (Nat.le_of_ble_eq_true rfl) dX6_mark_34 rfl (fun r M' L' hp18 => ?_)
        obtain ⟨rfl, rfl, hT17, rfl⟩ := hp18
        exact hret _ _ _ _ _ dX6_mark_37 (⟨congrArg sI (if_neg (by first | omega | (simp only [Int.toNat_natCast]; omega))).symm, (if_neg (by first | omega | (simp only [Int.toNat_natCast]; omega))).symm, hT17, rfl⟩)

set_option maxHeartbeats 4000000 in
set_option maxRecDepth 100000 in
theorem c_X6_forget (l : Launch) (D : va_G) (G : sG) {M : sM} {L : sL} (w : Int) (hwr : InR w) (hT : TInv M) (hc : sCt M) : sKi l D G yX6_forget cX6_forget 2 .int 1 21 [.ref (G.1 (0)), .int (sI (w))] M L (fun r M' L' => r = sI (rForget M w) ∧ M' = mForget M w ∧ TInv M' ∧ L = L') := by
  refine sKi_go (by decide) (Nat.le_of_ble_eq_true rfl) ?_
  intro zp ze zs zm za zb zt zc Q C hret
  refine at_eq (lv' := [(0, .ref (G.1 (0))), (1, .int (sI (w)))]) (st' := []) (M' := M) (L' := L) ?_ rfl rfl rfl rfl
  refine at_iload_n C 1 dX6_forget_0 rfl ?_
  by_cases hs1 : w = 0
  · refine at_tsw C dX6_forget_1 (⟨by omega, by omega⟩) 28 (Or.inr ⟨by omega, by omega, 27, by rw [hs1]; rfl, by decide⟩) ?_
    refine at_aload_n C 0 dX6_forget_28 rfl ?_
    refine at_getf (v := .ref (G.1 (1))) C (obj_Sho G) (ci := 6) rfl inX6 (slot := 0) (by decide) qw_249 rfl rfl dX6_forget_29 ?_
    refine at_getf (v := .ref (G.1 (11))) C (obj_Bea G (Or.inl rfl)) (ci := 0) rfl inX0 (slot := 6) (by decide) qw_99 rfl rfl dX6_forget_32 ?_
    refine at_call_i C (c_X4_drop_sgn l D G (Or.inl rfl) hT) (As := []) ((isTa_sig G (Or.inl rfl)).1) (ci := 4) rfl qw_300 qw_765 qw_4 qw_298 qw_299 ⟨by decide, by decide, show (parseMethodDescriptor yX4_drop.desc).map (fun d => d.parameters.length) = some 0 by decide +kernel⟩ ⟨by decide, by decide⟩ ⟨Nat.zero_le _, Nat.zero_le _⟩ (Nat.le_of_ble_eq_true rfl) dX6_forget_35 rfl (fun r M' L' hp3 => ?_)
    obtain ⟨rfl, rfl, hT2, rfl⟩ := hp3
    exact hret _ _ _ _ _ dX6_forget_38 (⟨congrArg sI (if_pos (by first | omega | (simp only [Int.toNat_natCast]; omega))).symm, (if_pos (by first | omega | (simp only [Int.toNat_natCast]; omega))).symm, hT2, rfl⟩)
  by_cases hs4 : w = 1
  · refine at_tsw C dX6_forget_1 (⟨by omega, by omega⟩) 39 (Or.inr ⟨by omega, by omega, 38, by rw [hs4]; rfl, by decide⟩) ?_
    refine at_aload_n C 0 dX6_forget_39 rfl ?_
    refine at_getf (v := .ref (G.1 (1))) C (obj_Sho G) (ci := 6) rfl inX6 (slot := 0) (by decide) qw_249 rfl rfl dX6_forget_40 ?_
    refine at_getf (v := .ref (G.1 (13))) C (obj_Bea G (Or.inl rfl)) (ci := 0) rfl inX0 (slot := 7) (by decide) qw_101 rfl rfl dX6_forget_43 ?_
    refine at_call_i C (c_X4_drop_ntn l D G (Or.inl rfl) hT) (As := []) ((isTa_not G (Or.inl rfl)).1) (ci := 4) rfl qw_300 qw_765 qw_4 qw_298 qw_299 ⟨by decide, by decide, show (parseMethodDescriptor yX4_drop.desc).map (fun d => d.parameters.length) = some 0 by decide +kernel⟩ ⟨by decide, by decide⟩ ⟨Nat.zero_le _, Nat.zero_le _⟩ (Nat.le_of_ble_eq_true rfl) dX6_forget_46 rfl (fun r M' L' hp6 => ?_)
    obtain ⟨rfl, rfl, hT5, rfl⟩ := hp6
    exact hret _ _ _ _ _ dX6_forget_49 (⟨congrArg sI ((if_neg (by first | omega | (simp only [Int.toNat_natCast]; omega))).trans (if_pos (by first | omega | (simp only [Int.toNat_natCast]; omega)))).symm, ((if_neg (by first | omega | (simp only [Int.toNat_natCast]; omega))).trans (if_pos (by first | omega | (simp only [Int.toNat_natCast]; omega)))).symm, hT5, rfl⟩)
  by_cases hs7 : w = 2
  · refine at_tsw C dX6_forget_1 (⟨by omega, by omega⟩) 50 (Or.inr ⟨by omega, by omega, 49, by rw [hs7]; rfl, by decide⟩) ?_
    refine at_aload_n C 0 dX6_forget_50 rfl ?_
    refine at_getf (v := .ref (G.1 (1))) C (obj_Sho G) (ci := 6) rfl inX6 (slot := 0) (by decide) qw_249 rfl rfl dX6_forget_51 ?_
    refine at_getf (v := .ref (G.1 (15))) C (obj_Bea G (Or.inl rfl)) (ci := 0) rfl inX0 (slot := 8) (by decide) qw_103 rfl rfl dX6_forget_54 ?_
    refine at_call_i C (c_X4_drop_mkn l D G (Or.inl rfl) hT) (As := []) ((isTa_mar G (Or.inl rfl)).1) (ci := 4) rfl qw_300 qw_765 qw_4 qw_298 qw_299 ⟨by decide, by decide, show (parseMethodDescriptor yX4_drop.desc).map (fun d => d.parameters.length) = some 0 by decide +kernel⟩ ⟨by decide, by decide⟩ ⟨Nat.zero_le _, Nat.zero_le _⟩ (Nat.le_of_ble_eq_true rfl) dX6_forget_57 rfl (fun r M' L' hp9 => ?_)
    obtain ⟨rfl, rfl, hT8, rfl⟩ := hp9
    exact hret _ _ _ _ _ dX6_forget_60 (⟨congrArg sI (((if_neg (by first | omega | (simp only [Int.toNat_natCast]; omega))).trans (if_neg (by first | omega | (simp only [Int.toNat_natCast]; omega)))).trans (if_pos (by first | omega | (simp only [Int.toNat_natCast]; omega)))).symm, (((if_neg (by first | omega | (simp only [Int.toNat_natCast]; omega))).trans (if_neg (by first | omega | (simp only [Int.toNat_natCast]; omega)))).trans (if_pos (by first | omega | (simp only [Int.toNat_natCast]; omega)))).symm, hT8, rfl⟩)
  refine at_tsw C dX6_forget_1 (⟨by omega, by omega⟩) 61 (Or.inl ⟨by omega, by decide⟩) ?_
  refine at_aload_n C 0 dX6_forget_61 rfl ?_
  refine at_bipush C dX6_forget_62 (by decide) (by decide) ?_
  refine at_call_i C (c_X6_refuseBad l D G (-2) hT ⟨by omega, by omega, by omega⟩) (As := [.int (sI (-2))]) (obj_Sho G) (ci := 6) rfl qw_311 qw_308 qw_1 qw_310 qp_0 ⟨by decide, by decide, show (parseMethodDescriptor yX6_refuseBad.desc).map (fun d => d.parameters.length) = some 1 by decide +kernel⟩ ⟨by decide, by decide⟩ ⟨Nat.zero_le _, Nat.zero_le _⟩ (Nat.le_of_ble_eq_true rfl) dX6_forget_64 rfl (fun r M' L' hp11 => ?_)
  obtain ⟨rfl, rfl, hT10, rfl⟩ := hp11
  exact hret _ _ _ _ _ dX6_forget_67 (⟨congrArg sI (((if_neg (by first | omega | (simp only [Int.toNat_natCast]; omega))).trans (if_neg (by first | omega | (simp only [Int.toNat_natCast]; omega)))).trans (if_neg (by first | omega | (simp only [Int.toNat_natCast]; omega)))).symm, (((if_neg (by first | omega | (simp only [Int.toNat_natCast]; omega))).trans (if_neg (by first | omega | (simp only [Int.toNat_natCast]; omega)))).trans (if_neg (by first | omega | (simp only [Int.toNat_natCast]; omega)))).symm, hT10, rfl⟩)

set_option maxHeartbeats 4000000 in
set_option maxRecDepth 100000 in
theorem c_X6_status (l : Launch) (D : va_G) (G : sG) {M : sM} {L : sL} (w : Int) (hwr : InR w) (hT : TInv M) (hc : sCt M) : sKi l D G yX6_status cX6_status 2 .int 1 21 [.ref (G.1 (0)), .int (sI (w))] M L (fun r M' L' => r = sI (rStatus M w) ∧ M' = mB M (0 ≤ w ∧ w ≤ 2) ∧ TInv M' ∧ L = L') := by
  refine sKi_go (by decide) (Nat.le_of_ble_eq_true rfl) ?_
  intro zp ze zs zm za zb zt zc Q C hret
  refine at_eq (lv' := [(0, .ref (G.1 (0))), (1, .int (sI (w)))]) (st' := []) (M' := M) (L' := L) ?_ rfl rfl rfl rfl
  refine at_iload_n C 1 dX6_status_0 rfl ?_
  by_cases hs1 : w = 0
  · refine at_tsw C dX6_status_1 (⟨by omega, by omega⟩) 28 (Or.inr ⟨by omega, by omega, 27, by rw [hs1]; rfl, by decide⟩) ?_
    refine at_aload_n C 0 dX6_status_28 rfl ?_
    refine at_getf (v := .int (sI (M 0 10))) C (obj_Sho G) (ci := 6) rfl inX6 (slot := 10) (by decide) qw_259 rfl rfl dX6_status_29 ?_
    have hb2 : _ ≤ M 0 10 ∧ M 0 10 ≤ _ := tv hT (k := 0) (j := 10) rfl
    exact hret _ _ _ _ _ dX6_status_32 (⟨congrArg sI (if_pos (by first | omega | (simp only [Int.toNat_natCast]; omega))).symm, (if_pos (by omega)).symm, hT, rfl⟩)
  by_cases hs3 : w = 1
  · refine at_tsw C dX6_status_1 (⟨by omega, by omega⟩) 33 (Or.inr ⟨by omega, by omega, 32, by rw [hs3]; rfl, by decide⟩) ?_
    refine at_aload_n C 0 dX6_status_33 rfl ?_
    refine at_getf (v := .int (sI (M 0 11))) C (obj_Sho G) (ci := 6) rfl inX6 (slot := 11) (by decide) qw_260 rfl rfl dX6_status_34 ?_
    have hb4 : _ ≤ M 0 11 ∧ M 0 11 ≤ _ := tv hT (k := 0) (j := 11) rfl
    exact hret _ _ _ _ _ dX6_status_37 (⟨congrArg sI ((if_neg (by first | omega | (simp only [Int.toNat_natCast]; omega))).trans (if_pos (by first | omega | (simp only [Int.toNat_natCast]; omega)))).symm, (if_pos (by omega)).symm, hT, rfl⟩)
  by_cases hs5 : w = 2
  · refine at_tsw C dX6_status_1 (⟨by omega, by omega⟩) 38 (Or.inr ⟨by omega, by omega, 37, by rw [hs5]; rfl, by decide⟩) ?_
    refine at_aload_n C 0 dX6_status_38 rfl ?_
    refine at_getf (v := .int (sI (M 0 12))) C (obj_Sho G) (ci := 6) rfl inX6 (slot := 12) (by decide) qw_261 rfl rfl dX6_status_39 ?_
    have hb6 : _ ≤ M 0 12 ∧ M 0 12 ≤ _ := tv hT (k := 0) (j := 12) rfl
    exact hret _ _ _ _ _ dX6_status_42 (⟨congrArg sI (((if_neg (by first | omega | (simp only [Int.toNat_natCast]; omega))).trans (if_neg (by first | omega | (simp only [Int.toNat_natCast]; omega)))).trans (if_pos (by first | omega | (simp only [Int.toNat_natCast]; omega)))).symm, (if_pos (by omega)).symm, hT, rfl⟩)
  refine at_tsw C dX6_status_1 (⟨by omega, by omega⟩) 43 (Or.inl ⟨by omega, by decide⟩) ?_
  refine at_aload_n C 0 dX6_status_43 rfl ?_
  refine at_iconst C dX6_status_44 ?_
  refine at_call_i C (c_X6_refuseBad l D G (-1) hT ⟨by omega, by omega, by omega⟩) (As := [.int (sI (-1))]) (obj_Sho G) (ci := 6) rfl qw_311 qw_308 qw_1 qw_310 qp_0 ⟨by decide, by decide, show (parseMethodDescriptor yX6_refuseBad.desc).map (fun d => d.parameters.length) = some 1 by decide +kernel⟩ ⟨by decide, by decide⟩ ⟨Nat.zero_le _, Nat.zero_le _⟩ (Nat.le_of_ble_eq_true rfl) dX6_status_45 rfl (fun r M' L' hp8 => ?_)
  obtain ⟨rfl, rfl, hT7, rfl⟩ := hp8
  exact hret _ _ _ _ _ dX6_status_48 (⟨congrArg sI (((if_neg (by first | omega | (simp only [Int.toNat_natCast]; omega))).trans (if_neg (by first | omega | (simp only [Int.toNat_natCast]; omega)))).trans (if_neg (by first | omega | (simp only [Int.toNat_natCast]; omega)))).symm, (if_neg (by omega)).symm, hT7, rfl⟩)

set_option maxHeartbeats 4000000 in
set_option maxRecDepth 100000 in
theorem c_X6_counted (l : Launch) (D : va_G) (G : sG) {M : sM} {L : sL} (w : Int) (hw : 0 ≤ w ∧ w ≤ 10) (hT : TInv M) : sKi l D G yX6_counted cX6_counted 2 .int 2 43 [.ref (G.1 (0)), .int (sI (w))] M L (fun r M' L' => r = sI (rCount0 M w) ∧ M = M' ∧ L = L') := by
  refine sKi_go (by decide) (Nat.le_of_ble_eq_true rfl) ?_
  intro zp ze zs zm za zb zt zc Q C hret
  refine at_eq (lv' := [(0, .ref (G.1 (0))), (1, .int (sI (w)))]) (st' := []) (M' := M) (L' := L) ?_ rfl rfl rfl rfl
  refine at_iload_n C 1 dX6_counted_0 rfl ?_
  by_cases hs1 : w = 0
  · refine at_tsw C dX6_counted_1 (⟨by omega, by omega⟩) 56 (Or.inr ⟨by omega, by omega, 55, by rw [hs1]; rfl, by decide⟩) ?_
    refine at_aload_n C 0 dX6_counted_56 rfl ?_
    refine at_getf (v := .ref (G.1 (1))) C (obj_Sho G) (ci := 6) rfl inX6 (slot := 0) (by decide) qw_249 rfl rfl dX6_counted_57 ?_
    refine at_getf (v := .int (sI (M 1 9))) C (obj_Bea G (Or.inl rfl)) (ci := 0) rfl inX0 (slot := 9) (by decide) qw_104 rfl rfl dX6_counted_60 ?_
    have hb2 : _ ≤ M 1 9 ∧ M 1 9 ≤ _ := tv_souls hT (Or.inl rfl)
    exact hret _ _ _ _ _ dX6_counted_63 (⟨congrArg sI (if_pos (by first | omega | (simp only [Int.toNat_natCast]; omega))).symm, rfl, rfl⟩)
  by_cases hs3 : w = 1
  · refine at_tsw C dX6_counted_1 (⟨by omega, by omega⟩) 64 (Or.inr ⟨by omega, by omega, 63, by rw [hs3]; rfl, by decide⟩) ?_
    refine at_aload_n C 0 dX6_counted_64 rfl ?_
    refine at_getf (v := .ref (G.1 (1))) C (obj_Sho G) (ci := 6) rfl inX6 (slot := 0) (by decide) qw_249 rfl rfl dX6_counted_65 ?_
    refine at_getf (v := .int (sI (M 1 10))) C (obj_Bea G (Or.inl rfl)) (ci := 0) rfl inX0 (slot := 10) (by decide) qw_111 rfl rfl dX6_counted_68 ?_
    have hb4 : _ ≤ M 1 10 ∧ M 1 10 ≤ _ := tv_callers hT (Or.inl rfl)
    exact hret _ _ _ _ _ dX6_counted_71 (⟨congrArg sI ((if_neg (by first | omega | (simp only [Int.toNat_natCast]; omega))).trans (if_pos (by first | omega | (simp only [Int.toNat_natCast]; omega)))).symm, rfl, rfl⟩)
  by_cases hs5 : w = 2
  · refine at_tsw C dX6_counted_1 (⟨by omega, by omega⟩) 72 (Or.inr ⟨by omega, by omega, 71, by rw [hs5]; rfl, by decide⟩) ?_
    refine at_aload_n C 0 dX6_counted_72 rfl ?_
    refine at_getf (v := .ref (G.1 (1))) C (obj_Sho G) (ci := 6) rfl inX6 (slot := 0) (by decide) qw_249 rfl rfl dX6_counted_73 ?_
    refine at_getf (v := .ref (G.1 (6))) C (obj_Bea G (Or.inl rfl)) (ci := 0) rfl inX0 (slot := 4) (by decide) qw_95 rfl rfl dX6_counted_76 ?_
    refine at_getf (v := .int (sI (M 6 4))) C ((isMo_now G (Or.inl rfl)).1) (ci := 1) rfl inX1 (slot := 4) (by decide) qw_51 rfl rfl dX6_counted_79 ?_
    have hb6 : _ ≤ M 6 4 ∧ M 6 4 ≤ _ := tv_tide hT (Or.inl rfl)
    exact hret _ _ _ _ _ dX6_counted_82 (⟨congrArg sI (((if_neg (by first | omega | (simp only [Int.toNat_natCast]; omega))).trans (if_neg (by first | omega | (simp only [Int.toNat_natCast]; omega)))).trans (if_pos (by first | omega | (simp only [Int.toNat_natCast]; omega)))).symm, rfl, rfl⟩)
  by_cases hs7 : w = 3
  · refine at_tsw C dX6_counted_1 (⟨by omega, by omega⟩) 83 (Or.inr ⟨by omega, by omega, 82, by rw [hs7]; rfl, by decide⟩) ?_
    refine at_aload_n C 0 dX6_counted_83 rfl ?_
    refine at_getf (v := .ref (G.1 (1))) C (obj_Sho G) (ci := 6) rfl inX6 (slot := 0) (by decide) qw_249 rfl rfl dX6_counted_84 ?_
    refine at_call_i C (c_X0_adriftCount l D G (Or.inl rfl) hT) (As := []) (obj_Bea G (Or.inl rfl)) (ci := 0) rfl qw_561 qw_558 qw_2 qw_559 qw_560 ⟨by decide, by decide, show (parseMethodDescriptor yX0_adriftCount.desc).map (fun d => d.parameters.length) = some 0 by decide +kernel⟩ ⟨by decide, by decide⟩ ⟨Nat.zero_le _, Nat.zero_le _⟩ (Nat.le_of_ble_eq_true rfl) dX6_counted_87 rfl (fun r M' L' hp8 => ?_)
    obtain ⟨rfl, rfl, rfl⟩ := hp8
    exact hret _ _ _ _ _ dX6_counted_90 (⟨congrArg sI ((((if_neg (by first | omega | (simp only [Int.toNat_natCast]; omega))).trans (if_neg (by first | omega | (simp only [Int.toNat_natCast]; omega)))).trans (if_neg (by first | omega | (simp only [Int.toNat_natCast]; omega)))).trans (if_pos (by first | omega | (simp only [Int.toNat_natCast]; omega)))).symm, rfl, rfl⟩)
  by_cases hs9 : w = 4
  · refine at_tsw C dX6_counted_1 (⟨by omega, by omega⟩) 91 (Or.inr ⟨by omega, by omega, 90, by rw [hs9]; rfl, by decide⟩) ?_
    refine at_aload_n C 0 dX6_counted_91 rfl ?_
    refine at_getf (v := .ref (G.1 (1))) C (obj_Sho G) (ci := 6) rfl inX6 (slot := 0) (by decide) qw_249 rfl rfl dX6_counted_92 ?_
    refine at_call_i C (c_X0_shelfCount l D G (Or.inl rfl) hT) (As := []) (obj_Bea G (Or.inl rfl)) (ci := 0) rfl qw_860 qw_857 qw_2 qw_858 qw_859 ⟨by decide, by decide, show (parseMethodDescriptor yX0_shelfCount.desc).map (fun d => d.parameters.length) = some 0 by decide +kernel⟩ ⟨by decide, by decide⟩ ⟨Nat.zero_le _, Nat.zero_le _⟩ (Nat.le_of_ble_eq_true rfl) dX6_counted_95 rfl (fun r M' L' hp10 => ?_)
    obtain ⟨rfl, rfl, rfl⟩ := hp10
    exact hret _ _ _ _ _ dX6_counted_98 (⟨congrArg sI (((((if_neg (by first | omega | (simp only [Int.toNat_natCast]; omega))).trans (if_neg (by first | omega | (simp only [Int.toNat_natCast]; omega)))).trans (if_neg (by first | omega | (simp only [Int.toNat_natCast]; omega)))).trans (if_neg (by first | omega | (simp only [Int.toNat_natCast]; omega)))).trans (if_pos (by first | omega | (simp only [Int.toNat_natCast]; omega)))).symm, rfl, rfl⟩)
  by_cases hs11 : w = 5
  · refine at_tsw C dX6_counted_1 (⟨by omega, by omega⟩) 99 (Or.inr ⟨by omega, by omega, 98, by rw [hs11]; rfl, by decide⟩) ?_
    refine at_aload_n C 0 dX6_counted_99 rfl ?_
    refine at_getf (v := .ref (G.1 (1))) C (obj_Sho G) (ci := 6) rfl inX6 (slot := 0) (by decide) qw_249 rfl rfl dX6_counted_100 ?_
    refine at_getf (v := .ref (G.1 (6))) C (obj_Bea G (Or.inl rfl)) (ci := 0) rfl inX0 (slot := 4) (by decide) qw_95 rfl rfl dX6_counted_103 ?_
    refine at_getf (v := .int (sI (M 6 3))) C ((isMo_now G (Or.inl rfl)).1) (ci := 1) rfl inX1 (slot := 3) (by decide) qw_48 rfl rfl dX6_counted_106 ?_
    have hb12 : _ ≤ M 6 3 ∧ M 6 3 ≤ _ := tv_comber hT (Or.inl rfl)
    exact hret _ _ _ _ _ dX6_counted_109 (⟨congrArg sI ((((((if_neg (by first | omega | (simp only [Int.toNat_natCast]; omega))).trans (if_neg (by first | omega | (simp only [Int.toNat_natCast]; omega)))).trans (if_neg (by first | omega | (simp only [Int.toNat_natCast]; omega)))).trans (if_neg (by first | omega | (simp only [Int.toNat_natCast]; omega)))).trans (if_neg (by first | omega | (simp only [Int.toNat_natCast]; omega)))).trans (if_pos (by first | omega | (simp only [Int.toNat_natCast]; omega)))).symm, rfl, rfl⟩)
  by_cases hs13 : w = 6
  · refine at_tsw C dX6_counted_1 (⟨by omega, by omega⟩) 110 (Or.inr ⟨by omega, by omega, 109, by rw [hs13]; rfl, by decide⟩) ?_
    refine at_aload_n C 0 dX6_counted_110 rfl ?_
    refine at_getf (v := .ref (G.1 (1))) C (obj_Sho G) (ci := 6) rfl inX6 (slot := 0) (by decide) qw_249 rfl rfl dX6_counted_111 ?_
    refine at_getf (v := .ref (G.1 (11))) C (obj_Bea G (Or.inl rfl)) (ci := 0) rfl inX0 (slot := 6) (by decide) qw_99 rfl rfl dX6_counted_114 ?_
    refine at_getf (v := .int (sI (M 11 3))) C ((isTa_sig G (Or.inl rfl)).1) (ci := 4) rfl inX4 (slot := 3) (by decide) qw_75 rfl rfl dX6_counted_117 ?_
    have hb14 : _ ≤ M 11 3 ∧ M 11 3 ≤ _ := tv hT (k := 11) (j := 3) (lo := 0) (hi := 5) (by first | rfl | (rw [rg_B (Or.inl rfl) (by omega)]; rfl))
    exact hret _ _ _ _ _ dX6_counted_120 (⟨congrArg sI (((((((if_neg (by first | omega | (simp only [Int.toNat_natCast]; omega))).trans (if_neg (by first | omega | (simp only [Int.toNat_natCast]; omega)))).trans (if_neg (by first | omega | (simp only [Int.toNat_natCast]; omega)))).trans (if_neg (by first | omega | (simp only [Int.toNat_natCast]; omega)))).trans (if_neg (by first | omega | (simp only [Int.toNat_natCast]; omega)))).trans (if_neg (by first | omega | (simp only [Int.toNat_natCast]; omega)))).trans (if_pos (by first | omega | (simp only [Int.toNat_natCast]; omega)))).symm, rfl, rfl⟩)
  by_cases hs15 : w = 7
  · refine at_tsw C dX6_counted_1 (⟨by omega, by omega⟩) 121 (Or.inr ⟨by omega, by omega, 120, by rw [hs15]; rfl, by decide⟩) ?_
    refine at_aload_n C 0 dX6_counted_121 rfl ?_
    refine at_getf (v := .ref (G.1 (1))) C (obj_Sho G) (ci := 6) rfl inX6 (slot := 0) (by decide) qw_249 rfl rfl dX6_counted_122 ?_
    refine at_getf (v := .ref (G.1 (13))) C (obj_Bea G (Or.inl rfl)) (ci := 0) rfl inX0 (slot := 7) (by decide) qw_101 rfl rfl dX6_counted_125 ?_
    refine at_getf (v := .int (sI (M 13 3))) C ((isTa_not G (Or.inl rfl)).1) (ci := 4) rfl inX4 (slot := 3) (by decide) qw_75 rfl rfl dX6_counted_128 ?_
    have hb16 : _ ≤ M 13 3 ∧ M 13 3 ≤ _ := tv hT (k := 13) (j := 3) (lo := 0) (hi := 6) (by first | rfl | (rw [rg_B (Or.inl rfl) (by omega)]; rfl))
    exact hret _ _ _ _ _ dX6_counted_131 (⟨congrArg sI ((((((((if_neg (by first | omega | (simp only [Int.toNat_natCast]; omega))).trans (if_neg (by first | omega | (simp only [Int.toNat_natCast]; omega)))).trans (if_neg (by first | omega | (simp only [Int.toNat_natCast]; omega)))).trans (if_neg (by first | omega | (simp only [Int.toNat_natCast]; omega)))).trans (if_neg (by first | omega | (simp only [Int.toNat_natCast]; omega)))).trans (if_neg (by first | omega | (simp only [Int.toNat_natCast]; omega)))).trans (if_neg (by first | omega | (simp only [Int.toNat_natCast]; omega)))).trans (if_pos (by first | omega | (simp only [Int.toNat_natCast]; omega)))).symm, rfl, rfl⟩)
  by_cases hs17 : w = 8
  · refine at_tsw C dX6_counted_1 (⟨by omega, by omega⟩) 132 (Or.inr ⟨by omega, by omega, 131, by rw [hs17]; rfl, by decide⟩) ?_
    refine at_aload_n C 0 dX6_counted_132 rfl ?_
    refine at_getf (v := .ref (G.1 (1))) C (obj_Sho G) (ci := 6) rfl inX6 (slot := 0) (by decide) qw_249 rfl rfl dX6_counted_133 ?_
    refine at_getf (v := .ref (G.1 (15))) C (obj_Bea G (Or.inl rfl)) (ci := 0) rfl inX0 (slot := 8) (by decide) qw_103 rfl rfl dX6_counted_136 ?_
    refine at_getf (v := .int (sI (M 15 3))) C ((isTa_mar G (Or.inl rfl)).1) (ci := 4) rfl inX4 (slot := 3) (by decide) qw_75 rfl rfl dX6_counted_139 ?_
    have hb18 : _ ≤ M 15 3 ∧ M 15 3 ≤ _ := tv hT (k := 15) (j := 3) (lo := 0) (hi := 6) (by first | rfl | (rw [rg_B (Or.inl rfl) (by omega)]; rfl))
    exact hret _ _ _ _ _ dX6_counted_142 (⟨congrArg sI (((((((((if_neg (by first | omega | (simp only [Int.toNat_natCast]; omega))).trans (if_neg (by first | omega | (simp only [Int.toNat_natCast]; omega)))).trans (if_neg (by first | omega | (simp only [Int.toNat_natCast]; omega)))).trans (if_neg (by first | omega | (simp only [Int.toNat_natCast]; omega)))).trans (if_neg (by first | omega | (simp only [Int.toNat_natCast]; omega)))).trans (if_neg (by first | omega | (simp only [Int.toNat_natCast]; omega)))).trans (if_neg (by first | omega | (simp only [Int.toNat_natCast]; omega)))).trans (if_neg (by first | omega | (simp only [Int.toNat_natCast]; omega)))).trans (if_pos (by first | omega | (simp only [Int.toNat_natCast]; omega)))).symm, rfl, rfl⟩)
  by_cases hs19 : w = 9
  · refine at_tsw C dX6_counted_1 (⟨by omega, by omega⟩) 143 (Or.inr ⟨by omega, by omega, 142, by rw [hs19]; rfl, by decide⟩) ?_
    refine at_aload_n C 0 dX6_counted_143 rfl ?_
    refine at_getf (v := .ref (G.1 (1))) C (obj_Sho G) (ci := 6) rfl inX6 (slot := 0) (by decide) qw_249 rfl rfl dX6_counted_144 ?_
    refine at_getf (v := .int (sI (M 1 11))) C (obj_Bea G (Or.inl rfl)) (ci := 0) rfl inX0 (slot := 11) (by decide) qw_114 rfl rfl dX6_counted_147 ?_
    have hb20 : _ ≤ M 1 11 ∧ M 1 11 ≤ _ := tv_undos hT (Or.inl rfl)
    exact hret _ _ _ _ _ dX6_counted_150 (⟨congrArg sI ((((((((((if_neg (by first | omega | (simp only [Int.toNat_natCast]; omega))).trans (if_neg (by first | omega | (simp only [Int.toNat_natCast]; omega)))).trans (if_neg (by first | omega | (simp only [Int.toNat_natCast]; omega)))).trans (if_neg (by first | omega | (simp only [Int.toNat_natCast]; omega)))).trans (if_neg (by first | omega | (simp only [Int.toNat_natCast]; omega)))).trans (if_neg (by first | omega | (simp only [Int.toNat_natCast]; omega)))).trans (if_neg (by first | omega | (simp only [Int.toNat_natCast]; omega)))).trans (if_neg (by first | omega | (simp only [Int.toNat_natCast]; omega)))).trans (if_neg (by first | omega | (simp only [Int.toNat_natCast]; omega)))).trans (if_pos (by first | omega | (simp only [Int.toNat_natCast]; omega)))).symm, rfl, rfl⟩)
  refine at_tsw C dX6_counted_1 (⟨by omega, by omega⟩) 151 (Or.inl ⟨by omega, by decide⟩) ?_
  refine at_aload_n C 0 dX6_counted_151 rfl ?_
  refine at_getf (v := .ref (G.1 (195))) C (obj_Sho G) (ci := 6) rfl inX6 (slot := 4) (by decide) qw_253 rfl rfl dX6_counted_152 ?_
  refine at_getf (v := .int (sI (M 195 2))) C (obj_Rea G) (ci := 3) rfl inX3 (slot := 2) (by decide) qw_153 rfl rfl dX6_counted_155 ?_
  have hb21 : _ ≤ M 195 2 ∧ M 195 2 ≤ _ := tv hT (k := 195) (j := 2) rfl
  exact hret _ _ _ _ _ dX6_counted_158 (⟨congrArg sI ((((((((((if_neg (by first | omega | (simp only [Int.toNat_natCast]; omega))).trans (if_neg (by first | omega | (simp only [Int.toNat_natCast]; omega)))).trans (if_neg (by first | omega | (simp only [Int.toNat_natCast]; omega)))).trans (if_neg (by first | omega | (simp only [Int.toNat_natCast]; omega)))).trans (if_neg (by first | omega | (simp only [Int.toNat_natCast]; omega)))).trans (if_neg (by first | omega | (simp only [Int.toNat_natCast]; omega)))).trans (if_neg (by first | omega | (simp only [Int.toNat_natCast]; omega)))).trans (if_neg (by first | omega | (simp only [Int.toNat_natCast]; omega)))).trans (if_neg (by first | omega | (simp only [Int.toNat_natCast]; omega)))).trans (if_neg (by first | omega | (simp only [Int.toNat_natCast]; omega)))).symm, rfl, rfl⟩)

set_option maxHeartbeats 4000000 in
set_option maxRecDepth 100000 in
theorem c_X6_count (l : Launch) (D : va_G) (G : sG) {M : sM} {L : sL} (w : Int) (hwr : InR w) (hT : TInv M) (hc : sCt M) : sKi l D G yX6_count cX6_count 2 .int 3 64 [.ref (G.1 (0)), .int (sI (w))] M L (fun r M' L' => r = sI (rCount M w) ∧ M' = mB M (0 ≤ w ∧ w ≤ 10) ∧ TInv M' ∧ L = L') := by
  refine sKi_go (by decide) (Nat.le_of_ble_eq_true rfl) ?_
  intro zp ze zs zm za zb zt zc Q C hret
  refine at_eq (lv' := [(0, .ref (G.1 (0))), (1, .int (sI (w)))]) (st' := []) (M' := M) (L' := L) ?_ rfl rfl rfl rfl
  refine at_iload_n C 1 dX6_count_0 rfl ?_
  refine at_iconst C dX6_count_1 ?_
  refine at_bipush C dX6_count_2 (by decide) (by decide) ?_
  refine at_stat_i C (c_X6_within l D G w 0 10 ⟨by omega, by omega⟩ ⟨by omega, by omega⟩ ⟨by omega, by omega⟩) (As := [.int (sI (w)), .int (sI (0)), .int (sI (10))]) qw_307 qw_305 qw_1 qw_306 ⟨by decide, by decide, show (parseMethodDescriptor yX6_within.desc).map (fun d => d.parameters.length) = some 3 by decide +kernel⟩ ⟨by decide, by decide⟩ ⟨Nat.zero_le _, Nat.zero_le _⟩ (Nat.le_of_ble_eq_true rfl) dX6_count_4 rfl (fun r M' L' hp1 => ?_)
  obtain ⟨rfl, rfl, rfl⟩ := hp1
  refine at_if_neB C 17 dX6_count_7 (by decide) (fun h2 => ?_) (fun h2 => ?_)
  · refine at_aload_n C 0 dX6_count_17 rfl ?_
    refine at_iload_n C 1 dX6_count_18 rfl ?_
    refine at_call_i C (c_X6_counted l D G w ⟨by omega, by omega⟩ hT) (As := [.int (sI (w))]) (obj_Sho G) (ci := 6) rfl qw_856 qw_853 qw_1 qw_855 qp_31 ⟨by decide, by decide, show (parseMethodDescriptor yX6_counted.desc).map (fun d => d.parameters.length) = some 1 by decide +kernel⟩ ⟨by decide, by decide⟩ ⟨Nat.zero_le _, Nat.zero_le _⟩ (Nat.le_of_ble_eq_true rfl) dX6_count_19 rfl (fun r M' L' hp3 => ?_)
    obtain ⟨rfl, rfl, rfl⟩ := hp3
    exact hret _ _ _ _ _ dX6_count_22 (⟨congrArg sI (if_pos (by first | omega | (simp only [Int.toNat_natCast]; omega))).symm, (if_pos (by omega)).symm, hT, rfl⟩)
  · refine at_aload_n C 0 dX6_count_10 rfl ?_
    refine at_bipush C dX6_count_11 (by decide) (by decide) ?_
    refine at_call_i C (c_X6_refuseBad l D G (-2) hT ⟨by omega, by omega, by omega⟩) (As := [.int (sI (-2))]) (obj_Sho G) (ci := 6) rfl qw_311 qw_308 qw_1 qw_310 qp_0 ⟨by decide, by decide, show (parseMethodDescriptor yX6_refuseBad.desc).map (fun d => d.parameters.length) = some 1 by decide +kernel⟩ ⟨by decide, by decide⟩ ⟨Nat.zero_le _, Nat.zero_le _⟩ (Nat.le_of_ble_eq_true rfl) dX6_count_13 rfl (fun r M' L' hp5 => ?_)
    obtain ⟨rfl, rfl, hT4, rfl⟩ := hp5
    exact hret _ _ _ _ _ dX6_count_16 (⟨congrArg sI (if_neg (by first | omega | (simp only [Int.toNat_natCast]; omega))).symm, (if_neg (by omega)).symm, hT4, rfl⟩)

set_option maxHeartbeats 4000000 in
set_option maxRecDepth 100000 in
theorem c_X6_image (l : Launch) (D : va_G) (G : sG) {M : sM} {L : sL} (i : Int) (hir : InR i) (hT : TInv M) (hc : sCt M) : sKi l D G yX6_image cX6_image 2 .int 3 83 [.ref (G.1 (0)), .int (sI (i))] M L (fun r M' L' => r = sI (rImage i) ∧ M' = mImage M i ∧ TInv M' ∧ L = L') := by
  refine sKi_go (by decide) (Nat.le_of_ble_eq_true rfl) ?_
  intro zp ze zs zm za zb zt zc Q C hret
  refine at_eq (lv' := [(0, .ref (G.1 (0))), (1, .int (sI (i)))]) (st' := []) (M' := M) (L' := L) ?_ rfl rfl rfl rfl
  have him : i = 0 ∨ i ≠ 0 := by omega
  refine at_iload_n C 1 dX6_image_0 rfl ?_
  refine at_iconst C dX6_image_1 ?_
  refine at_iconst C dX6_image_2 ?_
  refine at_stat_i C (c_X6_within l D G i 0 1 ⟨by omega, by omega⟩ ⟨by omega, by omega⟩ ⟨by omega, by omega⟩) (As := [.int (sI (i)), .int (sI (0)), .int (sI (1))]) qw_307 qw_305 qw_1 qw_306 ⟨by decide, by decide, show (parseMethodDescriptor yX6_within.desc).map (fun d => d.parameters.length) = some 3 by decide +kernel⟩ ⟨by decide, by decide⟩ ⟨Nat.zero_le _, Nat.zero_le _⟩ (Nat.le_of_ble_eq_true rfl) dX6_image_3 rfl (fun r M' L' hp1 => ?_)
  obtain ⟨rfl, rfl, rfl⟩ := hp1
  refine at_if_neB C 16 dX6_image_6 (by decide) (fun h2 => ?_) (fun h2 => ?_)
  · obtain ⟨n, rfl⟩ : ∃ n : Nat, i = (n : Int) := ⟨i.toNat, by omega⟩
    have hio : isB (imO (n : Int)) := by unfold imO; split; exact Or.inr (Or.inr (Or.inl rfl)); exact Or.inr (Or.inr (Or.inr (Or.inl rfl)))
    have hi1 : imO (n : Int) = 98 + 48 * n := by unfold imO; split <;> omega
    refine at_aload_n C 0 dX6_image_16 rfl ?_
    refine at_getf (v := .ref (G.1 (97))) C (obj_Sho G) (ci := 6) rfl inX6 (slot := 2) (by decide) qw_251 rfl rfl dX6_image_17 ?_
    refine at_iload_n C 1 dX6_image_20 rfl ?_
    refine at_aaldX (f := fun i => some (G.1 (98 + 48 * i))) (b := (imO (n : Int))) (n := 2) C n (by decide) (by decide) (fun r q => rfl) (rfl) (by omega) (by rw [hi1]) dX6_image_21 ?_
    refine at_aload_n C 0 dX6_image_22 rfl ?_
    refine at_getf (v := .ref (G.1 (1))) C (obj_Sho G) (ci := 6) rfl inX6 (slot := 0) (by decide) qw_249 rfl rfl dX6_image_23 ?_
    refine at_call_v C (c_X0_copy l D G hio (Or.inl rfl) (by omega) hT) (As := [.ref (G.1 (1))]) (obj_Bea G hio) (ci := 0) rfl qw_534 qw_531 qw_2 qw_532 qw_533 ⟨by decide, by decide, show (parseMethodDescriptor yX0_copy.desc).map (fun d => d.parameters.length) = some 1 by decide +kernel⟩ ⟨by decide, by decide⟩ ⟨Nat.zero_le _, Nat.zero_le _⟩ (Nat.le_of_ble_eq_true rfl) dX6_image_26 rfl (fun M' L' hp4 => ?_)
    obtain ⟨rfl, hT3, rfl⟩ := hp4
    refine at_aload_n C 0 dX6_image_29 rfl ?_
    refine at_getf (v := .ref (G.1 (194))) C (obj_Sho G) (ci := 6) rfl inX6 (slot := 3) (by decide) qw_252 rfl rfl dX6_image_30 ?_
    refine at_iload_n C 1 dX6_image_33 rfl ?_
    refine at_iconst C dX6_image_34 ?_
    refine at_zast1 C n (arZ_kept G) (rfl) (by omega) dX6_image_35 ?_
    have hT5 : TInv (sSt (bCpy M (imO (n : Int)) 1) 194 n 1) := tv_st hT3 (k := 194) rfl (⟨by omega, by omega⟩)
    refine at_iconst C dX6_image_36 ?_
    exact hret _ _ _ _ _ dX6_image_37 (⟨congrArg sI (if_pos (by first | omega | (simp only [Int.toNat_natCast]; omega))).symm, (if_pos (by first | omega | (simp only [Int.toNat_natCast]; omega))).symm, hT5, rfl⟩)
  · refine at_aload_n C 0 dX6_image_9 rfl ?_
    refine at_bipush C dX6_image_10 (by decide) (by decide) ?_
    refine at_call_i C (c_X6_refuseBad l D G (-2) hT ⟨by omega, by omega, by omega⟩) (As := [.int (sI (-2))]) (obj_Sho G) (ci := 6) rfl qw_311 qw_308 qw_1 qw_310 qp_0 ⟨by decide, by decide, show (parseMethodDescriptor yX6_refuseBad.desc).map (fun d => d.parameters.length) = some 1 by decide +kernel⟩ ⟨by decide, by decide⟩ ⟨Nat.zero_le _, Nat.zero_le _⟩ (Nat.le_of_ble_eq_true rfl) dX6_image_12 rfl (fun r M' L' hp7 => ?_)
    obtain ⟨rfl, rfl, hT6, rfl⟩ := hp7
    exact hret _ _ _ _ _ dX6_image_15 (⟨congrArg sI (if_neg (by first | omega | (simp only [Int.toNat_natCast]; omega))).symm, (if_neg (by first | omega | (simp only [Int.toNat_natCast]; omega))).symm, hT6, rfl⟩)

set_option maxHeartbeats 4000000 in
set_option maxRecDepth 100000 in
theorem c_X6_from (l : Launch) (D : va_G) (G : sG) {M : sM} {L : sL} (i : Int) (hir : InR i) (hT : TInv M) (hc : sCt M) : sKi l D G yX6_from cX6_from 2 .int 3 83 [.ref (G.1 (0)), .int (sI (i))] M L (fun r M' L' => r = sI (rFrom M i) ∧ M' = mFrom M i ∧ TInv M' ∧ L = L') := by
  refine sKi_go (by decide) (Nat.le_of_ble_eq_true rfl) ?_
  intro zp ze zs zm za zb zt zc Q C hret
  refine at_eq (lv' := [(0, .ref (G.1 (0))), (1, .int (sI (i)))]) (st' := []) (M' := M) (L' := L) ?_ rfl rfl rfl rfl
  refine at_iload_n C 1 dX6_from_0 rfl ?_
  refine at_iconst C dX6_from_1 ?_
  refine at_iconst C dX6_from_2 ?_
  refine at_stat_i C (c_X6_within l D G i 0 1 ⟨by omega, by omega⟩ ⟨by omega, by omega⟩ ⟨by omega, by omega⟩) (As := [.int (sI (i)), .int (sI (0)), .int (sI (1))]) qw_307 qw_305 qw_1 qw_306 ⟨by decide, by decide, show (parseMethodDescriptor yX6_within.desc).map (fun d => d.parameters.length) = some 3 by decide +kernel⟩ ⟨by decide, by decide⟩ ⟨Nat.zero_le _, Nat.zero_le _⟩ (Nat.le_of_ble_eq_true rfl) dX6_from_3 rfl (fun r M' L' hp1 => ?_)
  obtain ⟨rfl, rfl, rfl⟩ := hp1
  refine at_if_neB C 16 dX6_from_6 (by decide) (fun h2 => ?_) (fun h2 => ?_)
  · obtain ⟨n, rfl⟩ : ∃ n : Nat, i = (n : Int) := ⟨i.toNat, by omega⟩
    have hio : isB (imO (n : Int)) := by unfold imO; split; exact Or.inr (Or.inr (Or.inl rfl)); exact Or.inr (Or.inr (Or.inr (Or.inl rfl)))
    have hi1 : imO (n : Int) = 98 + 48 * n := by unfold imO; split <;> omega
    refine at_aload_n C 0 dX6_from_16 rfl ?_
    refine at_getf (v := .ref (G.1 (194))) C (obj_Sho G) (ci := 6) rfl inX6 (slot := 3) (by decide) qw_252 rfl rfl dX6_from_17 ?_
    refine at_iload_n C 1 dX6_from_20 rfl ?_
    refine at_zald C n (arZ_kept G) (rfl) (by omega) dX6_from_21 ?_
    have hb3 := tv hT (k := 194) (j := n) rfl
    refine at_if_ne C 30 dX6_from_22 (by decide) (⟨by omega, by omega⟩) (fun h4 => ?_) (fun h4 => ?_)
    · refine at_aload_n C 0 dX6_from_30 rfl ?_
      refine at_getf (v := .ref (G.1 (1))) C (obj_Sho G) (ci := 6) rfl inX6 (slot := 0) (by decide) qw_249 rfl rfl dX6_from_31 ?_
      refine at_aload_n C 0 dX6_from_34 rfl ?_
      refine at_getf (v := .ref (G.1 (97))) C (obj_Sho G) (ci := 6) rfl inX6 (slot := 2) (by decide) qw_251 rfl rfl dX6_from_35 ?_
      refine at_iload_n C 1 dX6_from_38 rfl ?_
      refine at_aaldX (f := fun i => some (G.1 (98 + 48 * i))) (b := (imO (n : Int))) (n := 2) C n (by decide) (by decide) (fun r q => rfl) (rfl) (by omega) (by rw [hi1]) dX6_from_39 ?_
      refine at_call_v C (c_X0_copy l D G (Or.inl rfl) hio (by omega) hT) (As := [.ref (G.1 ((imO (n : Int))))]) (obj_Bea G (Or.inl rfl)) (ci := 0) rfl qw_534 qw_531 qw_2 qw_532 qw_533 ⟨by decide, by decide, show (parseMethodDescriptor yX0_copy.desc).map (fun d => d.parameters.length) = some 1 by decide +kernel⟩ ⟨by decide, by decide⟩ ⟨Nat.zero_le _, Nat.zero_le _⟩ (Nat.le_of_ble_eq_true rfl) dX6_from_40 rfl (fun M' L' hp6 => ?_)
      obtain ⟨rfl, hT5, rfl⟩ := hp6
      refine at_iconst C dX6_from_43 ?_
      exact hret _ _ _ _ _ dX6_from_44 (⟨congrArg sI ((if_pos (by first | omega | (simp only [Int.toNat_natCast]; omega))).trans (if_neg (by first | omega | (simp only [Int.toNat_natCast]; omega)))).symm, ((if_pos (by first | omega | (simp only [Int.toNat_natCast]; omega))).trans (if_neg (by first | omega | (simp only [Int.toNat_natCast]; omega)))).symm, hT5, rfl⟩)
    · refine at_aload_n C 0 dX6_from_25 rfl ?_
      refine at_call_i C (c_X6_refuseNo l D G hT ⟨by omega, by omega, by omega⟩) (As := []) (obj_Sho G) (ci := 6) rfl qw_569 qw_566 qw_1 qw_568 qp_16 ⟨by decide, by decide, show (parseMethodDescriptor yX6_refuseNo.desc).map (fun d => d.parameters.length) = some 0 by decide +kernel⟩ ⟨by decide, by decide⟩ ⟨Nat.zero_le _, Nat.zero_le _⟩ (Nat.le_of_ble_eq_true rfl) dX6_from_26 rfl (fun r M' L' hp8 => ?_)
      obtain ⟨rfl, rfl, hT7, rfl⟩ := hp8
      exact hret _ _ _ _ _ dX6_from_29 (⟨congrArg sI ((if_pos (by first | omega | (simp only [Int.toNat_natCast]; omega))).trans (if_pos (by first | omega | (simp only [Int.toNat_natCast]; omega)))).symm, ((if_pos (by first | omega | (simp only [Int.toNat_natCast]; omega))).trans (if_pos (by first | omega | (simp only [Int.toNat_natCast]; omega)))).symm, hT7, rfl⟩)
  · refine at_aload_n C 0 dX6_from_9 rfl ?_
    refine at_bipush C dX6_from_10 (by decide) (by decide) ?_
    refine at_call_i C (c_X6_refuseBad l D G (-2) hT ⟨by omega, by omega, by omega⟩) (As := [.int (sI (-2))]) (obj_Sho G) (ci := 6) rfl qw_311 qw_308 qw_1 qw_310 qp_0 ⟨by decide, by decide, show (parseMethodDescriptor yX6_refuseBad.desc).map (fun d => d.parameters.length) = some 1 by decide +kernel⟩ ⟨by decide, by decide⟩ ⟨Nat.zero_le _, Nat.zero_le _⟩ (Nat.le_of_ble_eq_true rfl) dX6_from_12 rfl (fun r M' L' hp10 => ?_)
    obtain ⟨rfl, rfl, hT9, rfl⟩ := hp10
    exact hret _ _ _ _ _ dX6_from_15 (⟨congrArg sI (if_neg (by first | omega | (simp only [Int.toNat_natCast]; omega))).symm, (if_neg (by first | omega | (simp only [Int.toNat_natCast]; omega))).symm, hT9, rfl⟩)
