set_option maxHeartbeats 4000000 in
set_option maxRecDepth 100000 in
theorem c_X7_bad (l : Launch) (D : va_G) (G : sG) {M : sM} {L : sL} (hT : TInv M) (hc : qCt M) : sKi l D G yX7_bad cX7_bad 1 .int 0 0 [.ref (G.1 (258))] M L (fun r M' L' => r = sI (-2) ∧ M' = qBad M ∧ TInv M' ∧ L = L') := by
  refine sKi_go (by decide) (Nat.le_of_ble_eq_true rfl) ?_
  intro zp ze zs zm za zb zt zc Q C hret
  refine at_eq (lv' := [(0, .ref (G.1 (258)))]) (st' := []) (M' := M) (L' := L) ?_ rfl rfl rfl rfl
  have hqn := qn_r hT
  have hqc := qc_r hT
  have hqu := qu_r hT
  have hqt := qt_r hT
  have hqs := qs_r hT
  have hqo := qo_r hT
  have hqm := qm_r hT
  refine at_aload_n C 0 dX7_bad_0 rfl ?_
  refine at_getf (v := .ref (G.1 (259))) C (obj_Ref G) (ci := 7) rfl inX7 (slot := 0) (by decide) qw_882 rfl rfl dX7_bad_1 ?_
  refine at_iconst C dX7_bad_4 ?_
  refine at_dup2 C dX7_bad_5 rfl rfl ?_
  refine at_iald C 0 (ar_259 G) (rfl) (by omega) dX7_bad_6 ?_
  have hb1 : _ ≤ M 259 0 ∧ M 259 0 ≤ _ := tv hT (k := 259) (j := 0) rfl
  refine at_iconst C dX7_bad_7 ?_
  refine at_iadd C dX7_bad_8 ?_
  refine at_iast C 0 (ar_259 G) (rfl) (by omega) dX7_bad_9 ?_
  have hT2 : TInv (sSt M 259 0 ((M 259 0) + 1)) := tv_st hT (k := 259) rfl (⟨by omega, by omega⟩)
  refine at_bipush C dX7_bad_10 (by decide) (by decide) ?_
  exact hret _ _ _ _ _ dX7_bad_12 (⟨rfl, rfl, hT2, rfl⟩)

set_option maxHeartbeats 4000000 in
set_option maxRecDepth 100000 in
theorem c_X7_no (l : Launch) (D : va_G) (G : sG) {M : sM} {L : sL} (hT : TInv M) (hc : qCt M) : sKi l D G yX7_no cX7_no 1 .int 0 0 [.ref (G.1 (258))] M L (fun r M' L' => r = sI (-3) ∧ M' = qNo M ∧ TInv M' ∧ L = L') := by
  refine sKi_go (by decide) (Nat.le_of_ble_eq_true rfl) ?_
  intro zp ze zs zm za zb zt zc Q C hret
  refine at_eq (lv' := [(0, .ref (G.1 (258)))]) (st' := []) (M' := M) (L' := L) ?_ rfl rfl rfl rfl
  have hqn := qn_r hT
  have hqc := qc_r hT
  have hqu := qu_r hT
  have hqt := qt_r hT
  have hqs := qs_r hT
  have hqo := qo_r hT
  have hqm := qm_r hT
  refine at_aload_n C 0 dX7_no_0 rfl ?_
  refine at_getf (v := .ref (G.1 (259))) C (obj_Ref G) (ci := 7) rfl inX7 (slot := 0) (by decide) qw_882 rfl rfl dX7_no_1 ?_
  refine at_iconst C dX7_no_4 ?_
  refine at_dup2 C dX7_no_5 rfl rfl ?_
  refine at_iald C 1 (ar_259 G) (rfl) (by omega) dX7_no_6 ?_
  have hb1 : _ ≤ M 259 1 ∧ M 259 1 ≤ _ := tv hT (k := 259) (j := 1) rfl
  refine at_iconst C dX7_no_7 ?_
  refine at_iadd C dX7_no_8 ?_
  refine at_iast C 1 (ar_259 G) (rfl) (by omega) dX7_no_9 ?_
  have hT2 : TInv (sSt M 259 1 ((M 259 1) + 1)) := tv_st hT (k := 259) rfl (⟨by omega, by omega⟩)
  refine at_bipush C dX7_no_10 (by decide) (by decide) ?_
  exact hret _ _ _ _ _ dX7_no_12 (⟨rfl, rfl, hT2, rfl⟩)

set_option maxHeartbeats 4000000 in
set_option maxRecDepth 100000 in
theorem c_X7_full (l : Launch) (D : va_G) (G : sG) {M : sM} {L : sL} (hT : TInv M) (hc : qCt M) : sKi l D G yX7_full cX7_full 1 .int 0 0 [.ref (G.1 (258))] M L (fun r M' L' => r = sI (-4) ∧ M' = qFul M ∧ TInv M' ∧ L = L') := by
  refine sKi_go (by decide) (Nat.le_of_ble_eq_true rfl) ?_
  intro zp ze zs zm za zb zt zc Q C hret
  refine at_eq (lv' := [(0, .ref (G.1 (258)))]) (st' := []) (M' := M) (L' := L) ?_ rfl rfl rfl rfl
  have hqn := qn_r hT
  have hqc := qc_r hT
  have hqu := qu_r hT
  have hqt := qt_r hT
  have hqs := qs_r hT
  have hqo := qo_r hT
  have hqm := qm_r hT
  refine at_aload_n C 0 dX7_full_0 rfl ?_
  refine at_getf (v := .ref (G.1 (259))) C (obj_Ref G) (ci := 7) rfl inX7 (slot := 0) (by decide) qw_882 rfl rfl dX7_full_1 ?_
  refine at_iconst C dX7_full_4 ?_
  refine at_dup2 C dX7_full_5 rfl rfl ?_
  refine at_iald C 2 (ar_259 G) (rfl) (by omega) dX7_full_6 ?_
  have hb1 : _ ≤ M 259 2 ∧ M 259 2 ≤ _ := tv hT (k := 259) (j := 2) rfl
  refine at_iconst C dX7_full_7 ?_
  refine at_iadd C dX7_full_8 ?_
  refine at_iast C 2 (ar_259 G) (rfl) (by omega) dX7_full_9 ?_
  have hT2 : TInv (sSt M 259 2 ((M 259 2) + 1)) := tv_st hT (k := 259) rfl (⟨by omega, by omega⟩)
  refine at_bipush C dX7_full_10 (by decide) (by decide) ?_
  exact hret _ _ _ _ _ dX7_full_12 (⟨rfl, rfl, hT2, rfl⟩)

set_option maxHeartbeats 4000000 in
set_option maxRecDepth 100000 in
theorem c_X7_tenBad (l : Launch) (D : va_G) (G : sG) {M : sM} {L : sL} (hT : TInv M) (hc : qCt M) : sKi l D G yX7_tenBad cX7_tenBad 1 .int 1 20 [.ref (G.1 (258))] M L (fun r M' L' => r = sI (-10) ∧ M' = qBad M ∧ TInv M' ∧ L = L') := by
  refine sKi_go (by decide) (Nat.le_of_ble_eq_true rfl) ?_
  intro zp ze zs zm za zb zt zc Q C hret
  refine at_eq (lv' := [(0, .ref (G.1 (258)))]) (st' := []) (M' := M) (L' := L) ?_ rfl rfl rfl rfl
  have hqn := qn_r hT
  have hqc := qc_r hT
  have hqu := qu_r hT
  have hqt := qt_r hT
  have hqs := qs_r hT
  have hqo := qo_r hT
  have hqm := qm_r hT
  refine at_aload_n C 0 dX7_tenBad_0 rfl ?_
  refine at_call_i C (c_X7_bad l D G hT ⟨by omega, by omega, by omega⟩) (As := []) (obj_Ref G) (ci := 7) rfl qw_1012 qw_1009 qw_8 qw_1011 qp_34 ⟨by decide, by decide, show (parseMethodDescriptor yX7_bad.desc).map (fun d => d.parameters.length) = some 0 by decide +kernel⟩ ⟨by decide, by decide⟩ ⟨Nat.zero_le _, Nat.zero_le _⟩ (Nat.le_of_ble_eq_true rfl) dX7_tenBad_1 rfl (fun r M' L' hp2 => ?_)
  obtain ⟨rfl, rfl, hT1, rfl⟩ := hp2
  refine at_pop C dX7_tenBad_4 rfl ?_
  refine at_bipush C dX7_tenBad_5 (by decide) (by decide) ?_
  exact hret _ _ _ _ _ dX7_tenBad_7 (⟨rfl, rfl, hT1, rfl⟩)

set_option maxHeartbeats 4000000 in
set_option maxRecDepth 100000 in
theorem c_X7_begin (l : Launch) (D : va_G) (G : sG) {M : sM} {L : sL} (hT : TInv M) : sKv l D G yX7_begin cX7_begin 2 0 0 [.ref (G.1 (258))] M L (fun M' L' => M' = qBeg M ∧ TInv M' ∧ L = L') := by
  refine sKv_go (by decide) (Nat.le_of_ble_eq_true rfl) ?_
  intro zp ze zs zm za zb zt zc Q C hret
  refine at_eq (lv' := [(0, .ref (G.1 (258)))]) (st' := []) (M' := M) (L' := L) ?_ rfl rfl rfl rfl
  have hqn := qn_r hT
  have hqc := qc_r hT
  have hqu := qu_r hT
  have hqt := qt_r hT
  have hqs := qs_r hT
  have hqo := qo_r hT
  have hqm := qm_r hT
  refine at_aload_n C 0 dX7_begin_0 rfl ?_
  refine at_iconst C dX7_begin_1 ?_
  refine at_putM (slot := 1) (ty := .int) C tyX7 (obj_Ref G) (ci := 7) rfl inX7 tyX7_ok nmX7 (by decide) qw_883 rfl rfl (by decide +kernel) rfl rfl (Nat.le_of_ble_eq_true rfl) rfl dX7_begin_2 ?_
  have hT1 : TInv (sSt M 258 1 0) := tv_st hT (k := 258) (j := 1) rfl (⟨by omega, by omega⟩)
  refine at_aload_n C 0 dX7_begin_5 rfl ?_
  refine at_iconst C dX7_begin_6 ?_
  refine at_putM (slot := 2) (ty := .int) C tyX7 (obj_Ref G) (ci := 7) rfl inX7 tyX7_ok nmX7 (by decide) qw_884 rfl rfl (by decide +kernel) rfl rfl (Nat.le_of_ble_eq_true rfl) rfl dX7_begin_7 ?_
  have hT2 : TInv (sSt (sSt M 258 1 0) 258 2 0) := tv_st hT1 (k := 258) (j := 2) rfl (⟨by omega, by omega⟩)
  refine at_aload_n C 0 dX7_begin_10 rfl ?_
  refine at_iconst C dX7_begin_11 ?_
  refine at_putM (slot := 3) (ty := .int) C tyX7 (obj_Ref G) (ci := 7) rfl inX7 tyX7_ok nmX7 (by decide) qw_885 rfl rfl (by decide +kernel) rfl rfl (Nat.le_of_ble_eq_true rfl) rfl dX7_begin_12 ?_
  have hT3 : TInv (sSt (sSt (sSt M 258 1 0) 258 2 0) 258 3 0) := tv_st hT2 (k := 258) (j := 3) rfl (⟨by omega, by omega⟩)
  refine at_aload_n C 0 dX7_begin_15 rfl ?_
  refine at_iconst C dX7_begin_16 ?_
  refine at_putM (slot := 4) (ty := .int) C tyX7 (obj_Ref G) (ci := 7) rfl inX7 tyX7_ok nmX7 (by decide) qw_886 rfl rfl (by decide +kernel) rfl rfl (Nat.le_of_ble_eq_true rfl) rfl dX7_begin_17 ?_
  have hT4 : TInv (sSt (sSt (sSt (sSt M 258 1 0) 258 2 0) 258 3 0) 258 4 0) := tv_st hT3 (k := 258) (j := 4) rfl (⟨by omega, by omega⟩)
  refine at_aload_n C 0 dX7_begin_20 rfl ?_
  refine at_iconst C dX7_begin_21 ?_
  refine at_putM (slot := 5) (ty := .int) C tyX7 (obj_Ref G) (ci := 7) rfl inX7 tyX7_ok nmX7 (by decide) qw_887 rfl rfl (by decide +kernel) rfl rfl (Nat.le_of_ble_eq_true rfl) rfl dX7_begin_22 ?_
  have hT5 : TInv (sSt (sSt (sSt (sSt (sSt M 258 1 0) 258 2 0) 258 3 0) 258 4 0) 258 5 0) := tv_st hT4 (k := 258) (j := 5) rfl (⟨by omega, by omega⟩)
  refine at_aload_n C 0 dX7_begin_25 rfl ?_
  refine at_iconst C dX7_begin_26 ?_
  refine at_putM (slot := 6) (ty := .int) C tyX7 (obj_Ref G) (ci := 7) rfl inX7 tyX7_ok nmX7 (by decide) qw_888 rfl rfl (by decide +kernel) rfl rfl (Nat.le_of_ble_eq_true rfl) rfl dX7_begin_27 ?_
  have hT6 : TInv (sSt (sSt (sSt (sSt (sSt (sSt M 258 1 0) 258 2 0) 258 3 0) 258 4 0) 258 5 0) 258 6 0) := tv_st hT5 (k := 258) (j := 6) rfl (⟨by omega, by omega⟩)
  refine at_aload_n C 0 dX7_begin_30 rfl ?_
  refine at_iconst C dX7_begin_31 ?_
  refine at_putM (slot := 7) (ty := .int) C tyX7 (obj_Ref G) (ci := 7) rfl inX7 tyX7_ok nmX7 (by decide) qw_889 rfl rfl (by decide +kernel) rfl rfl (Nat.le_of_ble_eq_true rfl) rfl dX7_begin_32 ?_
  have hT7 : TInv (sSt (sSt (sSt (sSt (sSt (sSt (sSt M 258 1 0) 258 2 0) 258 3 0) 258 4 0) 258 5 0) 258 6 0) 258 7 0) := tv_st hT6 (k := 258) (j := 7) rfl (⟨by omega, by omega⟩)
  refine at_aload_n C 0 dX7_begin_35 rfl ?_
  refine at_iconst C dX7_begin_36 ?_
  refine at_putM (slot := 25) (ty := .int) C tyX7 (obj_Ref G) (ci := 7) rfl inX7 tyX7_ok nmX7 (by decide) qw_907 rfl rfl (by decide +kernel) rfl rfl (Nat.le_of_ble_eq_true rfl) rfl dX7_begin_37 ?_
  have hT8 : TInv (sSt (sSt (sSt (sSt (sSt (sSt (sSt (sSt M 258 1 0) 258 2 0) 258 3 0) 258 4 0) 258 5 0) 258 6 0) 258 7 0) 258 25 0) := tv_st hT7 (k := 258) (j := 25) rfl (⟨by omega, by omega⟩)
  refine at_iconst C dX7_begin_40 ?_
  refine at_istore_n C [(1, .int (sI (0))), (0, .ref (G.1 (258)))] dX7_begin_41 (by decide) rfl ?_
  have H42 : ∀ (fu : Nat) (k : Nat), 12 - k < fu → (k ≤ 12) → (TInv (qBgN M k)) → sAt zp l ze (sRm 0 0) zs zm za zb zt zc D G 2 0 0 Q 42 [(0, .ref (G.1 (258))), (1, .int (sI ((k : Int))))] [] (qBgN M k) L := by
    intro fu
    induction fu with
    | zero => intro k hd hk hTk; exact absurd hd (Nat.not_lt_zero _)
    | succ fu ih42 =>
      intro k hd42 hk hTk
      refine at_iload_n C 1 dX7_begin_42 rfl ?_
      refine at_bipush C dX7_begin_43 (by decide) (by decide) ?_
      refine at_icmp_ge C 61 dX7_begin_45 (by decide) (⟨by omega, by omega⟩) (⟨by omega, by omega⟩) (fun h9 => ?_) (fun h9 => ?_)
      · exact hret _ _ _ _ dX7_begin_61 (⟨by unfold qBeg; rw [show k = 12 by omega], hTk, rfl⟩)
      · refine at_aload_n C 0 dX7_begin_48 rfl ?_
        refine at_getf (v := .ref (G.1 (260))) C (obj_Ref G) (ci := 7) rfl inX7 (slot := 8) (by decide) qw_890 rfl rfl dX7_begin_49 ?_
        refine at_iload_n C 1 dX7_begin_52 rfl ?_
        refine at_iconst C dX7_begin_53 ?_
        refine at_iast C k (ar_260 G) (rfl) (by omega) dX7_begin_54 ?_
        have hT10 : TInv (sSt (qBgN M k) 260 k 0) := tv_st hTk (k := 260) rfl (⟨by omega, by omega⟩)
        refine at_iinc C 1 [(1, .int (sI ((k : Int) + 1))), (0, .ref (G.1 (258)))] dX7_begin_55 rfl (by decide) rfl ?_
        refine at_goto C 42 dX7_begin_58 (by decide) ?_
        refine at_lv [1, 0] rfl ?_
        exact at_eq (ih42 (k + 1) (by omega) (by omega) (by rw [← qBgN_s]; exact hT10)) (lvc_s (lvc_i (by omega) rfl)) rfl (qBgN_s M k) (rfl)
  refine at_lv [1, 0] rfl ?_
  exact at_eq (H42 _ 0 (Nat.lt_succ_self _) (by omega) ((qBgN_0 M) ▸ hT8)) (lvc_s (lvc_i (rfl) rfl)) rfl (qBgN_0 M) (rfl)

set_option maxHeartbeats 4000000 in
set_option maxRecDepth 100000 in
theorem c_X7_shore (l : Launch) (D : va_G) (G : sG) {M : sM} {L : sL} (hT : TInv M) : sKi l D G yX7_shore cX7_shore 2 .int 1 21 [.ref (G.1 (258))] M L (fun r M' L' => r = sI (M 258 1) ∧ M' = qBeg M ∧ TInv M' ∧ L = L') := by
  refine sKi_go (by decide) (Nat.le_of_ble_eq_true rfl) ?_
  intro zp ze zs zm za zb zt zc Q C hret
  refine at_eq (lv' := [(0, .ref (G.1 (258)))]) (st' := []) (M' := M) (L' := L) ?_ rfl rfl rfl rfl
  have hqn := qn_r hT
  have hqc := qc_r hT
  have hqu := qu_r hT
  have hqt := qt_r hT
  have hqs := qs_r hT
  have hqo := qo_r hT
  have hqm := qm_r hT
  refine at_aload_n C 0 dX7_shore_0 rfl ?_
  refine at_getf (v := .int (sI (M 258 1))) C (obj_Ref G) (ci := 7) rfl inX7 (slot := 1) (by decide) qw_883 rfl rfl dX7_shore_1 ?_
  have hb1 : _ ≤ M 258 1 ∧ M 258 1 ≤ _ := tv hT (k := 258) (j := 1) rfl
  refine at_ve (b := (((qn M) : Nat) : Int)) (hqn.2) ?_
  refine at_istore_n C [(1, .int (sI ((((qn M) : Nat) : Int)))), (0, .ref (G.1 (258)))] dX7_shore_4 (by decide) rfl ?_
  refine at_aload_n C 1 dX7_shore_5 rfl ?_
  refine at_call_v C (c_X7_begin l D G hT) (As := []) (obj_Ref G) (ci := 7) rfl qw_881 qw_878 qw_8 qw_880 qp_32 ⟨by decide, by decide, show (parseMethodDescriptor yX7_begin.desc).map (fun d => d.parameters.length) = some 0 by decide +kernel⟩ ⟨by decide, by decide⟩ ⟨Nat.zero_le _, Nat.zero_le _⟩ (Nat.le_of_ble_eq_true rfl) dX7_shore_6 rfl (fun M' L' hp3 => ?_)
  obtain ⟨rfl, hT2, rfl⟩ := hp3
  refine at_iload_n C 0 dX7_shore_9 rfl ?_
  exact hret _ _ _ _ _ dX7_shore_10 (⟨congrArg sI (by omega), rfl, hT2, rfl⟩)

set_option maxHeartbeats 4000000 in
set_option maxRecDepth 100000 in
theorem c_X7_current (l : Launch) (D : va_G) (G : sG) {M : sM} {L : sL} (c v : Int) (hcr : InR c) (hvr : InR v) (hT : TInv M) (hc : qCt M) : sKi l D G yX7_current cX7_current 4 .int 2 42 [.ref (G.1 (258)), .int (sI (c)), .int (sI (v))] M L (fun r M' L' => r = sI (qrCur M c v) ∧ M' = qmCur M c v ∧ TInv M' ∧ L = L') := by
  refine sKi_go (by decide) (Nat.le_of_ble_eq_true rfl) ?_
  intro zp ze zs zm za zb zt zc Q C hret
  refine at_eq (lv' := [(0, .ref (G.1 (258))), (1, .int (sI (c))), (2, .int (sI (v)))]) (st' := []) (M' := M) (L' := L) ?_ rfl rfl rfl rfl
  have hqn := qn_r hT
  have hqc := qc_r hT
  have hqu := qu_r hT
  have hqt := qt_r hT
  have hqs := qs_r hT
  have hqo := qo_r hT
  have hqm := qm_r hT
  refine at_iload_n C 1 dX7_current_0 rfl ?_
  refine at_stat_i C (c_X7_isCell l D G c ⟨by omega, by omega⟩) (As := [.int (sI (c))]) qw_1001 qw_999 qw_8 qw_1000 ⟨by decide, by decide, show (parseMethodDescriptor yX7_isCell.desc).map (fun d => d.parameters.length) = some 1 by decide +kernel⟩ ⟨by decide, by decide⟩ ⟨Nat.zero_le _, Nat.zero_le _⟩ (Nat.le_of_ble_eq_true rfl) dX7_current_1 rfl (fun r M' L' hp1 => ?_)
  obtain ⟨rfl, rfl, rfl⟩ := hp1
  refine at_if_eqB C 17 dX7_current_4 (by decide) (fun h2 => ?_) (fun h2 => ?_)
  · refine at_aload_n C 0 dX7_current_17 rfl ?_
    refine at_call_i C (c_X7_tenBad l D G hT ⟨by omega, by omega, by omega⟩) (As := []) (obj_Ref G) (ci := 7) rfl qw_1008 qw_1005 qw_8 qw_1007 qp_33 ⟨by decide, by decide, show (parseMethodDescriptor yX7_tenBad.desc).map (fun d => d.parameters.length) = some 0 by decide +kernel⟩ ⟨by decide, by decide⟩ ⟨Nat.zero_le _, Nat.zero_le _⟩ (Nat.le_of_ble_eq_true rfl) dX7_current_18 rfl (fun r M' L' hp4 => ?_)
    obtain ⟨rfl, rfl, hT3, rfl⟩ := hp4
    exact hret _ _ _ _ _ dX7_current_21 (⟨congrArg sI (if_neg (by first | omega | (simp only [Int.toNat_natCast]; omega))).symm, (if_neg (by first | omega | (simp only [Int.toNat_natCast]; omega))).symm, hT3, rfl⟩)
  · refine at_iload_n C 2 dX7_current_7 rfl ?_
    refine at_bipush C dX7_current_8 (by decide) (by decide) ?_
    refine at_iconst C dX7_current_10 ?_
    refine at_stat_i C (c_X7_in l D G v (-2) 2 ⟨by omega, by omega⟩ ⟨by omega, by omega⟩ ⟨by omega, by omega⟩) (As := [.int (sI (v)), .int (sI (-2)), .int (sI (2))]) qw_1004 qw_1002 qw_8 qw_1003 ⟨by decide, by decide, show (parseMethodDescriptor yX7_in.desc).map (fun d => d.parameters.length) = some 3 by decide +kernel⟩ ⟨by decide, by decide⟩ ⟨Nat.zero_le _, Nat.zero_le _⟩ (Nat.le_of_ble_eq_true rfl) dX7_current_11 rfl (fun r M' L' hp5 => ?_)
    obtain ⟨rfl, rfl, rfl⟩ := hp5
    refine at_if_neB C 22 dX7_current_14 (by decide) (fun h6 => ?_) (fun h6 => ?_)
    · refine at_aload_n C 0 dX7_current_22 rfl ?_
      obtain ⟨cn, rfl⟩ : ∃ cn : Nat, c = (cn : Int) := ⟨c.toNat, by omega⟩
      refine at_getf (v := .ref (G.1 (260))) C (obj_Ref G) (ci := 7) rfl inX7 (slot := 8) (by decide) qw_890 rfl rfl dX7_current_23 ?_
      refine at_iload_n C 1 dX7_current_26 rfl ?_
      refine at_iald C cn (ar_260 G) (rfl) (by omega) dX7_current_27 ?_
      have hb7 : _ ≤ M 260 cn ∧ M 260 cn ≤ _ := tv hT (k := 260) (j := cn) rfl
      refine at_istore_n C [(3, .int (sI (M 260 cn))), (0, .ref (G.1 (258))), (1, .int (sI ((cn : Int)))), (2, .int (sI (v)))] dX7_current_28 (by decide) rfl ?_
      refine at_aload_n C 1 dX7_current_29 rfl ?_
      refine at_getf (v := .ref (G.1 (260))) C (obj_Ref G) (ci := 7) rfl inX7 (slot := 8) (by decide) qw_890 rfl rfl dX7_current_30 ?_
      refine at_iload_n C 2 dX7_current_33 rfl ?_
      refine at_iload_n C 3 dX7_current_34 rfl ?_
      refine at_iast C cn (ar_260 G) (rfl) (by omega) dX7_current_35 ?_
      have hT8 : TInv (sSt M 260 cn v) := tv_st hT (k := 260) rfl (⟨by omega, by omega⟩)
      refine at_aload_n C 1 dX7_current_36 rfl ?_
      refine at_iconst C dX7_current_37 ?_
      refine at_putM (slot := 25) (ty := .int) C tyX7 (obj_Ref G) (ci := 7) rfl inX7 tyX7_ok nmX7 (by decide) qw_907 rfl rfl (by decide +kernel) rfl rfl (Nat.le_of_ble_eq_true rfl) rfl dX7_current_38 ?_
      have hT9 : TInv (sSt (sSt M 260 cn v) 258 25 0) := tv_st hT8 (k := 258) (j := 25) rfl (⟨by omega, by omega⟩)
      refine at_iload_n C 0 dX7_current_41 rfl ?_
      exact hret _ _ _ _ _ dX7_current_42 (⟨congrArg sI (if_pos (by first | omega | (simp only [Int.toNat_natCast]; omega))).symm, (if_pos (by first | omega | (simp only [Int.toNat_natCast]; omega))).symm, hT9, rfl⟩)
    · refine at_aload_n C 0 dX7_current_17 rfl ?_
      refine at_call_i C (c_X7_tenBad l D G hT ⟨by omega, by omega, by omega⟩) (As := []) (obj_Ref G) (ci := 7) rfl qw_1008 qw_1005 qw_8 qw_1007 qp_33 ⟨by decide, by decide, show (parseMethodDescriptor yX7_tenBad.desc).map (fun d => d.parameters.length) = some 0 by decide +kernel⟩ ⟨by decide, by decide⟩ ⟨Nat.zero_le _, Nat.zero_le _⟩ (Nat.le_of_ble_eq_true rfl) dX7_current_18 rfl (fun r M' L' hp11 => ?_)
      obtain ⟨rfl, rfl, hT10, rfl⟩ := hp11
      exact hret _ _ _ _ _ dX7_current_21 (⟨congrArg sI (if_neg (by first | omega | (simp only [Int.toNat_natCast]; omega))).symm, (if_neg (by first | omega | (simp only [Int.toNat_natCast]; omega))).symm, hT10, rfl⟩)

set_option maxHeartbeats 4000000 in
set_option maxRecDepth 100000 in
theorem c_X7_addSoul (l : Launch) (D : va_G) (G : sG) {M : sM} {L : sL} (k w c : Int) (hk : 0 ≤ k ∧ k ≤ 5) (hw : 1 ≤ w ∧ w ≤ 9) (hcc : 0 ≤ c ∧ c ≤ 11) (hs : M 258 1 < 6) (hT : TInv M) : sKi l D G yX7_addSoul cX7_addSoul 4 .int 0 0 [.ref (G.1 (258)), .int (sI (k)), .int (sI (w)), .int (sI (c))] M L (fun r M' L' => r = sI (M 258 1) ∧ M' = qAdS M k w c ∧ TInv M' ∧ L = L') := by
  refine sKi_go (by decide) (Nat.le_of_ble_eq_true rfl) ?_
  intro zp ze zs zm za zb zt zc Q C hret
  refine at_eq (lv' := [(0, .ref (G.1 (258))), (1, .int (sI (k))), (2, .int (sI (w))), (3, .int (sI (c)))]) (st' := []) (M' := M) (L' := L) ?_ rfl rfl rfl rfl
  have hqn := qn_r hT
  have hqc := qc_r hT
  have hqu := qu_r hT
  have hqt := qt_r hT
  have hqs := qs_r hT
  have hqo := qo_r hT
  have hqm := qm_r hT
  refine at_aload_n C 0 dX7_addSoul_0 rfl ?_
  refine at_getf (v := .ref (G.1 (261))) C (obj_Ref G) (ci := 7) rfl inX7 (slot := 9) (by decide) qw_891 rfl rfl dX7_addSoul_1 ?_
  refine at_aload_n C 0 dX7_addSoul_4 rfl ?_
  refine at_getf (v := .int (sI (M 258 1))) C (obj_Ref G) (ci := 7) rfl inX7 (slot := 1) (by decide) qw_883 rfl rfl dX7_addSoul_5 ?_
  have hb1 : _ ≤ M 258 1 ∧ M 258 1 ≤ _ := tv hT (k := 258) (j := 1) rfl
  refine at_ve (b := (((qn M) : Nat) : Int)) (hqn.2) ?_
  refine at_iload_n C 1 dX7_addSoul_8 rfl ?_
  refine at_iast C (qn M) (ar_261 G) (by omega) (by omega) dX7_addSoul_9 ?_
  have hT2 : TInv (sSt M 261 (qn M) k) := tv_st hT (k := 261) rfl (⟨by omega, by omega⟩)
  refine at_aload_n C 0 dX7_addSoul_10 rfl ?_
  refine at_getf (v := .ref (G.1 (262))) C (obj_Ref G) (ci := 7) rfl inX7 (slot := 10) (by decide) qw_892 rfl rfl dX7_addSoul_11 ?_
  refine at_aload_n C 0 dX7_addSoul_14 rfl ?_
  refine at_getf (v := .int (sI ((sSt M 261 (qn M) k) 258 1))) C (obj_Ref G) (ci := 7) rfl inX7 (slot := 1) (by decide) qw_883 rfl rfl dX7_addSoul_15 ?_
  refine at_ve (b := M 258 1) (rfl) ?_
  have hb3 : _ ≤ M 258 1 ∧ M 258 1 ≤ _ := tv hT2 (k := 258) (j := 1) rfl
  refine at_ve (b := (((qn M) : Nat) : Int)) (hqn.2) ?_
  refine at_iload_n C 2 dX7_addSoul_18 rfl ?_
  refine at_iast C (qn M) (ar_262 G) (by omega) (by omega) dX7_addSoul_19 ?_
  have hT4 : TInv (sSt (sSt M 261 (qn M) k) 262 (qn M) w) := tv_st hT2 (k := 262) rfl (⟨by omega, by omega⟩)
  refine at_aload_n C 0 dX7_addSoul_20 rfl ?_
  refine at_getf (v := .ref (G.1 (263))) C (obj_Ref G) (ci := 7) rfl inX7 (slot := 11) (by decide) qw_893 rfl rfl dX7_addSoul_21 ?_
  refine at_aload_n C 0 dX7_addSoul_24 rfl ?_
  refine at_getf (v := .int (sI ((sSt (sSt M 261 (qn M) k) 262 (qn M) w) 258 1))) C (obj_Ref G) (ci := 7) rfl inX7 (slot := 1) (by decide) qw_883 rfl rfl dX7_addSoul_25 ?_
  refine at_ve (b := M 258 1) (rfl) ?_
  have hb5 : _ ≤ M 258 1 ∧ M 258 1 ≤ _ := tv hT4 (k := 258) (j := 1) rfl
  refine at_ve (b := (((qn M) : Nat) : Int)) (hqn.2) ?_
  refine at_iload_n C 3 dX7_addSoul_28 rfl ?_
  refine at_iast C (qn M) (ar_263 G) (by omega) (by omega) dX7_addSoul_29 ?_
  have hT6 : TInv (sSt (sSt (sSt M 261 (qn M) k) 262 (qn M) w) 263 (qn M) c) := tv_st hT4 (k := 263) rfl (⟨by omega, by omega⟩)
  refine at_aload_n C 0 dX7_addSoul_30 rfl ?_
  refine at_getf (v := .ref (G.1 (264))) C (obj_Ref G) (ci := 7) rfl inX7 (slot := 12) (by decide) qw_894 rfl rfl dX7_addSoul_31 ?_
  refine at_aload_n C 0 dX7_addSoul_34 rfl ?_
  refine at_getf (v := .int (sI ((sSt (sSt (sSt M 261 (qn M) k) 262 (qn M) w) 263 (qn M) c) 258 1))) C (obj_Ref G) (ci := 7) rfl inX7 (slot := 1) (by decide) qw_883 rfl rfl dX7_addSoul_35 ?_
  refine at_ve (b := M 258 1) (rfl) ?_
  have hb7 : _ ≤ M 258 1 ∧ M 258 1 ≤ _ := tv hT6 (k := 258) (j := 1) rfl
  refine at_ve (b := (((qn M) : Nat) : Int)) (hqn.2) ?_
  refine at_iconst C dX7_addSoul_38 ?_
  refine at_iast C (qn M) (ar_264 G) (by omega) (by omega) dX7_addSoul_39 ?_
  have hT8 : TInv (sSt (sSt (sSt (sSt M 261 (qn M) k) 262 (qn M) w) 263 (qn M) c) 264 (qn M) (-1)) := tv_st hT6 (k := 264) rfl (⟨by omega, by omega⟩)
  refine at_aload_n C 0 dX7_addSoul_40 rfl ?_
  refine at_getf (v := .ref (G.1 (265))) C (obj_Ref G) (ci := 7) rfl inX7 (slot := 13) (by decide) qw_895 rfl rfl dX7_addSoul_41 ?_
  refine at_aload_n C 0 dX7_addSoul_44 rfl ?_
  refine at_getf (v := .int (sI ((sSt (sSt (sSt (sSt M 261 (qn M) k) 262 (qn M) w) 263 (qn M) c) 264 (qn M) (-1)) 258 1))) C (obj_Ref G) (ci := 7) rfl inX7 (slot := 1) (by decide) qw_883 rfl rfl dX7_addSoul_45 ?_
  refine at_ve (b := M 258 1) (rfl) ?_
  have hb9 : _ ≤ M 258 1 ∧ M 258 1 ≤ _ := tv hT8 (k := 258) (j := 1) rfl
  refine at_ve (b := (((qn M) : Nat) : Int)) (hqn.2) ?_
  refine at_iconst C dX7_addSoul_48 ?_
  refine at_iast C (qn M) (ar_265 G) (by omega) (by omega) dX7_addSoul_49 ?_
  have hT10 : TInv (sSt (sSt (sSt (sSt (sSt M 261 (qn M) k) 262 (qn M) w) 263 (qn M) c) 264 (qn M) (-1)) 265 (qn M) 0) := tv_st hT8 (k := 265) rfl (⟨by omega, by omega⟩)
  refine at_aload_n C 0 dX7_addSoul_50 rfl ?_
  refine at_dup C dX7_addSoul_51 rfl ?_
  refine at_getf (v := .int (sI ((sSt (sSt (sSt (sSt (sSt M 261 (qn M) k) 262 (qn M) w) 263 (qn M) c) 264 (qn M) (-1)) 265 (qn M) 0) 258 1))) C (obj_Ref G) (ci := 7) rfl inX7 (slot := 1) (by decide) qw_883 rfl rfl dX7_addSoul_52 ?_
  refine at_ve (b := M 258 1) (rfl) ?_
  have hb11 : _ ≤ M 258 1 ∧ M 258 1 ≤ _ := tv hT10 (k := 258) (j := 1) rfl
  refine at_ve (b := (((qn M) : Nat) : Int)) (hqn.2) ?_
  refine at_iconst C dX7_addSoul_55 ?_
  refine at_iadd C dX7_addSoul_56 ?_
  refine at_putM (slot := 1) (ty := .int) C tyX7 (obj_Ref G) (ci := 7) rfl inX7 tyX7_ok nmX7 (by decide) qw_883 rfl rfl (by decide +kernel) rfl rfl (Nat.le_of_ble_eq_true rfl) rfl dX7_addSoul_57 ?_
  have hT12 : TInv (sSt (sSt (sSt (sSt (sSt (sSt M 261 (qn M) k) 262 (qn M) w) 263 (qn M) c) 264 (qn M) (-1)) 265 (qn M) 0) 258 1 ((((qn M) : Nat) : Int) + 1)) := tv_st hT10 (k := 258) (j := 1) rfl (⟨by omega, by omega⟩)
  refine at_aload_n C 0 dX7_addSoul_60 rfl ?_
  refine at_iconst C dX7_addSoul_61 ?_
  refine at_putM (slot := 25) (ty := .int) C tyX7 (obj_Ref G) (ci := 7) rfl inX7 tyX7_ok nmX7 (by decide) qw_907 rfl rfl (by decide +kernel) rfl rfl (Nat.le_of_ble_eq_true rfl) rfl dX7_addSoul_62 ?_
  have hT13 : TInv (sSt (sSt (sSt (sSt (sSt (sSt (sSt M 261 (qn M) k) 262 (qn M) w) 263 (qn M) c) 264 (qn M) (-1)) 265 (qn M) 0) 258 1 ((((qn M) : Nat) : Int) + 1)) 258 25 0) := tv_st hT12 (k := 258) (j := 25) rfl (⟨by omega, by omega⟩)
  refine at_aload_n C 0 dX7_addSoul_65 rfl ?_
  refine at_getf (v := .int (sI ((sSt (sSt (sSt (sSt (sSt (sSt (sSt M 261 (qn M) k) 262 (qn M) w) 263 (qn M) c) 264 (qn M) (-1)) 265 (qn M) 0) 258 1 ((((qn M) : Nat) : Int) + 1)) 258 25 0) 258 1))) C (obj_Ref G) (ci := 7) rfl inX7 (slot := 1) (by decide) qw_883 rfl rfl dX7_addSoul_66 ?_
  refine at_ve (b := (((qn M) : Nat) : Int) + 1) ((show (sSt (sSt (sSt (sSt (sSt (sSt (sSt M 261 (qn M) k) 262 (qn M) w) 263 (qn M) c) 264 (qn M) (-1)) 265 (qn M) 0) 258 1 ((((qn M) : Nat) : Int) + 1)) 258 25 0) 258 1 = (sSt (sSt (sSt (sSt (sSt (sSt M 261 (qn M) k) 262 (qn M) w) 263 (qn M) c) 264 (qn M) (-1)) 265 (qn M) 0) 258 1 ((((qn M) : Nat) : Int) + 1)) 258 1 from rfl).trans sSt_eq) ?_
  refine at_iconst C dX7_addSoul_69 ?_
  refine at_isub C dX7_addSoul_70 ?_
  exact hret _ _ _ _ _ dX7_addSoul_71 (⟨congrArg sI (by omega), by unfold qAdS; rw [hqn.2], hT13, rfl⟩)

set_option maxHeartbeats 4000000 in
set_option maxRecDepth 100000 in
theorem c_X7_soul (l : Launch) (D : va_G) (G : sG) {M : sM} {L : sL} (k w c : Int) (hkr : InR k) (hwr : InR w) (hcr : InR c) (hT : TInv M) (hc : qCt M) : sKi l D G yX7_soul cX7_soul 4 .int 2 42 [.ref (G.1 (258)), .int (sI (k)), .int (sI (w)), .int (sI (c))] M L (fun r M' L' => r = sI (qrSoul M k w c) ∧ M' = qmSoul M k w c ∧ TInv M' ∧ L = L') := by
  refine sKi_go (by decide) (Nat.le_of_ble_eq_true rfl) ?_
  intro zp ze zs zm za zb zt zc Q C hret
  refine at_eq (lv' := [(0, .ref (G.1 (258))), (1, .int (sI (k))), (2, .int (sI (w))), (3, .int (sI (c)))]) (st' := []) (M' := M) (L' := L) ?_ rfl rfl rfl rfl
  have hqn := qn_r hT
  have hqc := qc_r hT
  have hqu := qu_r hT
  have hqt := qt_r hT
  have hqs := qs_r hT
  have hqo := qo_r hT
  have hqm := qm_r hT
  refine at_iload_n C 1 dX7_soul_0 rfl ?_
  refine at_iconst C dX7_soul_1 ?_
  refine at_iconst C dX7_soul_2 ?_
  refine at_stat_i C (c_X7_in l D G k 0 5 ⟨by omega, by omega⟩ ⟨by omega, by omega⟩ ⟨by omega, by omega⟩) (As := [.int (sI (k)), .int (sI (0)), .int (sI (5))]) qw_1004 qw_1002 qw_8 qw_1003 ⟨by decide, by decide, show (parseMethodDescriptor yX7_in.desc).map (fun d => d.parameters.length) = some 3 by decide +kernel⟩ ⟨by decide, by decide⟩ ⟨Nat.zero_le _, Nat.zero_le _⟩ (Nat.le_of_ble_eq_true rfl) dX7_soul_3 rfl (fun r M' L' hp1 => ?_)
  obtain ⟨rfl, rfl, rfl⟩ := hp1
  refine at_if_eqB C 26 dX7_soul_6 (by decide) (fun h2 => ?_) (fun h2 => ?_)
  · refine at_aload_n C 0 dX7_soul_26 rfl ?_
    refine at_call_i C (c_X7_bad l D G hT ⟨by omega, by omega, by omega⟩) (As := []) (obj_Ref G) (ci := 7) rfl qw_1012 qw_1009 qw_8 qw_1011 qp_34 ⟨by decide, by decide, show (parseMethodDescriptor yX7_bad.desc).map (fun d => d.parameters.length) = some 0 by decide +kernel⟩ ⟨by decide, by decide⟩ ⟨Nat.zero_le _, Nat.zero_le _⟩ (Nat.le_of_ble_eq_true rfl) dX7_soul_27 rfl (fun r M' L' hp4 => ?_)
    obtain ⟨rfl, rfl, hT3, rfl⟩ := hp4
    exact hret _ _ _ _ _ dX7_soul_30 (⟨congrArg sI (if_neg (by first | omega | (simp only [Int.toNat_natCast]; omega))).symm, (if_neg (by first | omega | (simp only [Int.toNat_natCast]; omega))).symm, hT3, rfl⟩)
  · refine at_iload_n C 2 dX7_soul_9 rfl ?_
    refine at_iconst C dX7_soul_10 ?_
    refine at_bipush C dX7_soul_11 (by decide) (by decide) ?_
    refine at_stat_i C (c_X7_in l D G w 1 9 ⟨by omega, by omega⟩ ⟨by omega, by omega⟩ ⟨by omega, by omega⟩) (As := [.int (sI (w)), .int (sI (1)), .int (sI (9))]) qw_1004 qw_1002 qw_8 qw_1003 ⟨by decide, by decide, show (parseMethodDescriptor yX7_in.desc).map (fun d => d.parameters.length) = some 3 by decide +kernel⟩ ⟨by decide, by decide⟩ ⟨Nat.zero_le _, Nat.zero_le _⟩ (Nat.le_of_ble_eq_true rfl) dX7_soul_13 rfl (fun r M' L' hp5 => ?_)
    obtain ⟨rfl, rfl, rfl⟩ := hp5
    refine at_if_eqB C 26 dX7_soul_16 (by decide) (fun h6 => ?_) (fun h6 => ?_)
    · refine at_aload_n C 0 dX7_soul_26 rfl ?_
      refine at_call_i C (c_X7_bad l D G hT ⟨by omega, by omega, by omega⟩) (As := []) (obj_Ref G) (ci := 7) rfl qw_1012 qw_1009 qw_8 qw_1011 qp_34 ⟨by decide, by decide, show (parseMethodDescriptor yX7_bad.desc).map (fun d => d.parameters.length) = some 0 by decide +kernel⟩ ⟨by decide, by decide⟩ ⟨Nat.zero_le _, Nat.zero_le _⟩ (Nat.le_of_ble_eq_true rfl) dX7_soul_27 rfl (fun r M' L' hp8 => ?_)
      obtain ⟨rfl, rfl, hT7, rfl⟩ := hp8
      exact hret _ _ _ _ _ dX7_soul_30 (⟨congrArg sI (if_neg (by first | omega | (simp only [Int.toNat_natCast]; omega))).symm, (if_neg (by first | omega | (simp only [Int.toNat_natCast]; omega))).symm, hT7, rfl⟩)
    · refine at_iload_n C 3 dX7_soul_19 rfl ?_
      refine at_stat_i C (c_X7_isCell l D G c ⟨by omega, by omega⟩) (As := [.int (sI (c))]) qw_1001 qw_999 qw_8 qw_1000 ⟨by decide, by decide, show (parseMethodDescriptor yX7_isCell.desc).map (fun d => d.parameters.length) = some 1 by decide +kernel⟩ ⟨by decide, by decide⟩ ⟨Nat.zero_le _, Nat.zero_le _⟩ (Nat.le_of_ble_eq_true rfl) dX7_soul_20 rfl (fun r M' L' hp9 => ?_)
      obtain ⟨rfl, rfl, rfl⟩ := hp9
      refine at_if_neB C 31 dX7_soul_23 (by decide) (fun h10 => ?_) (fun h10 => ?_)
      · refine at_aload_n C 0 dX7_soul_31 rfl ?_
        refine at_getf (v := .int (sI (M 258 1))) C (obj_Ref G) (ci := 7) rfl inX7 (slot := 1) (by decide) qw_883 rfl rfl dX7_soul_32 ?_
        have hb11 : _ ≤ M 258 1 ∧ M 258 1 ≤ _ := tv hT (k := 258) (j := 1) rfl
        refine at_ve (b := (((qn M) : Nat) : Int)) (hqn.2) ?_
        refine at_bipush C dX7_soul_35 (by decide) (by decide) ?_
        refine at_icmp_ne C 47 dX7_soul_37 (by decide) (⟨by omega, by omega⟩) (⟨by omega, by omega⟩) (fun h12 => ?_) (fun h12 => ?_)
        · refine at_aload_n C 0 dX7_soul_47 rfl ?_
          refine at_iload_n C 1 dX7_soul_48 rfl ?_
          refine at_iload_n C 2 dX7_soul_49 rfl ?_
          refine at_iload_n C 3 dX7_soul_50 rfl ?_
          refine at_call_i C (c_X7_addSoul l D G k w c ⟨by omega, by omega⟩ ⟨by omega, by omega⟩ ⟨by omega, by omega⟩ (by omega) hT) (As := [.int (sI (k)), .int (sI (w)), .int (sI (c))]) (obj_Ref G) (ci := 7) rfl qw_1024 qw_1021 qw_8 qw_1023 qp_36 ⟨by decide, by decide, show (parseMethodDescriptor yX7_addSoul.desc).map (fun d => d.parameters.length) = some 3 by decide +kernel⟩ ⟨by decide, by decide⟩ ⟨Nat.zero_le _, Nat.zero_le _⟩ (Nat.le_of_ble_eq_true rfl) dX7_soul_51 rfl (fun r M' L' hp14 => ?_)
          obtain ⟨rfl, rfl, hT13, rfl⟩ := hp14
          exact hret _ _ _ _ _ dX7_soul_54 (⟨congrArg sI ((if_pos (by first | omega | (simp only [Int.toNat_natCast]; omega))).trans (if_neg (by first | omega | (simp only [Int.toNat_natCast]; omega)))).symm, ((if_pos (by first | omega | (simp only [Int.toNat_natCast]; omega))).trans (if_neg (by first | omega | (simp only [Int.toNat_natCast]; omega)))).symm, hT13, rfl⟩)
        · refine at_aload_n C 0 dX7_soul_40 rfl ?_
          refine at_call_i C (c_X7_full l D G hT ⟨by omega, by omega, by omega⟩) (As := []) (obj_Ref G) (ci := 7) rfl qw_1020 qw_1017 qw_8 qw_1019 qp_35 ⟨by decide, by decide, show (parseMethodDescriptor yX7_full.desc).map (fun d => d.parameters.length) = some 0 by decide +kernel⟩ ⟨by decide, by decide⟩ ⟨Nat.zero_le _, Nat.zero_le _⟩ (Nat.le_of_ble_eq_true rfl) dX7_soul_41 rfl (fun r M' L' hp16 => ?_)
          obtain ⟨rfl, rfl, hT15, rfl⟩ := hp16
          refine at_goto C 54 dX7_soul_44 (by decide) ?_
          exact hret _ _ _ _ _ dX7_soul_54 (⟨congrArg sI ((if_pos (by first | omega | (simp only [Int.toNat_natCast]; omega))).trans (if_pos (by first | omega | (simp only [Int.toNat_natCast]; omega)))).symm, ((if_pos (by first | omega | (simp only [Int.toNat_natCast]; omega))).trans (if_pos (by first | omega | (simp only [Int.toNat_natCast]; omega)))).symm, hT15, rfl⟩)
      · refine at_aload_n C 0 dX7_soul_26 rfl ?_
        refine at_call_i C (c_X7_bad l D G hT ⟨by omega, by omega, by omega⟩) (As := []) (obj_Ref G) (ci := 7) rfl qw_1012 qw_1009 qw_8 qw_1011 qp_34 ⟨by decide, by decide, show (parseMethodDescriptor yX7_bad.desc).map (fun d => d.parameters.length) = some 0 by decide +kernel⟩ ⟨by decide, by decide⟩ ⟨Nat.zero_le _, Nat.zero_le _⟩ (Nat.le_of_ble_eq_true rfl) dX7_soul_27 rfl (fun r M' L' hp18 => ?_)
        obtain ⟨rfl, rfl, hT17, rfl⟩ := hp18
        exact hret _ _ _ _ _ dX7_soul_30 (⟨congrArg sI (if_neg (by first | omega | (simp only [Int.toNat_natCast]; omega))).symm, (if_neg (by first | omega | (simp only [Int.toNat_natCast]; omega))).symm, hT17, rfl⟩)

set_option maxHeartbeats 4000000 in
set_option maxRecDepth 100000 in
theorem c_X7_addCaller (l : Launch) (D : va_G) (G : sG) {M : sM} {L : sL} (k : Int) (hk : 0 ≤ k ∧ k ≤ 5) (hs : M 258 2 < 6) (hT : TInv M) : sKi l D G yX7_addCaller cX7_addCaller 2 .int 0 0 [.ref (G.1 (258)), .int (sI (k))] M L (fun r M' L' => r = sI (M 258 2) ∧ M' = qAdI M k ∧ TInv M' ∧ L = L') := by
  refine sKi_go (by decide) (Nat.le_of_ble_eq_true rfl) ?_
  intro zp ze zs zm za zb zt zc Q C hret
  refine at_eq (lv' := [(0, .ref (G.1 (258))), (1, .int (sI (k)))]) (st' := []) (M' := M) (L' := L) ?_ rfl rfl rfl rfl
  have hqn := qn_r hT
  have hqc := qc_r hT
  have hqu := qu_r hT
  have hqt := qt_r hT
  have hqs := qs_r hT
  have hqo := qo_r hT
  have hqm := qm_r hT
  refine at_aload_n C 0 dX7_addCaller_0 rfl ?_
  refine at_getf (v := .ref (G.1 (266))) C (obj_Ref G) (ci := 7) rfl inX7 (slot := 14) (by decide) qw_896 rfl rfl dX7_addCaller_1 ?_
  refine at_aload_n C 0 dX7_addCaller_4 rfl ?_
  refine at_getf (v := .int (sI (M 258 2))) C (obj_Ref G) (ci := 7) rfl inX7 (slot := 2) (by decide) qw_884 rfl rfl dX7_addCaller_5 ?_
  have hb1 : _ ≤ M 258 2 ∧ M 258 2 ≤ _ := tv hT (k := 258) (j := 2) rfl
  refine at_ve (b := (((qc M) : Nat) : Int)) (hqc.2) ?_
  refine at_iload_n C 1 dX7_addCaller_8 rfl ?_
  refine at_iast C (qc M) (ar_266 G) (by omega) (by omega) dX7_addCaller_9 ?_
  have hT2 : TInv (sSt M 266 (qc M) k) := tv_st hT (k := 266) rfl (⟨by omega, by omega⟩)
  refine at_aload_n C 0 dX7_addCaller_10 rfl ?_
  refine at_dup C dX7_addCaller_11 rfl ?_
  refine at_getf (v := .int (sI ((sSt M 266 (qc M) k) 258 2))) C (obj_Ref G) (ci := 7) rfl inX7 (slot := 2) (by decide) qw_884 rfl rfl dX7_addCaller_12 ?_
  refine at_ve (b := M 258 2) (rfl) ?_
  have hb3 : _ ≤ M 258 2 ∧ M 258 2 ≤ _ := tv hT2 (k := 258) (j := 2) rfl
  refine at_ve (b := (((qc M) : Nat) : Int)) (hqc.2) ?_
  refine at_iconst C dX7_addCaller_15 ?_
  refine at_iadd C dX7_addCaller_16 ?_
  refine at_putM (slot := 2) (ty := .int) C tyX7 (obj_Ref G) (ci := 7) rfl inX7 tyX7_ok nmX7 (by decide) qw_884 rfl rfl (by decide +kernel) rfl rfl (Nat.le_of_ble_eq_true rfl) rfl dX7_addCaller_17 ?_
  have hT4 : TInv (sSt (sSt M 266 (qc M) k) 258 2 ((((qc M) : Nat) : Int) + 1)) := tv_st hT2 (k := 258) (j := 2) rfl (⟨by omega, by omega⟩)
  refine at_aload_n C 0 dX7_addCaller_20 rfl ?_
  refine at_iconst C dX7_addCaller_21 ?_
  refine at_putM (slot := 25) (ty := .int) C tyX7 (obj_Ref G) (ci := 7) rfl inX7 tyX7_ok nmX7 (by decide) qw_907 rfl rfl (by decide +kernel) rfl rfl (Nat.le_of_ble_eq_true rfl) rfl dX7_addCaller_22 ?_
  have hT5 : TInv (sSt (sSt (sSt M 266 (qc M) k) 258 2 ((((qc M) : Nat) : Int) + 1)) 258 25 0) := tv_st hT4 (k := 258) (j := 25) rfl (⟨by omega, by omega⟩)
  refine at_aload_n C 0 dX7_addCaller_25 rfl ?_
  refine at_getf (v := .int (sI ((sSt (sSt (sSt M 266 (qc M) k) 258 2 ((((qc M) : Nat) : Int) + 1)) 258 25 0) 258 2))) C (obj_Ref G) (ci := 7) rfl inX7 (slot := 2) (by decide) qw_884 rfl rfl dX7_addCaller_26 ?_
  refine at_ve (b := (((qc M) : Nat) : Int) + 1) ((show (sSt (sSt (sSt M 266 (qc M) k) 258 2 ((((qc M) : Nat) : Int) + 1)) 258 25 0) 258 2 = (sSt (sSt M 266 (qc M) k) 258 2 ((((qc M) : Nat) : Int) + 1)) 258 2 from rfl).trans sSt_eq) ?_
  refine at_iconst C dX7_addCaller_29 ?_
  refine at_isub C dX7_addCaller_30 ?_
  exact hret _ _ _ _ _ dX7_addCaller_31 (⟨congrArg sI (by omega), by unfold qAdI; rw [hqc.2], hT5, rfl⟩)

set_option maxHeartbeats 4000000 in
set_option maxRecDepth 100000 in
theorem c_X7_caller (l : Launch) (D : va_G) (G : sG) {M : sM} {L : sL} (k : Int) (hkr : InR k) (hT : TInv M) (hc : qCt M) : sKi l D G yX7_caller cX7_caller 2 .int 1 22 [.ref (G.1 (258)), .int (sI (k))] M L (fun r M' L' => r = sI (qrCaller M k) ∧ M' = qmCaller M k ∧ TInv M' ∧ L = L') := by
  refine sKi_go (by decide) (Nat.le_of_ble_eq_true rfl) ?_
  intro zp ze zs zm za zb zt zc Q C hret
  refine at_eq (lv' := [(0, .ref (G.1 (258))), (1, .int (sI (k)))]) (st' := []) (M' := M) (L' := L) ?_ rfl rfl rfl rfl
  have hqn := qn_r hT
  have hqc := qc_r hT
  have hqu := qu_r hT
  have hqt := qt_r hT
  have hqs := qs_r hT
  have hqo := qo_r hT
  have hqm := qm_r hT
  refine at_iload_n C 1 dX7_caller_0 rfl ?_
  refine at_iconst C dX7_caller_1 ?_
  refine at_iconst C dX7_caller_2 ?_
  refine at_stat_i C (c_X7_in l D G k 0 5 ⟨by omega, by omega⟩ ⟨by omega, by omega⟩ ⟨by omega, by omega⟩) (As := [.int (sI (k)), .int (sI (0)), .int (sI (5))]) qw_1004 qw_1002 qw_8 qw_1003 ⟨by decide, by decide, show (parseMethodDescriptor yX7_in.desc).map (fun d => d.parameters.length) = some 3 by decide +kernel⟩ ⟨by decide, by decide⟩ ⟨Nat.zero_le _, Nat.zero_le _⟩ (Nat.le_of_ble_eq_true rfl) dX7_caller_3 rfl (fun r M' L' hp1 => ?_)
  obtain ⟨rfl, rfl, rfl⟩ := hp1
  refine at_if_neB C 14 dX7_caller_6 (by decide) (fun h2 => ?_) (fun h2 => ?_)
  · refine at_aload_n C 0 dX7_caller_14 rfl ?_
    refine at_getf (v := .int (sI (M 258 2))) C (obj_Ref G) (ci := 7) rfl inX7 (slot := 2) (by decide) qw_884 rfl rfl dX7_caller_15 ?_
    have hb3 : _ ≤ M 258 2 ∧ M 258 2 ≤ _ := tv hT (k := 258) (j := 2) rfl
    refine at_ve (b := (((qc M) : Nat) : Int)) (hqc.2) ?_
    refine at_bipush C dX7_caller_18 (by decide) (by decide) ?_
    refine at_icmp_ne C 30 dX7_caller_20 (by decide) (⟨by omega, by omega⟩) (⟨by omega, by omega⟩) (fun h4 => ?_) (fun h4 => ?_)
    · refine at_aload_n C 0 dX7_caller_30 rfl ?_
      refine at_iload_n C 1 dX7_caller_31 rfl ?_
      refine at_call_i C (c_X7_addCaller l D G k ⟨by omega, by omega⟩ (by omega) hT) (As := [.int (sI (k))]) (obj_Ref G) (ci := 7) rfl qw_1032 qw_1029 qw_8 qw_1031 qp_37 ⟨by decide, by decide, show (parseMethodDescriptor yX7_addCaller.desc).map (fun d => d.parameters.length) = some 1 by decide +kernel⟩ ⟨by decide, by decide⟩ ⟨Nat.zero_le _, Nat.zero_le _⟩ (Nat.le_of_ble_eq_true rfl) dX7_caller_32 rfl (fun r M' L' hp6 => ?_)
      obtain ⟨rfl, rfl, hT5, rfl⟩ := hp6
      exact hret _ _ _ _ _ dX7_caller_35 (⟨congrArg sI ((if_pos (by first | omega | (simp only [Int.toNat_natCast]; omega))).trans (if_neg (by first | omega | (simp only [Int.toNat_natCast]; omega)))).symm, ((if_pos (by first | omega | (simp only [Int.toNat_natCast]; omega))).trans (if_neg (by first | omega | (simp only [Int.toNat_natCast]; omega)))).symm, hT5, rfl⟩)
    · refine at_aload_n C 0 dX7_caller_23 rfl ?_
      refine at_call_i C (c_X7_full l D G hT ⟨by omega, by omega, by omega⟩) (As := []) (obj_Ref G) (ci := 7) rfl qw_1020 qw_1017 qw_8 qw_1019 qp_35 ⟨by decide, by decide, show (parseMethodDescriptor yX7_full.desc).map (fun d => d.parameters.length) = some 0 by decide +kernel⟩ ⟨by decide, by decide⟩ ⟨Nat.zero_le _, Nat.zero_le _⟩ (Nat.le_of_ble_eq_true rfl) dX7_caller_24 rfl (fun r M' L' hp8 => ?_)
      obtain ⟨rfl, rfl, hT7, rfl⟩ := hp8
      refine at_goto C 35 dX7_caller_27 (by decide) ?_
      exact hret _ _ _ _ _ dX7_caller_35 (⟨congrArg sI ((if_pos (by first | omega | (simp only [Int.toNat_natCast]; omega))).trans (if_pos (by first | omega | (simp only [Int.toNat_natCast]; omega)))).symm, ((if_pos (by first | omega | (simp only [Int.toNat_natCast]; omega))).trans (if_pos (by first | omega | (simp only [Int.toNat_natCast]; omega)))).symm, hT7, rfl⟩)
  · refine at_aload_n C 0 dX7_caller_9 rfl ?_
    refine at_call_i C (c_X7_bad l D G hT ⟨by omega, by omega, by omega⟩) (As := []) (obj_Ref G) (ci := 7) rfl qw_1012 qw_1009 qw_8 qw_1011 qp_34 ⟨by decide, by decide, show (parseMethodDescriptor yX7_bad.desc).map (fun d => d.parameters.length) = some 0 by decide +kernel⟩ ⟨by decide, by decide⟩ ⟨Nat.zero_le _, Nat.zero_le _⟩ (Nat.le_of_ble_eq_true rfl) dX7_caller_10 rfl (fun r M' L' hp10 => ?_)
    obtain ⟨rfl, rfl, hT9, rfl⟩ := hp10
    exact hret _ _ _ _ _ dX7_caller_13 (⟨congrArg sI (if_neg (by first | omega | (simp only [Int.toNat_natCast]; omega))).symm, (if_neg (by first | omega | (simp only [Int.toNat_natCast]; omega))).symm, hT9, rfl⟩)

set_option maxHeartbeats 4000000 in
set_option maxRecDepth 100000 in
theorem c_X7_type (l : Launch) (D : va_G) (G : sG) {M : sM} {L : sL} (c : Int) (hcr : InR c) (hT : TInv M) (hc : qCt M) : sKi l D G yX7_type cX7_type 2 .int 1 22 [.ref (G.1 (258)), .int (sI (c))] M L (fun r M' L' => r = sI (qrType M c) ∧ M' = qmType M c ∧ TInv M' ∧ L = L') := by
  refine sKi_go (by decide) (Nat.le_of_ble_eq_true rfl) ?_
  intro zp ze zs zm za zb zt zc Q C hret
  refine at_eq (lv' := [(0, .ref (G.1 (258))), (1, .int (sI (c)))]) (st' := []) (M' := M) (L' := L) ?_ rfl rfl rfl rfl
  have hqn := qn_r hT
  have hqc := qc_r hT
  have hqu := qu_r hT
  have hqt := qt_r hT
  have hqs := qs_r hT
  have hqo := qo_r hT
  have hqm := qm_r hT
  refine at_iload_n C 1 dX7_type_0 rfl ?_
  refine at_iconst C dX7_type_1 ?_
  refine at_bipush C dX7_type_2 (by decide) (by decide) ?_
  refine at_stat_i C (c_X7_in l D G c 0 127 ⟨by omega, by omega⟩ ⟨by omega, by omega⟩ ⟨by omega, by omega⟩) (As := [.int (sI (c)), .int (sI (0)), .int (sI (127))]) qw_1004 qw_1002 qw_8 qw_1003 ⟨by decide, by decide, show (parseMethodDescriptor yX7_in.desc).map (fun d => d.parameters.length) = some 3 by decide +kernel⟩ ⟨by decide, by decide⟩ ⟨Nat.zero_le _, Nat.zero_le _⟩ (Nat.le_of_ble_eq_true rfl) dX7_type_4 rfl (fun r M' L' hp1 => ?_)
  obtain ⟨rfl, rfl, rfl⟩ := hp1
  refine at_if_neB C 15 dX7_type_7 (by decide) (fun h2 => ?_) (fun h2 => ?_)
  · refine at_aload_n C 0 dX7_type_15 rfl ?_
    refine at_getf (v := .int (sI (M 258 19))) C (obj_Ref G) (ci := 7) rfl inX7 (slot := 19) (by decide) qw_901 rfl rfl dX7_type_16 ?_
    have hb3 : _ ≤ M 258 19 ∧ M 258 19 ≤ _ := tv hT (k := 258) (j := 19) rfl
    refine at_ve (b := (((qt M) : Nat) : Int)) (hqt.2) ?_
    refine at_sipush C dX7_type_19 (by decide) (by decide) ?_
    refine at_icmp_ne C 30 dX7_type_22 (by decide) (⟨by omega, by omega⟩) (⟨by omega, by omega⟩) (fun h4 => ?_) (fun h4 => ?_)
    · refine at_aload_n C 0 dX7_type_30 rfl ?_
      refine at_getf (v := .ref (G.1 (270))) C (obj_Ref G) (ci := 7) rfl inX7 (slot := 18) (by decide) qw_900 rfl rfl dX7_type_31 ?_
      refine at_aload_n C 0 dX7_type_34 rfl ?_
      refine at_getf (v := .int (sI (M 258 19))) C (obj_Ref G) (ci := 7) rfl inX7 (slot := 19) (by decide) qw_901 rfl rfl dX7_type_35 ?_
      have hb5 : _ ≤ M 258 19 ∧ M 258 19 ≤ _ := tv hT (k := 258) (j := 19) rfl
      refine at_ve (b := (((qt M) : Nat) : Int)) (hqt.2) ?_
      refine at_iload_n C 1 dX7_type_38 rfl ?_
      refine at_iast C (qt M) (ar_270 G) (by omega) (by omega) dX7_type_39 ?_
      have hT6 : TInv (sSt M 270 (qt M) c) := tv_st hT (k := 270) rfl (⟨by omega, by omega⟩)
      refine at_aload_n C 0 dX7_type_40 rfl ?_
      refine at_dup C dX7_type_41 rfl ?_
      refine at_getf (v := .int (sI ((sSt M 270 (qt M) c) 258 19))) C (obj_Ref G) (ci := 7) rfl inX7 (slot := 19) (by decide) qw_901 rfl rfl dX7_type_42 ?_
      refine at_ve (b := M 258 19) (rfl) ?_
      have hb7 : _ ≤ M 258 19 ∧ M 258 19 ≤ _ := tv hT6 (k := 258) (j := 19) rfl
      refine at_ve (b := (((qt M) : Nat) : Int)) (hqt.2) ?_
      refine at_iconst C dX7_type_45 ?_
      refine at_iadd C dX7_type_46 ?_
      refine at_putM (slot := 19) (ty := .int) C tyX7 (obj_Ref G) (ci := 7) rfl inX7 tyX7_ok nmX7 (by decide) qw_901 rfl rfl (by decide +kernel) rfl rfl (Nat.le_of_ble_eq_true rfl) rfl dX7_type_47 ?_
      have hT8 : TInv (sSt (sSt M 270 (qt M) c) 258 19 ((((qt M) : Nat) : Int) + 1)) := tv_st hT6 (k := 258) (j := 19) rfl (⟨by omega, by omega⟩)
      refine at_aload_n C 0 dX7_type_50 rfl ?_
      refine at_getf (v := .int (sI ((sSt (sSt M 270 (qt M) c) 258 19 ((((qt M) : Nat) : Int) + 1)) 258 19))) C (obj_Ref G) (ci := 7) rfl inX7 (slot := 19) (by decide) qw_901 rfl rfl dX7_type_51 ?_
      refine at_ve (b := (((qt M) : Nat) : Int) + 1) (sSt_eq) ?_
      exact hret _ _ _ _ _ dX7_type_54 (⟨congrArg sI (by unfold qrType; rw [if_pos (by omega), if_neg (by omega)]; omega), by unfold qmType; rw [if_pos (by omega), if_neg (by omega), hqt.2], hT8, rfl⟩)
    · refine at_aload_n C 0 dX7_type_25 rfl ?_
      refine at_call_i C (c_X7_full l D G hT ⟨by omega, by omega, by omega⟩) (As := []) (obj_Ref G) (ci := 7) rfl qw_1020 qw_1017 qw_8 qw_1019 qp_35 ⟨by decide, by decide, show (parseMethodDescriptor yX7_full.desc).map (fun d => d.parameters.length) = some 0 by decide +kernel⟩ ⟨by decide, by decide⟩ ⟨Nat.zero_le _, Nat.zero_le _⟩ (Nat.le_of_ble_eq_true rfl) dX7_type_26 rfl (fun r M' L' hp10 => ?_)
      obtain ⟨rfl, rfl, hT9, rfl⟩ := hp10
      exact hret _ _ _ _ _ dX7_type_29 (⟨congrArg sI ((if_pos (by first | omega | (simp only [Int.toNat_natCast]; omega))).trans (if_pos (by first | omega | (simp only [Int.toNat_natCast]; omega)))).symm, ((if_pos (by first | omega | (simp only [Int.toNat_natCast]; omega))).trans (if_pos (by first | omega | (simp only [Int.toNat_natCast]; omega)))).symm, hT9, rfl⟩)
  · refine at_aload_n C 0 dX7_type_10 rfl ?_
    refine at_call_i C (c_X7_bad l D G hT ⟨by omega, by omega, by omega⟩) (As := []) (obj_Ref G) (ci := 7) rfl qw_1012 qw_1009 qw_8 qw_1011 qp_34 ⟨by decide, by decide, show (parseMethodDescriptor yX7_bad.desc).map (fun d => d.parameters.length) = some 0 by decide +kernel⟩ ⟨by decide, by decide⟩ ⟨Nat.zero_le _, Nat.zero_le _⟩ (Nat.le_of_ble_eq_true rfl) dX7_type_11 rfl (fun r M' L' hp12 => ?_)
    obtain ⟨rfl, rfl, hT11, rfl⟩ := hp12
    exact hret _ _ _ _ _ dX7_type_14 (⟨congrArg sI (if_neg (by first | omega | (simp only [Int.toNat_natCast]; omega))).symm, (if_neg (by first | omega | (simp only [Int.toNat_natCast]; omega))).symm, hT11, rfl⟩)

set_option maxHeartbeats 4000000 in
set_option maxRecDepth 100000 in
theorem c_X7_clear (l : Launch) (D : va_G) (G : sG) {M : sM} {L : sL} (hT : TInv M) : sKi l D G yX7_clear cX7_clear 2 .int 0 0 [.ref (G.1 (258))] M L (fun r M' L' => r = sI (M 258 19) ∧ M' = sSt M 258 19 0 ∧ TInv M' ∧ L = L') := by
  refine sKi_go (by decide) (Nat.le_of_ble_eq_true rfl) ?_
  intro zp ze zs zm za zb zt zc Q C hret
  refine at_eq (lv' := [(0, .ref (G.1 (258)))]) (st' := []) (M' := M) (L' := L) ?_ rfl rfl rfl rfl
  have hqn := qn_r hT
  have hqc := qc_r hT
  have hqu := qu_r hT
  have hqt := qt_r hT
  have hqs := qs_r hT
  have hqo := qo_r hT
  have hqm := qm_r hT
  refine at_aload_n C 0 dX7_clear_0 rfl ?_
  refine at_getf (v := .int (sI (M 258 19))) C (obj_Ref G) (ci := 7) rfl inX7 (slot := 19) (by decide) qw_901 rfl rfl dX7_clear_1 ?_
  have hb1 : _ ≤ M 258 19 ∧ M 258 19 ≤ _ := tv hT (k := 258) (j := 19) rfl
  refine at_ve (b := (((qt M) : Nat) : Int)) (hqt.2) ?_
  refine at_istore_n C [(1, .int (sI ((((qt M) : Nat) : Int)))), (0, .ref (G.1 (258)))] dX7_clear_4 (by decide) rfl ?_
  refine at_aload_n C 1 dX7_clear_5 rfl ?_
  refine at_iconst C dX7_clear_6 ?_
  refine at_putM (slot := 19) (ty := .int) C tyX7 (obj_Ref G) (ci := 7) rfl inX7 tyX7_ok nmX7 (by decide) qw_901 rfl rfl (by decide +kernel) rfl rfl (Nat.le_of_ble_eq_true rfl) rfl dX7_clear_7 ?_
  have hT2 : TInv (sSt M 258 19 0) := tv_st hT (k := 258) (j := 19) rfl (⟨by omega, by omega⟩)
  refine at_iload_n C 0 dX7_clear_10 rfl ?_
  exact hret _ _ _ _ _ dX7_clear_11 (⟨congrArg sI (by omega), rfl, hT2, rfl⟩)

set_option maxHeartbeats 4000000 in
set_option maxRecDepth 100000 in
theorem c_X7_takesOne (l : Launch) (D : va_G) (G : sG) {M : sM} {L : sL} (i s : Nat) (hi : i < 6) (hs : s < 6) (hT : TInv M) : sKv l D G yX7_takesOne cX7_takesOne 3 0 0 [.ref (G.1 (258)), .int (sI ((i : Int))), .int (sI ((s : Int)))] M L (fun M' L' => M' = qTk M i s ∧ TInv M' ∧ L = L') := by
  refine sKv_go (by decide) (Nat.le_of_ble_eq_true rfl) ?_
  intro zp ze zs zm za zb zt zc Q C hret
  refine at_eq (lv' := [(0, .ref (G.1 (258))), (1, .int (sI ((i : Int)))), (2, .int (sI ((s : Int))))]) (st' := []) (M' := M) (L' := L) ?_ rfl rfl rfl rfl
  have hqn := qn_r hT
  have hqc := qc_r hT
  have hqu := qu_r hT
  have hqt := qt_r hT
  have hqs := qs_r hT
  have hqo := qo_r hT
  have hqm := qm_r hT
  refine at_aload_n C 0 dX7_takesOne_0 rfl ?_
  refine at_getf (v := .ref (G.1 (263))) C (obj_Ref G) (ci := 7) rfl inX7 (slot := 11) (by decide) qw_893 rfl rfl dX7_takesOne_1 ?_
  refine at_iload_n C 2 dX7_takesOne_4 rfl ?_
  refine at_bipush C dX7_takesOne_5 (by decide) (by decide) ?_
  refine at_iast C s (ar_263 G) (rfl) (by omega) dX7_takesOne_7 ?_
  have hT1 : TInv (sSt M 263 s (-2)) := tv_st hT (k := 263) rfl (⟨by omega, by omega⟩)
  refine at_aload_n C 0 dX7_takesOne_8 rfl ?_
  refine at_getf (v := .ref (G.1 (264))) C (obj_Ref G) (ci := 7) rfl inX7 (slot := 12) (by decide) qw_894 rfl rfl dX7_takesOne_9 ?_
  refine at_iload_n C 2 dX7_takesOne_12 rfl ?_
  refine at_iload_n C 1 dX7_takesOne_13 rfl ?_
  refine at_iast C s (ar_264 G) (rfl) (by omega) dX7_takesOne_14 ?_
  have hT2 : TInv (sSt (sSt M 263 s (-2)) 264 s (i : Int)) := tv_st hT1 (k := 264) rfl (⟨by omega, by omega⟩)
  exact hret _ _ _ _ dX7_takesOne_15 (⟨rfl, hT2, rfl⟩)

set_option maxHeartbeats 4000000 in
set_option maxRecDepth 100000 in
theorem c_X7_passes (l : Launch) (D : va_G) (G : sG) {M : sM} {L : sL} (ht : M 258 3 < 2000) (hT : TInv M) : sKv l D G yX7_passes cX7_passes 2 2 41 [.ref (G.1 (258))] M L (fun M' L' => M' = qPas M ∧ TInv M' ∧ L = L') := by
  refine sKv_go (by decide) (Nat.le_of_ble_eq_true rfl) ?_
  intro zp ze zs zm za zb zt zc Q C hret
  refine at_eq (lv' := [(0, .ref (G.1 (258)))]) (st' := []) (M' := M) (L' := L) ?_ rfl rfl rfl rfl
  have hqn := qn_r hT
  have hqc := qc_r hT
  have hqu := qu_r hT
  have hqt := qt_r hT
  have hqs := qs_r hT
  have hqo := qo_r hT
  have hqm := qm_r hT
  refine at_iconst C dX7_passes_0 ?_
  refine at_istore_n C [(1, .int (sI (0))), (0, .ref (G.1 (258)))] dX7_passes_1 (by decide) rfl ?_
  have H2 : ∀ (fu : Nat) (k : Nat), qn M - k < fu → (k ≤ qn M) → (TInv (qpN M k)) → sAt zp l ze (sRm 2 41) zs zm za zb zt zc D G 2 0 0 Q 2 [(0, .ref (G.1 (258))), (1, .int (sI ((k : Int))))] [] (qpN M k) L := by
    intro fu
    induction fu with
    | zero => intro k hd hk hTk; exact absurd hd (Nat.not_lt_zero _)
    | succ fu ih2 =>
      intro k hd2 hk hTk
      have hb3 := tv hT (k := 263) (j := k) (lo := -2) (hi := 11) rfl
      have hb5 := tv hT (k := 265) (j := k) (lo := 0) (hi := 99) rfl
      have hdr := dri_r (M 260) (M 263 k)
      refine at_iload_n C 1 dX7_passes_2 rfl ?_
      refine at_aload_n C 0 dX7_passes_3 rfl ?_
      refine at_getf (v := .int (sI ((qpN M k) 258 1))) C (obj_Ref G) (ci := 7) rfl inX7 (slot := 1) (by decide) qw_883 rfl rfl dX7_passes_4 ?_
      refine at_ve (b := M 258 1) (rfl) ?_
      have hb1 : _ ≤ M 258 1 ∧ M 258 1 ≤ _ := tv hTk (k := 258) (j := 1) rfl
      refine at_ve (b := (((qn M) : Nat) : Int)) (hqn.2) ?_
      refine at_icmp_ge C 73 dX7_passes_7 (by decide) (⟨by omega, by omega⟩) (⟨by omega, by omega⟩) (fun h2 => ?_) (fun h2 => ?_)
      · refine at_aload_n C 0 dX7_passes_73 rfl ?_
        refine at_dup C dX7_passes_74 rfl ?_
        refine at_getf (v := .int (sI ((qpN M k) 258 3))) C (obj_Ref G) (ci := 7) rfl inX7 (slot := 3) (by decide) qw_885 rfl rfl dX7_passes_75 ?_
        refine at_ve (b := M 258 3) (rfl) ?_
        have hb3 : _ ≤ M 258 3 ∧ M 258 3 ≤ _ := tv hTk (k := 258) (j := 3) rfl
        refine at_iconst C dX7_passes_78 ?_
        refine at_iadd C dX7_passes_79 ?_
        refine at_putM (slot := 3) (ty := .int) C tyX7 (obj_Ref G) (ci := 7) rfl inX7 tyX7_ok nmX7 (by decide) qw_885 rfl rfl (by decide +kernel) rfl rfl (Nat.le_of_ble_eq_true rfl) rfl dX7_passes_80 ?_
        have hT4 : TInv (sSt (qpN M k) 258 3 ((M 258 3) + 1)) := tv_st hTk (k := 258) (j := 3) rfl (⟨by omega, by omega⟩)
        exact hret _ _ _ _ dX7_passes_83 (⟨by unfold qPas; rw [show qn M = k by omega], hT4, rfl⟩)
      · refine at_aload_n C 0 dX7_passes_10 rfl ?_
        refine at_getf (v := .ref (G.1 (263))) C (obj_Ref G) (ci := 7) rfl inX7 (slot := 11) (by decide) qw_893 rfl rfl dX7_passes_11 ?_
        refine at_iload_n C 1 dX7_passes_14 rfl ?_
        refine at_iald C k (ar_263 G) (rfl) (by omega) dX7_passes_15 ?_
        have hb5 : _ ≤ (qpN M k) 263 k ∧ (qpN M k) 263 k ≤ _ := tv hTk (k := 263) (j := k) rfl
        refine at_ve (b := M 263 k) (qpN_3 M k) ?_
        refine at_if_lt C 38 dX7_passes_16 (by decide) (⟨by omega, by omega⟩) (fun h6 => ?_) (fun h6 => ?_)
        · refine at_aload_n C 0 dX7_passes_38 rfl ?_
          refine at_getf (v := .ref (G.1 (263))) C (obj_Ref G) (ci := 7) rfl inX7 (slot := 11) (by decide) qw_893 rfl rfl dX7_passes_39 ?_
          refine at_iload_n C 1 dX7_passes_42 rfl ?_
          refine at_iald C k (ar_263 G) (rfl) (by omega) dX7_passes_43 ?_
          have hb7 : _ ≤ (qpN M k) 263 k ∧ (qpN M k) 263 k ≤ _ := tv hTk (k := 263) (j := k) rfl
          refine at_ve (b := M 263 k) (qpN_3 M k) ?_
          refine at_iconst C dX7_passes_44 ?_
          refine at_icmp_ne C 67 dX7_passes_45 (by decide) (⟨by omega, by omega⟩) (⟨by omega, by omega⟩) (fun h8 => ?_) (fun h8 => ?_)
          · refine at_iinc C 1 [(1, .int (sI ((k : Int) + 1))), (0, .ref (G.1 (258)))] dX7_passes_67 rfl (by decide) rfl ?_
            refine at_goto C 2 dX7_passes_70 (by decide) ?_
            refine at_lv [1, 0] rfl ?_
            exact at_eq (ih2 (k + 1) (by omega) (by omega) (by rw [← qpN_c (M := M) (k := k) (by omega) (by omega)]; exact hTk)) (lvc_s (lvc_i (by omega) rfl)) rfl (qpN_c (M := M) (k := k) (by omega) (by omega)) (rfl)
          · refine at_aload_n C 0 dX7_passes_48 rfl ?_
            refine at_getf (v := .ref (G.1 (265))) C (obj_Ref G) (ci := 7) rfl inX7 (slot := 13) (by decide) qw_895 rfl rfl dX7_passes_49 ?_
            refine at_iload_n C 1 dX7_passes_52 rfl ?_
            refine at_bipush C dX7_passes_53 (by decide) (by decide) ?_
            refine at_aload_n C 0 dX7_passes_55 rfl ?_
            refine at_getf (v := .ref (G.1 (265))) C (obj_Ref G) (ci := 7) rfl inX7 (slot := 13) (by decide) qw_895 rfl rfl dX7_passes_56 ?_
            refine at_iload_n C 1 dX7_passes_59 rfl ?_
            refine at_iald C k (ar_265 G) (rfl) (by omega) dX7_passes_60 ?_
            have hb9 : _ ≤ (qpN M k) 265 k ∧ (qpN M k) 265 k ≤ _ := tv hTk (k := 265) (j := k) rfl
            refine at_ve (b := M 265 k) (qpN_5 M k) ?_
            refine at_iconst C dX7_passes_61 ?_
            refine at_iadd C dX7_passes_62 ?_
            refine at_stat_i C (c_X7_lesser l D G 99 ((M 265 k) + 1) ⟨by omega, by omega⟩ ⟨by omega, by omega⟩) (As := [.int (sI (99)), .int (sI ((M 265 k) + 1))]) qw_1132 qw_1130 qw_8 qw_1131 ⟨by decide, by decide, show (parseMethodDescriptor yX7_lesser.desc).map (fun d => d.parameters.length) = some 2 by decide +kernel⟩ ⟨by decide, by decide⟩ ⟨Nat.zero_le _, Nat.zero_le _⟩ (Nat.le_of_ble_eq_true rfl) dX7_passes_63 rfl (fun r M' L' hp10 => ?_)
            obtain ⟨rfl, rfl, rfl⟩ := hp10
            refine at_iast C k (ar_265 G) (rfl) (by omega) dX7_passes_66 ?_
            have hT11 : TInv (sSt (qpN M k) 265 k (min 99 ((M 265 k) + 1))) := tv_st hTk (k := 265) rfl (⟨by omega, by omega⟩)
            refine at_iinc C 1 [(1, .int (sI ((k : Int) + 1))), (0, .ref (G.1 (258)))] dX7_passes_67 rfl (by decide) rfl ?_
            refine at_goto C 2 dX7_passes_70 (by decide) ?_
            refine at_lv [1, 0] rfl ?_
            exact at_eq (ih2 (k + 1) (by omega) (by omega) (by rw [← qpN_b (M := M) (k := k) (by omega)]; exact hT11)) (lvc_s (lvc_i (by omega) rfl)) rfl (qpN_b (M := M) (k := k) (by omega)) (rfl)
        · refine at_aload_n C 0 dX7_passes_19 rfl ?_
          refine at_getf (v := .ref (G.1 (263))) C (obj_Ref G) (ci := 7) rfl inX7 (slot := 11) (by decide) qw_893 rfl rfl dX7_passes_20 ?_
          refine at_iload_n C 1 dX7_passes_23 rfl ?_
          refine at_aload_n C 0 dX7_passes_24 rfl ?_
          refine at_aload_n C 0 dX7_passes_25 rfl ?_
          refine at_getf (v := .ref (G.1 (263))) C (obj_Ref G) (ci := 7) rfl inX7 (slot := 11) (by decide) qw_893 rfl rfl dX7_passes_26 ?_
          refine at_iload_n C 1 dX7_passes_29 rfl ?_
          refine at_iald C k (ar_263 G) (rfl) (by omega) dX7_passes_30 ?_
          have hb12 : _ ≤ (qpN M k) 263 k ∧ (qpN M k) 263 k ≤ _ := tv hTk (k := 263) (j := k) rfl
          refine at_ve (b := M 263 k) (qpN_3 M k) ?_
          refine at_call_i C (c_X7_drift l D G (M 263 k) ⟨by omega, by omega⟩ hTk) (As := [.int (sI (M 263 k))]) (obj_Ref G) (ci := 7) rfl qw_1129 qw_1126 qw_8 qw_1128 qp_56 ⟨by decide, by decide, show (parseMethodDescriptor yX7_drift.desc).map (fun d => d.parameters.length) = some 1 by decide +kernel⟩ ⟨by decide, by decide⟩ ⟨Nat.zero_le _, Nat.zero_le _⟩ (Nat.le_of_ble_eq_true rfl) dX7_passes_31 rfl (fun r M' L' hp14 => ?_)
          obtain ⟨rfl, rfl, rfl⟩ := hp14
          have hb13 := dri_r ((qpN M k) 260) (M 263 k)
          refine at_ve (b := dri (M 260) (M 263 k)) (rfl) ?_
          refine at_iast C k (ar_263 G) (rfl) (by omega) dX7_passes_34 ?_
          have hT15 : TInv (sSt (qpN M k) 263 k (dri (M 260) (M 263 k))) := tv_st hTk (k := 263) rfl (⟨by omega, by omega⟩)
          refine at_goto C 67 dX7_passes_35 (by decide) ?_
          refine at_iinc C 1 [(1, .int (sI ((k : Int) + 1))), (0, .ref (G.1 (258)))] dX7_passes_67 rfl (by decide) rfl ?_
          refine at_goto C 2 dX7_passes_70 (by decide) ?_
          refine at_lv [1, 0] rfl ?_
          exact at_eq (ih2 (k + 1) (by omega) (by omega) (by rw [← qpN_a (M := M) (k := k) (by omega)]; exact hT15)) (lvc_s (lvc_i (by omega) rfl)) rfl (qpN_a (M := M) (k := k) (by omega)) (rfl)
  refine at_lv [1, 0] rfl ?_
  exact at_eq (H2 _ 0 (Nat.lt_succ_self _) (by omega) ((qpN_0 M) ▸ hT)) (lvc_s (lvc_i (rfl) rfl)) rfl (qpN_0 M) (rfl)

set_option maxHeartbeats 4000000 in
set_option maxRecDepth 100000 in
theorem c_X7_goesBy (l : Launch) (D : va_G) (G : sG) {M : sM} {L : sL} (d : Int) (hd : -1 ≤ d ∧ d ≤ 1) (ht : M 258 3 < 2000) (hT : TInv M) : sKi l D G yX7_goesBy cX7_goesBy 4 .int 3 62 [.ref (G.1 (258)), .int (sI (d))] M L (fun r M' L' => r = sI (qGoC M d) ∧ M' = qGo M d ∧ TInv M' ∧ L = L') := by
  refine sKi_go (by decide) (Nat.le_of_ble_eq_true rfl) ?_
  intro zp ze zs zm za zb zt zc Q C hret
  refine at_eq (lv' := [(0, .ref (G.1 (258))), (1, .int (sI (d)))]) (st' := []) (M' := M) (L' := L) ?_ rfl rfl rfl rfl
  have hqn := qn_r hT
  have hqc := qc_r hT
  have hqu := qu_r hT
  have hqt := qt_r hT
  have hqs := qs_r hT
  have hqo := qo_r hT
  have hqm := qm_r hT
  refine at_aload_n C 0 dX7_goesBy_0 rfl ?_
  refine at_aload_n C 0 dX7_goesBy_1 rfl ?_
  refine at_getf (v := .int (sI (M 258 4))) C (obj_Ref G) (ci := 7) rfl inX7 (slot := 4) (by decide) qw_886 rfl rfl dX7_goesBy_2 ?_
  have hb1 : _ ≤ M 258 4 ∧ M 258 4 ≤ _ := tv hT (k := 258) (j := 4) rfl
  refine at_iload_n C 1 dX7_goesBy_5 rfl ?_
  refine at_iadd C dX7_goesBy_6 ?_
  refine at_stat_i C (c_X7_onShore l D G ((M 258 4) + d) ⟨by omega, by omega⟩) (As := [.int (sI ((M 258 4) + d))]) qw_1117 qw_1115 qw_8 qw_1116 ⟨by decide, by decide, show (parseMethodDescriptor yX7_onShore.desc).map (fun d => d.parameters.length) = some 1 by decide +kernel⟩ ⟨by decide, by decide⟩ ⟨Nat.zero_le _, Nat.zero_le _⟩ (Nat.le_of_ble_eq_true rfl) dX7_goesBy_7 rfl (fun r M' L' hp2 => ?_)
  obtain ⟨rfl, rfl, rfl⟩ := hp2
  refine at_ve (b := qCl M d) (rfl) ?_
  have hcl : 0 ≤ qCl M d ∧ qCl M d ≤ 11 := by unfold qCl; omega
  refine at_putM (slot := 4) (ty := .int) C tyX7 (obj_Ref G) (ci := 7) rfl inX7 tyX7_ok nmX7 (by decide) qw_886 rfl rfl (by decide +kernel) rfl rfl (Nat.le_of_ble_eq_true rfl) rfl dX7_goesBy_10 ?_
  have hT3 : TInv (sSt M 258 4 (qCl M d)) := tv_st hT (k := 258) (j := 4) rfl (⟨by omega, by omega⟩)
  refine at_aload_n C 0 dX7_goesBy_13 rfl ?_
  refine at_aload_n C 0 dX7_goesBy_14 rfl ?_
  refine at_getf (v := .int (sI ((sSt M 258 4 (qCl M d)) 258 4))) C (obj_Ref G) (ci := 7) rfl inX7 (slot := 4) (by decide) qw_886 rfl rfl dX7_goesBy_15 ?_
  refine at_ve (b := qCl M d) (sSt_eq) ?_
  refine at_call_i C (c_X7_countAt l D G (qCl M d) ⟨by omega, by omega⟩ hT3) (As := [.int (sI (qCl M d))]) (obj_Ref G) (ci := 7) rfl qw_1121 qw_1118 qw_8 qw_1120 qp_54 ⟨by decide, by decide, show (parseMethodDescriptor yX7_countAt.desc).map (fun d => d.parameters.length) = some 1 by decide +kernel⟩ ⟨by decide, by decide⟩ ⟨Nat.zero_le _, Nat.zero_le _⟩ (Nat.le_of_ble_eq_true rfl) dX7_goesBy_18 rfl (fun r M' L' hp5 => ?_)
  obtain ⟨rfl, rfl, rfl⟩ := hp5
  have hb4 : 0 ≤ qCnt (sSt M 258 4 (qCl M d)) (qCl M d) ∧ qCnt (sSt M 258 4 (qCl M d)) (qCl M d) ≤ qn (sSt M 258 4 (qCl M d)) := cnt_r _ _
  refine at_ve (b := qGoC M d) (rfl) ?_
  have hgc : 0 ≤ qGoC M d ∧ qGoC M d ≤ qn M := cnt_r _ _
  refine at_istore_n C [(2, .int (sI (qGoC M d))), (0, .ref (G.1 (258))), (1, .int (sI (d)))] dX7_goesBy_21 (by decide) rfl ?_
  refine at_iconst C dX7_goesBy_22 ?_
  refine at_istore_n C [(3, .int (sI (0))), (2, .int (sI (qGoC M d))), (0, .ref (G.1 (258))), (1, .int (sI (d)))] dX7_goesBy_23 (by decide) rfl ?_
  have H24 : ∀ (fu : Nat) (k : Nat), qn M - k < fu → (k ≤ qn M) → (TInv (qgN M k (qCl M d))) → sAt zp l ze (sRm 3 62) zs zm za zb zt zc D G 4 0 0 Q 24 [(0, .ref (G.1 (258))), (1, .int (sI (d))), (2, .int (sI (qGoC M d))), (3, .int (sI ((k : Int))))] [] (qgN M k (qCl M d)) L := by
    intro fu
    induction fu with
    | zero => intro k hd hk hTk; exact absurd hd (Nat.not_lt_zero _)
    | succ fu ih24 =>
      intro k hd24 hk hTk
      have hb3 := tv hT (k := 263) (j := k) (lo := -2) (hi := 11) rfl
      have g4 : qgN M k (qCl M d) 258 4 = (qCl M d) := rfl
      refine at_iload_n C 3 dX7_goesBy_24 rfl ?_
      refine at_aload_n C 0 dX7_goesBy_25 rfl ?_
      refine at_getf (v := .int (sI ((qgN M k (qCl M d)) 258 1))) C (obj_Ref G) (ci := 7) rfl inX7 (slot := 1) (by decide) qw_883 rfl rfl dX7_goesBy_26 ?_
      refine at_ve (b := M 258 1) (rfl) ?_
      have hb6 : _ ≤ M 258 1 ∧ M 258 1 ≤ _ := tv hTk (k := 258) (j := 1) rfl
      refine at_ve (b := (((qn M) : Nat) : Int)) (hqn.2) ?_
      refine at_icmp_ge C 65 dX7_goesBy_29 (by decide) (⟨by omega, by omega⟩) (⟨by omega, by omega⟩) (fun h7 => ?_) (fun h7 => ?_)
      · have hG : qgN M k (qCl M d) = qGa M d := by unfold qGa; rw [show qn M = k by omega]
        have hTG : TInv (qGa M d) := hG ▸ hTk
        refine at_m (M' := (qGa M d)) (hG) ?_
        refine at_aload_n C 0 dX7_goesBy_65 rfl ?_
        refine at_getf (v := .int (sI ((qGa M d) 258 3))) C (obj_Ref G) (ci := 7) rfl inX7 (slot := 3) (by decide) qw_885 rfl rfl dX7_goesBy_66 ?_
        refine at_ve (b := M 258 3) (rfl) ?_
        have hb8 : _ ≤ M 258 3 ∧ M 258 3 ≤ _ := tv hTG (k := 258) (j := 3) rfl
        refine at_sipush C dX7_goesBy_69 (by decide) (by decide) ?_
        refine at_icmp_lt C 82 dX7_goesBy_72 (by decide) (⟨by omega, by omega⟩) (⟨by omega, by omega⟩) (fun h9 => ?_) (fun h9 => ?_)
        · refine at_aload_n C 0 dX7_goesBy_82 rfl ?_
          refine at_call_v C (c_X7_passes l D G (M := (qGa M d)) (show M 258 3 < 2000 by omega) hTG) (As := []) (obj_Ref G) (ci := 7) rfl qw_1125 qw_1122 qw_8 qw_1124 qp_55 ⟨by decide, by decide, show (parseMethodDescriptor yX7_passes.desc).map (fun d => d.parameters.length) = some 0 by decide +kernel⟩ ⟨by decide, by decide⟩ ⟨Nat.zero_le _, Nat.zero_le _⟩ (Nat.le_of_ble_eq_true rfl) dX7_goesBy_83 rfl (fun M' L' hp11 => ?_)
          obtain ⟨rfl, hT10, rfl⟩ := hp11
          refine at_iload_n C 2 dX7_goesBy_86 rfl ?_
          exact hret _ _ _ _ _ dX7_goesBy_87 (⟨rfl, (if_pos (by omega)).symm, hT10, rfl⟩)
        · refine at_aload_n C 0 dX7_goesBy_75 rfl ?_
          refine at_getf (v := .int (sI ((qGa M d) 258 23))) C (obj_Ref G) (ci := 7) rfl inX7 (slot := 23) (by decide) qw_905 rfl rfl dX7_goesBy_76 ?_
          refine at_ve (b := M 258 23) (rfl) ?_
          have hb12 : _ ≤ M 258 23 ∧ M 258 23 ≤ _ := tv hTG (k := 258) (j := 23) rfl
          refine at_if_eq C 86 dX7_goesBy_79 (by decide) (⟨by omega, by omega⟩) (fun h13 => ?_) (fun h13 => ?_)
          · refine at_iload_n C 2 dX7_goesBy_86 rfl ?_
            exact hret _ _ _ _ _ dX7_goesBy_87 (⟨rfl, (if_neg (by omega)).symm, hTG, rfl⟩)
          · refine at_aload_n C 0 dX7_goesBy_82 rfl ?_
            refine at_call_v C (c_X7_passes l D G (M := (qGa M d)) (show M 258 3 < 2000 by omega) hTG) (As := []) (obj_Ref G) (ci := 7) rfl qw_1125 qw_1122 qw_8 qw_1124 qp_55 ⟨by decide, by decide, show (parseMethodDescriptor yX7_passes.desc).map (fun d => d.parameters.length) = some 0 by decide +kernel⟩ ⟨by decide, by decide⟩ ⟨Nat.zero_le _, Nat.zero_le _⟩ (Nat.le_of_ble_eq_true rfl) dX7_goesBy_83 rfl (fun M' L' hp15 => ?_)
            obtain ⟨rfl, hT14, rfl⟩ := hp15
            refine at_iload_n C 2 dX7_goesBy_86 rfl ?_
            exact hret _ _ _ _ _ dX7_goesBy_87 (⟨rfl, (if_pos (by omega)).symm, hT14, rfl⟩)
      · refine at_aload_n C 0 dX7_goesBy_32 rfl ?_
        refine at_getf (v := .ref (G.1 (263))) C (obj_Ref G) (ci := 7) rfl inX7 (slot := 11) (by decide) qw_893 rfl rfl dX7_goesBy_33 ?_
        refine at_iload_n C 3 dX7_goesBy_36 rfl ?_
        refine at_iald C k (ar_263 G) (rfl) (by omega) dX7_goesBy_37 ?_
        have hb16 : _ ≤ (qgN M k (qCl M d)) 263 k ∧ (qgN M k (qCl M d)) 263 k ≤ _ := tv hTk (k := 263) (j := k) rfl
        refine at_ve (b := M 263 k) (qgN_3 M k _) ?_
        refine at_aload_n C 0 dX7_goesBy_38 rfl ?_
        refine at_getf (v := .int (sI ((qgN M k (qCl M d)) 258 4))) C (obj_Ref G) (ci := 7) rfl inX7 (slot := 4) (by decide) qw_886 rfl rfl dX7_goesBy_39 ?_
        have hb17 : _ ≤ (qgN M k (qCl M d)) 258 4 ∧ (qgN M k (qCl M d)) 258 4 ≤ _ := tv hTk (k := 258) (j := 4) rfl
        refine at_ve (b := qCl M d) (rfl) ?_
        refine at_icmp_ne C 59 dX7_goesBy_42 (by decide) (⟨by omega, by omega⟩) (⟨by omega, by omega⟩) (fun h18 => ?_) (fun h18 => ?_)
        · refine at_iinc C 3 [(3, .int (sI ((k : Int) + 1))), (0, .ref (G.1 (258))), (1, .int (sI (d))), (2, .int (sI (qGoC M d)))] dX7_goesBy_59 rfl (by decide) rfl ?_
          refine at_goto C 24 dX7_goesBy_62 (by decide) ?_
          refine at_lv [1, 2, 3, 0] rfl ?_
          exact at_eq (ih24 (k + 1) (by omega) (by omega) (by rw [← qgN_b (M := M) (k := k) (by omega)]; exact hTk)) (lvc_s (lvc_s (lvc_s (lvc_i (by omega) rfl)))) rfl (qgN_b (M := M) (k := k) (by omega)) (rfl)
        · refine at_aload_n C 0 dX7_goesBy_45 rfl ?_
          refine at_getf (v := .ref (G.1 (263))) C (obj_Ref G) (ci := 7) rfl inX7 (slot := 11) (by decide) qw_893 rfl rfl dX7_goesBy_46 ?_
          refine at_iload_n C 3 dX7_goesBy_49 rfl ?_
          refine at_iconst C dX7_goesBy_50 ?_
          refine at_iast C k (ar_263 G) (rfl) (by omega) dX7_goesBy_51 ?_
          have hT19 : TInv (sSt (qgN M k (qCl M d)) 263 k (-1)) := tv_st hTk (k := 263) rfl (⟨by omega, by omega⟩)
          refine at_aload_n C 0 dX7_goesBy_52 rfl ?_
          refine at_getf (v := .ref (G.1 (265))) C (obj_Ref G) (ci := 7) rfl inX7 (slot := 13) (by decide) qw_895 rfl rfl dX7_goesBy_53 ?_
          refine at_iload_n C 3 dX7_goesBy_56 rfl ?_
          refine at_iconst C dX7_goesBy_57 ?_
          refine at_iast C k (ar_265 G) (rfl) (by omega) dX7_goesBy_58 ?_
          have hT20 : TInv (sSt (sSt (qgN M k (qCl M d)) 263 k (-1)) 265 k 0) := tv_st hT19 (k := 265) rfl (⟨by omega, by omega⟩)
          refine at_iinc C 3 [(3, .int (sI ((k : Int) + 1))), (0, .ref (G.1 (258))), (1, .int (sI (d))), (2, .int (sI (qGoC M d)))] dX7_goesBy_59 rfl (by decide) rfl ?_
          refine at_goto C 24 dX7_goesBy_62 (by decide) ?_
          refine at_lv [1, 2, 3, 0] rfl ?_
          exact at_eq (ih24 (k + 1) (by omega) (by omega) (by rw [← qgN_a (M := M) (k := k) (by omega)]; exact hT20)) (lvc_s (lvc_s (lvc_s (lvc_i (by omega) rfl)))) rfl (qgN_a (M := M) (k := k) (by omega)) (rfl)
  refine at_lv [2, 3, 1, 0] rfl ?_
  exact at_eq (H24 _ 0 (Nat.lt_succ_self _) (by omega) ((qgN_0 M (qCl M d)) ▸ hT3)) (lvc_s (lvc_s (lvc_s (lvc_i (rfl) rfl)))) rfl (qgN_0 M _) (rfl)
