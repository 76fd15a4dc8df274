set_option maxHeartbeats 4000000 in
set_option maxRecDepth 100000 in
theorem c_X7_readsShore (l : Launch) (D : va_G) (G : sG) {M : sM} {L : sL} (hz : M 258 23 = 0) (hT : TInv M) : sKi l D G yX7_readsShore cX7_readsShore 2 .int 9 195 [.ref (G.1 (258))] M L (fun r M' L' => r = sI (qpShore M).1 ∧ M' = (qpShore M).2 ∧ TInv M' ∧ L = L') := by
  refine sKi_go (by decide) (Nat.le_of_ble_eq_true rfl) ?_
  intro zp ze zs zm za zb zt zc Q C hret
  refine at_eq (lv' := [(0, .ref (G.1 (258)))]) (st' := []) (M' := M) (L' := L) ?_ rfl rfl rfl rfl
  have hqn := qn_r hT
  have hqc := qc_r hT
  have hqu := qu_r hT
  have hqt := qt_r hT
  have hqs := qs_r hT
  have hqo := qo_r hT
  have hqm := qm_r hT
  have hrq := rq_r hT
  refine at_aload_n C 0 dX7_readsShore_0 rfl ?_
  refine at_iconst C dX7_readsShore_1 ?_
  refine at_putM (slot := 20) (ty := .int) C tyX7 (obj_Ref G) (ci := 7) rfl inX7 tyX7_ok nmX7 (by decide) qw_902 rfl rfl (by decide +kernel) rfl rfl (Nat.le_of_ble_eq_true rfl) rfl dX7_readsShore_2 ?_
  have hT1 : TInv (sSt M 258 20 0) := tv_st hT (k := 258) (j := 20) rfl (⟨by omega, by omega⟩)
  refine at_aload_n C 0 dX7_readsShore_5 rfl ?_
  refine at_call_i C (c_X7_readsFirst l D G (M := (sSt M 258 20 0)) hT1) (As := []) (obj_Ref G) (ci := 7) rfl qw_1060 qw_1057 qw_8 qw_1059 qp_41 ⟨by decide, by decide, show (parseMethodDescriptor yX7_readsFirst.desc).map (fun d => d.parameters.length) = some 0 by decide +kernel⟩ ⟨by decide, by decide⟩ ⟨Nat.zero_le _, Nat.zero_le _⟩ (Nat.le_of_ble_eq_true rfl) dX7_readsShore_6 rfl (fun r M' L' hp3 => ?_)
  obtain ⟨rfl, rfl, hT2, rfl⟩ := hp3
  refine at_if_neB C 14 dX7_readsShore_9 (by decide) (fun h4 => ?_) (fun h4 => ?_)
  · have hF : (qpFirst (sSt M 258 20 0)).1 = true := by assumption
    refine at_iconst C dX7_readsShore_14 ?_
    refine at_istore_n C [(1, .int (sI (1))), (0, .ref (G.1 (258)))] dX7_readsShore_15 (by decide) rfl ?_
    refine at_aload_n C 1 dX7_readsShore_16 rfl ?_
    refine at_call_v C (c_X7_skip l D G (M := ((qpFirst (sSt M 258 20 0)).2)) hT2) (As := []) (obj_Ref G) (ci := 7) rfl qw_1064 qw_1061 qw_8 qw_1063 qp_42 ⟨by decide, by decide, show (parseMethodDescriptor yX7_skip.desc).map (fun d => d.parameters.length) = some 0 by decide +kernel⟩ ⟨by decide, by decide⟩ ⟨Nat.zero_le _, Nat.zero_le _⟩ (Nat.le_of_ble_eq_true rfl) dX7_readsShore_17 rfl (fun M' L' hp6 => ?_)
    obtain ⟨rfl, hT5, rfl⟩ := hp6
    have H20 : ∀ (fu : Nat) (n : Nat) (M1 : sM), 151 - n < fu → (1 ≤ n ∧ n ≤ 151) → (n ≤ rq M1) → (TInv M1) → (M1 258 23 = 0) → (qpShore M = qpItems (151 - n) n M1) → sAt zp l ze (sRm 9 195) zs zm za zb zt zc D G 2 0 0 Q 20 [(0, .ref (G.1 (258))), (1, .int (sI ((n : Int))))] [] M1 L := by
      intro fu
      induction fu with
      | zero => intro n M1 hd hn hp hT1 hz1 he; exact absurd hd (Nat.not_lt_zero _)
      | succ fu ih20 =>
        intro n M1 hd20 hn hp hT1 hz1 he
        have hr1 := rq_r hT1
        have ht1 := qt_r hT1
        refine at_aload_n C 0 dX7_readsShore_20 rfl ?_
        refine at_getf (v := .int (sI (M1 258 20))) C (obj_Ref G) (ci := 7) rfl inX7 (slot := 20) (by decide) qw_902 rfl rfl dX7_readsShore_21 ?_
        have hb7 : _ ≤ M1 258 20 ∧ M1 258 20 ≤ _ := tv hT1 (k := 258) (j := 20) rfl
        refine at_aload_n C 0 dX7_readsShore_24 rfl ?_
        refine at_getf (v := .int (sI (M1 258 19))) C (obj_Ref G) (ci := 7) rfl inX7 (slot := 19) (by decide) qw_901 rfl rfl dX7_readsShore_25 ?_
        have hb8 : _ ≤ M1 258 19 ∧ M1 258 19 ≤ _ := tv hT1 (k := 258) (j := 19) rfl
        refine at_icmp_ge C 50 dX7_readsShore_28 (by decide) (⟨by omega, by omega⟩) (⟨by omega, by omega⟩) (fun h9 => ?_) (fun h9 => ?_)
        · have e : qpShore M = ((n : Int), M1) := by rw [he, show 151 - n = (150 - n) + 1 by omega, qpItems_e (by omega)]
          refine at_iload_n C 1 dX7_readsShore_50 rfl ?_
          exact hret _ _ _ _ _ dX7_readsShore_51 (⟨by rw [e], by rw [e], hT1, rfl⟩)
        · have hlt : rq M1 < qt M1 := by omega
          refine at_aload_n C 0 dX7_readsShore_31 rfl ?_
          refine at_call_i C (c_X7_readsItem l D G (M := M1) (by assumption) hT1) (As := []) (obj_Ref G) (ci := 7) rfl qw_1098 qw_1095 qw_8 qw_1097 qp_49 ⟨by decide, by decide, show (parseMethodDescriptor yX7_readsItem.desc).map (fun d => d.parameters.length) = some 0 by decide +kernel⟩ ⟨by decide, by decide⟩ ⟨Nat.zero_le _, Nat.zero_le _⟩ (Nat.le_of_ble_eq_true rfl) dX7_readsShore_32 rfl (fun r M' L' hp11 => ?_)
          obtain ⟨rfl, rfl, hT10, rfl⟩ := hp11
          refine at_if_neB C 40 dX7_readsShore_35 (by decide) (fun h12 => ?_) (fun h12 => ?_)
          · have hit : (qpItem M1).1 = true := by assumption
            refine at_iinc C 1 [(1, .int (sI ((n : Int) + 1))), (0, .ref (G.1 (258)))] dX7_readsShore_40 rfl (by decide) rfl ?_
            refine at_aload_n C 1 dX7_readsShore_43 rfl ?_
            refine at_call_v C (c_X7_skip l D G (M := ((qpItem M1).2)) hT10) (As := []) (obj_Ref G) (ci := 7) rfl qw_1064 qw_1061 qw_8 qw_1063 qp_42 ⟨by decide, by decide, show (parseMethodDescriptor yX7_skip.desc).map (fun d => d.parameters.length) = some 0 by decide +kernel⟩ ⟨by decide, by decide⟩ ⟨Nat.zero_le _, Nat.zero_le _⟩ (Nat.le_of_ble_eq_true rfl) dX7_readsShore_44 rfl (fun M' L' hp14 => ?_)
            obtain ⟨rfl, hT13, rfl⟩ := hp14
            refine at_goto C 20 dX7_readsShore_47 (by decide) ?_
            refine at_lv [1, 0] rfl ?_
            exact at_eq (ih20 (n + 1) (qSk ((qpItem M1).2)) (by omega) (by omega) (by have a := rq_item hit; have b := rq_sk_le (qpItem M1).2; omega) (hT13) ((qItem_23 _).trans hz1) (by rw [he, show 151 - n = (151 - (n + 1)) + 1 by omega, qpItems_y hlt hit])) (lvc_s (lvc_i (by omega) rfl)) rfl (rfl) (rfl)
          · have hit : ¬ (qpItem M1).1 = true := by assumption
            have e : qpShore M = (-1, (qpItem M1).2) := by rw [he, show 151 - n = (150 - n) + 1 by omega, qpItems_n hlt hit]
            refine at_iconst C dX7_readsShore_38 ?_
            exact hret _ _ _ _ _ dX7_readsShore_39 (⟨by rw [e], by rw [e], hT10, rfl⟩)
    refine at_lv [1, 0] rfl ?_
    exact at_eq (H20 _ 1 (qSk ((qpFirst (sSt M 258 20 0)).2)) (Nat.lt_succ_self _) (by omega) (by have a := rq_first hF; have b := rq_sk_le (qpFirst (sSt M 258 20 0)).2; omega) (hT5) ((qFirst_23 _).trans hz) (by unfold qpShore; rw [if_pos hF])) (lvc_s (lvc_i (rfl) rfl)) rfl (rfl) (rfl)
  · have hF : ¬ (qpFirst (sSt M 258 20 0)).1 = true := by assumption
    have e : qpShore M = (-1, (qpFirst (sSt M 258 20 0)).2) := by unfold qpShore; rw [if_neg hF]
    refine at_iconst C dX7_readsShore_12 ?_
    exact hret _ _ _ _ _ dX7_readsShore_13 (⟨by rw [e], by rw [e], hT2, rfl⟩)

set_option maxHeartbeats 4000000 in
set_option maxRecDepth 100000 in
theorem c_X7_read (l : Launch) (D : va_G) (G : sG) {M : sM} {L : sL} (hz : M 258 23 = 0) (hT : TInv M) : sKi l D G yX7_read cX7_read 2 .int 10 216 [.ref (G.1 (258))] M L (fun r M' L' => r = sI (qrRead M) ∧ M' = qmRead M ∧ TInv M' ∧ L = L') := by
  refine sKi_go (by decide) (Nat.le_of_ble_eq_true rfl) ?_
  intro zp ze zs zm za zb zt zc Q C hret
  refine at_eq (lv' := [(0, .ref (G.1 (258)))]) (st' := []) (M' := M) (L' := L) ?_ rfl rfl rfl rfl
  have hqn := qn_r hT
  have hqc := qc_r hT
  have hqu := qu_r hT
  have hqt := qt_r hT
  have hqs := qs_r hT
  have hqo := qo_r hT
  have hqm := qm_r hT
  have hrq := rq_r hT
  refine at_aload_n C 0 dX7_read_0 rfl ?_
  refine at_aload_n C 0 dX7_read_1 rfl ?_
  refine at_getf (v := .ref (G.1 (271))) C (obj_Ref G) (ci := 7) rfl inX7 (slot := 22) (by decide) qw_904 rfl rfl dX7_read_2 ?_
  refine at_iconst C dX7_read_5 ?_
  refine at_call_v C (c_X7_layAll_271 l D G 0 isRa_271 hT) (As := [.ref (G.1 (271)), .int (sI (0))]) (obj_Ref G) (ci := 7) rfl qw_1048 qw_1045 qw_8 qw_1047 qp_38 ⟨by decide, by decide, show (parseMethodDescriptor yX7_layAll.desc).map (fun d => d.parameters.length) = some 2 by decide +kernel⟩ ⟨by decide, by decide⟩ ⟨Nat.zero_le _, Nat.zero_le _⟩ (Nat.le_of_ble_eq_true rfl) dX7_read_6 rfl (fun M' L' hp1 => ?_)
  obtain ⟨rfl, hTr, rfl⟩ := hp1
  have hz1 : (qLA M 271 0) 258 23 = 0 := hz
  have hsr := qpShore_r (qLA M 271 0)
  refine at_aload_n C 0 dX7_read_9 rfl ?_
  refine at_call_i C (c_X7_readsShore l D G (M := (qLA M 271 0)) (by assumption) hTr) (As := []) (obj_Ref G) (ci := 7) rfl qw_1056 qw_1053 qw_8 qw_1055 qp_40 ⟨by decide, by decide, show (parseMethodDescriptor yX7_readsShore.desc).map (fun d => d.parameters.length) = some 0 by decide +kernel⟩ ⟨by decide, by decide⟩ ⟨Nat.zero_le _, Nat.zero_le _⟩ (Nat.le_of_ble_eq_true rfl) dX7_read_10 rfl (fun r M' L' hp3 => ?_)
  obtain ⟨rfl, rfl, hT2, rfl⟩ := hp3
  refine at_istore_n C [(1, .int (sI ((qpShore (qLA M 271 0)).1))), (0, .ref (G.1 (258)))] dX7_read_13 (by decide) rfl ?_
  refine at_iload_n C 0 dX7_read_14 rfl ?_
  refine at_if_ge C 35 dX7_read_15 (by decide) (⟨by omega, by omega⟩) (fun h4 => ?_) (fun h4 => ?_)
  · refine at_aload_n C 1 dX7_read_35 rfl ?_
    refine at_iconst C dX7_read_36 ?_
    refine at_putM (slot := 25) (ty := .int) C tyX7 (obj_Ref G) (ci := 7) rfl inX7 tyX7_ok nmX7 (by decide) qw_907 rfl rfl (by decide +kernel) rfl rfl (Nat.le_of_ble_eq_true rfl) rfl dX7_read_37 ?_
    have hT5 : TInv (sSt ((qpShore (qLA M 271 0)).2) 258 25 0) := tv_st hT2 (k := 258) (j := 25) rfl (⟨by omega, by omega⟩)
    refine at_iload_n C 0 dX7_read_40 rfl ?_
    exact hret _ _ _ _ _ dX7_read_41 (⟨congrArg sI (by unfold qrRead; rw [if_neg (by omega)]), by unfold qmRead; rw [if_neg (by omega)], hT5, rfl⟩)
  · refine at_aload_n C 1 dX7_read_18 rfl ?_
    refine at_aload_n C 1 dX7_read_19 rfl ?_
    refine at_getf (v := .ref (G.1 (271))) C (obj_Ref G) (ci := 7) rfl inX7 (slot := 22) (by decide) qw_904 rfl rfl dX7_read_20 ?_
    refine at_iconst C dX7_read_23 ?_
    refine at_call_v C (c_X7_takeAll_271 l D G 0 isRa_271 hT2) (As := [.ref (G.1 (271)), .int (sI (0))]) (obj_Ref G) (ci := 7) rfl qw_1192 qw_1189 qw_8 qw_1191 qp_68 ⟨by decide, by decide, show (parseMethodDescriptor yX7_takeAll.desc).map (fun d => d.parameters.length) = some 2 by decide +kernel⟩ ⟨by decide, by decide⟩ ⟨Nat.zero_le _, Nat.zero_le _⟩ (Nat.le_of_ble_eq_true rfl) dX7_read_24 rfl (fun M' L' hp6 => ?_)
    obtain ⟨rfl, hTr, rfl⟩ := hp6
    refine at_bipush C dX7_read_27 (by decide) (by decide) ?_
    refine at_aload_n C 1 dX7_read_29 rfl ?_
    refine at_getf (v := .int (sI ((qTA ((qpShore (qLA M 271 0)).2) 271 0) 258 20))) C (obj_Ref G) (ci := 7) rfl inX7 (slot := 20) (by decide) qw_902 rfl rfl dX7_read_30 ?_
    refine at_ve (b := ((qpShore (qLA M 271 0)).2) 258 20) (rfl) ?_
    have hb7 : _ ≤ ((qpShore (qLA M 271 0)).2) 258 20 ∧ ((qpShore (qLA M 271 0)).2) 258 20 ≤ _ := tv hTr (k := 258) (j := 20) rfl
    refine at_ve (b := (qpShore (qLA M 271 0)).2 258 20) (rfl) ?_
    refine at_isub C dX7_read_33 ?_
    exact hret _ _ _ _ _ dX7_read_34 (⟨congrArg sI (by unfold qrRead; rw [if_pos (by omega)]), by unfold qmRead; rw [if_pos (by omega)], hTr, rfl⟩)
