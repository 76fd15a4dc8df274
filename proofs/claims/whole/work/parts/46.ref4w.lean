set_option maxHeartbeats 4000000 in
set_option maxRecDepth 100000 in
theorem c_X7_seen (l : Launch) (D : va_G) (G : sG) {M : sM} {L : sL} (m c : Int) (hmr : InR m) (hcr : InR c) (hT : TInv M) (hc : qCt M) : sKi l D G yX7_seen cX7_seen 3 .int 2 42 [.ref (G.1 (258)), .int (sI (m)), .int (sI (c))] M L (fun r M' L' => r = sI (qrSeen M m c) ∧ M' = qmSeen M m c ∧ TInv M' ∧ L = L') := by
  refine sKi_go (by decide) (Nat.le_of_ble_eq_true rfl) ?_
  intro zp ze zs zm za zb zt zc Q C hret
  refine at_eq (lv' := [(0, .ref (G.1 (258))), (1, .int (sI (m))), (2, .int (sI (c)))]) (st' := []) (M' := M) (L' := L) ?_ rfl rfl rfl rfl
  have hqn := qn_r hT
  have hqc := qc_r hT
  have hqu := qu_r hT
  have hqt := qt_r hT
  have hqs := qs_r hT
  have hqo := qo_r hT
  have hqm := qm_r hT
  refine at_iload_n C 1 dX7_seen_0 rfl ?_
  refine at_iconst C dX7_seen_1 ?_
  refine at_bipush C dX7_seen_2 (by decide) (by decide) ?_
  refine at_stat_i C (c_X7_in l D G m 0 60 ⟨by omega, by omega⟩ ⟨by omega, by omega⟩ ⟨by omega, by omega⟩) (As := [.int (sI (m)), .int (sI (0)), .int (sI (60))]) qw_1004 qw_1002 qw_8 qw_1003 ⟨by decide, by decide, show (parseMethodDescriptor yX7_in.desc).map (fun d => d.parameters.length) = some 3 by decide +kernel⟩ ⟨by decide, by decide⟩ ⟨Nat.zero_le _, Nat.zero_le _⟩ (Nat.le_of_ble_eq_true rfl) dX7_seen_4 rfl (fun r M' L' hp1 => ?_)
  obtain ⟨rfl, rfl, rfl⟩ := hp1
  refine at_if_eqB C 17 dX7_seen_7 (by decide) (fun h2 => ?_) (fun h2 => ?_)
  · refine at_aload_n C 0 dX7_seen_17 rfl ?_
    refine at_call_i C (c_X7_bad l D G hT ⟨by omega, by omega, by omega⟩) (As := []) (obj_Ref G) (ci := 7) rfl qw_1012 qw_1009 qw_8 qw_1011 qp_34 ⟨by decide, by decide, show (parseMethodDescriptor yX7_bad.desc).map (fun d => d.parameters.length) = some 0 by decide +kernel⟩ ⟨by decide, by decide⟩ ⟨Nat.zero_le _, Nat.zero_le _⟩ (Nat.le_of_ble_eq_true rfl) dX7_seen_18 rfl (fun r M' L' hp4 => ?_)
    obtain ⟨rfl, rfl, hT3, rfl⟩ := hp4
    exact hret _ _ _ _ _ dX7_seen_21 (⟨congrArg sI (if_neg (by first | omega | (simp only [Int.toNat_natCast]; omega))).symm, (if_neg (by first | omega | (simp only [Int.toNat_natCast]; omega))).symm, hT3, rfl⟩)
  · refine at_iload_n C 2 dX7_seen_10 rfl ?_
    refine at_stat_i C (c_X7_isCell l D G c ⟨by omega, by omega⟩) (As := [.int (sI (c))]) qw_1001 qw_999 qw_8 qw_1000 ⟨by decide, by decide, show (parseMethodDescriptor yX7_isCell.desc).map (fun d => d.parameters.length) = some 1 by decide +kernel⟩ ⟨by decide, by decide⟩ ⟨Nat.zero_le _, Nat.zero_le _⟩ (Nat.le_of_ble_eq_true rfl) dX7_seen_11 rfl (fun r M' L' hp5 => ?_)
    obtain ⟨rfl, rfl, rfl⟩ := hp5
    refine at_if_neB C 22 dX7_seen_14 (by decide) (fun h6 => ?_) (fun h6 => ?_)
    · refine at_aload_n C 0 dX7_seen_22 rfl ?_
      refine at_getf (v := .int (sI (M 258 5))) C (obj_Ref G) (ci := 7) rfl inX7 (slot := 5) (by decide) qw_887 rfl rfl dX7_seen_23 ?_
      have hb7 : _ ≤ M 258 5 ∧ M 258 5 ≤ _ := tv hT (k := 258) (j := 5) rfl
      refine at_ve (b := (((qs M) : Nat) : Int)) (hqs.2) ?_
      refine at_iconst C dX7_seen_26 ?_
      refine at_icmp_ne C 35 dX7_seen_27 (by decide) (⟨by omega, by omega⟩) (⟨by omega, by omega⟩) (fun h8 => ?_) (fun h8 => ?_)
      · refine at_aload_n C 0 dX7_seen_35 rfl ?_
        refine at_getf (v := .ref (G.1 (267))) C (obj_Ref G) (ci := 7) rfl inX7 (slot := 15) (by decide) qw_897 rfl rfl dX7_seen_36 ?_
        refine at_iconst C dX7_seen_39 ?_
        refine at_aload_n C 0 dX7_seen_40 rfl ?_
        refine at_getf (v := .int (sI (M 258 5))) C (obj_Ref G) (ci := 7) rfl inX7 (slot := 5) (by decide) qw_887 rfl rfl dX7_seen_41 ?_
        have hb9 : _ ≤ M 258 5 ∧ M 258 5 ≤ _ := tv hT (k := 258) (j := 5) rfl
        refine at_ve (b := (((qs M) : Nat) : Int)) (hqs.2) ?_
        refine at_imul C dX7_seen_44 ?_
        refine at_iload_n C 1 dX7_seen_45 rfl ?_
        refine at_iast C (2 * (qs M)) (ar_267 G) (by omega) (by omega) dX7_seen_46 ?_
        have hT10 : TInv (sSt M 267 (2 * (qs M)) m) := tv_st hT (k := 267) rfl (⟨by omega, by omega⟩)
        refine at_aload_n C 0 dX7_seen_47 rfl ?_
        refine at_getf (v := .ref (G.1 (267))) C (obj_Ref G) (ci := 7) rfl inX7 (slot := 15) (by decide) qw_897 rfl rfl dX7_seen_48 ?_
        refine at_iconst C dX7_seen_51 ?_
        refine at_aload_n C 0 dX7_seen_52 rfl ?_
        refine at_getf (v := .int (sI ((sSt M 267 (2 * (qs M)) m) 258 5))) C (obj_Ref G) (ci := 7) rfl inX7 (slot := 5) (by decide) qw_887 rfl rfl dX7_seen_53 ?_
        refine at_ve (b := M 258 5) (rfl) ?_
        have hb11 : _ ≤ M 258 5 ∧ M 258 5 ≤ _ := tv hT10 (k := 258) (j := 5) rfl
        refine at_ve (b := (((qs M) : Nat) : Int)) (hqs.2) ?_
        refine at_imul C dX7_seen_56 ?_
        refine at_iconst C dX7_seen_57 ?_
        refine at_iadd C dX7_seen_58 ?_
        refine at_iload_n C 2 dX7_seen_59 rfl ?_
        refine at_iast C ((2 * (qs M)) + 1) (ar_267 G) (by omega) (by omega) dX7_seen_60 ?_
        have hT12 : TInv (sSt (sSt M 267 (2 * (qs M)) m) 267 ((2 * (qs M)) + 1) c) := tv_st hT10 (k := 267) rfl (⟨by omega, by omega⟩)
        refine at_aload_n C 0 dX7_seen_61 rfl ?_
        refine at_dup C dX7_seen_62 rfl ?_
        refine at_getf (v := .int (sI ((sSt (sSt M 267 (2 * (qs M)) m) 267 ((2 * (qs M)) + 1) c) 258 5))) C (obj_Ref G) (ci := 7) rfl inX7 (slot := 5) (by decide) qw_887 rfl rfl dX7_seen_63 ?_
        refine at_ve (b := M 258 5) (rfl) ?_
        have hb13 : _ ≤ M 258 5 ∧ M 258 5 ≤ _ := tv hT12 (k := 258) (j := 5) rfl
        refine at_ve (b := (((qs M) : Nat) : Int)) (hqs.2) ?_
        refine at_iconst C dX7_seen_66 ?_
        refine at_iadd C dX7_seen_67 ?_
        refine at_putM (slot := 5) (ty := .int) C tyX7 (obj_Ref G) (ci := 7) rfl inX7 tyX7_ok nmX7 (by decide) qw_887 rfl rfl (by decide +kernel) rfl rfl (Nat.le_of_ble_eq_true rfl) rfl dX7_seen_68 ?_
        have hT14 : TInv (sSt (sSt (sSt M 267 (2 * (qs M)) m) 267 ((2 * (qs M)) + 1) c) 258 5 ((((qs M) : Nat) : Int) + 1)) := tv_st hT12 (k := 258) (j := 5) rfl (⟨by omega, by omega⟩)
        refine at_aload_n C 0 dX7_seen_71 rfl ?_
        refine at_getf (v := .int (sI ((sSt (sSt (sSt M 267 (2 * (qs M)) m) 267 ((2 * (qs M)) + 1) c) 258 5 ((((qs M) : Nat) : Int) + 1)) 258 5))) C (obj_Ref G) (ci := 7) rfl inX7 (slot := 5) (by decide) qw_887 rfl rfl dX7_seen_72 ?_
        refine at_ve (b := (((qs M) : Nat) : Int) + 1) (sSt_eq) ?_
        exact hret _ _ _ _ _ dX7_seen_75 (⟨congrArg sI (by unfold qrSeen; rw [if_pos (by omega), if_neg (by omega)]; omega), by unfold qmSeen qAS; rw [if_pos (by omega), if_neg (by omega), hqs.2], hT14, rfl⟩)
      · refine at_aload_n C 0 dX7_seen_30 rfl ?_
        refine at_call_i C (c_X7_full l D G hT ⟨by omega, by omega, by omega⟩) (As := []) (obj_Ref G) (ci := 7) rfl qw_1020 qw_1017 qw_8 qw_1019 qp_35 ⟨by decide, by decide, show (parseMethodDescriptor yX7_full.desc).map (fun d => d.parameters.length) = some 0 by decide +kernel⟩ ⟨by decide, by decide⟩ ⟨Nat.zero_le _, Nat.zero_le _⟩ (Nat.le_of_ble_eq_true rfl) dX7_seen_31 rfl (fun r M' L' hp16 => ?_)
        obtain ⟨rfl, rfl, hT15, rfl⟩ := hp16
        exact hret _ _ _ _ _ dX7_seen_34 (⟨congrArg sI ((if_pos (by first | omega | (simp only [Int.toNat_natCast]; omega))).trans (if_pos (by first | omega | (simp only [Int.toNat_natCast]; omega)))).symm, ((if_pos (by first | omega | (simp only [Int.toNat_natCast]; omega))).trans (if_pos (by first | omega | (simp only [Int.toNat_natCast]; omega)))).symm, hT15, rfl⟩)
    · refine at_aload_n C 0 dX7_seen_17 rfl ?_
      refine at_call_i C (c_X7_bad l D G hT ⟨by omega, by omega, by omega⟩) (As := []) (obj_Ref G) (ci := 7) rfl qw_1012 qw_1009 qw_8 qw_1011 qp_34 ⟨by decide, by decide, show (parseMethodDescriptor yX7_bad.desc).map (fun d => d.parameters.length) = some 0 by decide +kernel⟩ ⟨by decide, by decide⟩ ⟨Nat.zero_le _, Nat.zero_le _⟩ (Nat.le_of_ble_eq_true rfl) dX7_seen_18 rfl (fun r M' L' hp18 => ?_)
      obtain ⟨rfl, rfl, hT17, rfl⟩ := hp18
      exact hret _ _ _ _ _ dX7_seen_21 (⟨congrArg sI (if_neg (by first | omega | (simp only [Int.toNat_natCast]; omega))).symm, (if_neg (by first | omega | (simp only [Int.toNat_natCast]; omega))).symm, hT17, rfl⟩)

set_option maxHeartbeats 4000000 in
set_option maxRecDepth 100000 in
theorem c_X7_note (l : Launch) (D : va_G) (G : sG) {M : sM} {L : sL} (s w d x : Int) (hsr : InR s) (hwr : InR w) (hdr : InR d) (hxr : InR x) (hT : TInv M) (hc : qCt M) : sKi l D G yX7_note cX7_note 5 .int 2 43 [.ref (G.1 (258)), .int (sI (s)), .int (sI (w)), .int (sI (d)), .int (sI (x))] M L (fun r M' L' => r = sI (qrNote M s w d x) ∧ M' = qmNote M s w d x ∧ TInv M' ∧ L = L') := by
  refine sKi_go (by decide) (Nat.le_of_ble_eq_true rfl) ?_
  intro zp ze zs zm za zb zt zc Q C hret
  refine at_eq (lv' := [(0, .ref (G.1 (258))), (1, .int (sI (s))), (2, .int (sI (w))), (3, .int (sI (d))), (4, .int (sI (x)))]) (st' := []) (M' := M) (L' := L) ?_ rfl rfl rfl rfl
  have hqn := qn_r hT
  have hqc := qc_r hT
  have hqu := qu_r hT
  have hqt := qt_r hT
  have hqs := qs_r hT
  have hqo := qo_r hT
  have hqm := qm_r hT
  refine at_aload_n C 0 dX7_note_0 rfl ?_
  refine at_iload_n C 1 dX7_note_1 rfl ?_
  refine at_call_i C (c_X7_isSoul l D G s ⟨by omega, by omega⟩ hT) (As := [.int (sI (s))]) (obj_Ref G) (ci := 7) rfl qw_1177 qw_1174 qw_8 qw_1176 qp_65 ⟨by decide, by decide, show (parseMethodDescriptor yX7_isSoul.desc).map (fun d => d.parameters.length) = some 1 by decide +kernel⟩ ⟨by decide, by decide⟩ ⟨Nat.zero_le _, Nat.zero_le _⟩ (Nat.le_of_ble_eq_true rfl) dX7_note_2 rfl (fun r M' L' hp1 => ?_)
  obtain ⟨rfl, rfl, rfl⟩ := hp1
  refine at_if_eqB C 39 dX7_note_5 (by decide) (fun h2 => ?_) (fun h2 => ?_)
  · refine at_aload_n C 0 dX7_note_39 rfl ?_
    refine at_call_i C (c_X7_bad l D G hT ⟨by omega, by omega, by omega⟩) (As := []) (obj_Ref G) (ci := 7) rfl qw_1012 qw_1009 qw_8 qw_1011 qp_34 ⟨by decide, by decide, show (parseMethodDescriptor yX7_bad.desc).map (fun d => d.parameters.length) = some 0 by decide +kernel⟩ ⟨by decide, by decide⟩ ⟨Nat.zero_le _, Nat.zero_le _⟩ (Nat.le_of_ble_eq_true rfl) dX7_note_40 rfl (fun r M' L' hp4 => ?_)
    obtain ⟨rfl, rfl, hT3, rfl⟩ := hp4
    exact hret _ _ _ _ _ dX7_note_43 (⟨congrArg sI (if_neg (by first | omega | (simp only [Int.toNat_natCast]; omega))).symm, (if_neg (by first | omega | (simp only [Int.toNat_natCast]; omega))).symm, hT3, rfl⟩)
  · refine at_iload_n C 2 dX7_note_8 rfl ?_
    refine at_iconst C dX7_note_9 ?_
    refine at_bipush C dX7_note_10 (by decide) (by decide) ?_
    refine at_stat_i C (c_X7_in l D G w 1 9 ⟨by omega, by omega⟩ ⟨by omega, by omega⟩ ⟨by omega, by omega⟩) (As := [.int (sI (w)), .int (sI (1)), .int (sI (9))]) qw_1004 qw_1002 qw_8 qw_1003 ⟨by decide, by decide, show (parseMethodDescriptor yX7_in.desc).map (fun d => d.parameters.length) = some 3 by decide +kernel⟩ ⟨by decide, by decide⟩ ⟨Nat.zero_le _, Nat.zero_le _⟩ (Nat.le_of_ble_eq_true rfl) dX7_note_12 rfl (fun r M' L' hp5 => ?_)
    obtain ⟨rfl, rfl, rfl⟩ := hp5
    refine at_if_eqB C 39 dX7_note_15 (by decide) (fun h6 => ?_) (fun h6 => ?_)
    · refine at_aload_n C 0 dX7_note_39 rfl ?_
      refine at_call_i C (c_X7_bad l D G hT ⟨by omega, by omega, by omega⟩) (As := []) (obj_Ref G) (ci := 7) rfl qw_1012 qw_1009 qw_8 qw_1011 qp_34 ⟨by decide, by decide, show (parseMethodDescriptor yX7_bad.desc).map (fun d => d.parameters.length) = some 0 by decide +kernel⟩ ⟨by decide, by decide⟩ ⟨Nat.zero_le _, Nat.zero_le _⟩ (Nat.le_of_ble_eq_true rfl) dX7_note_40 rfl (fun r M' L' hp8 => ?_)
      obtain ⟨rfl, rfl, hT7, rfl⟩ := hp8
      exact hret _ _ _ _ _ dX7_note_43 (⟨congrArg sI (if_neg (by first | omega | (simp only [Int.toNat_natCast]; omega))).symm, (if_neg (by first | omega | (simp only [Int.toNat_natCast]; omega))).symm, hT7, rfl⟩)
    · refine at_iload_n C 3 dX7_note_18 rfl ?_
      refine at_iconst C dX7_note_19 ?_
      refine at_bipush C dX7_note_20 (by decide) (by decide) ?_
      refine at_stat_i C (c_X7_in l D G d 0 99 ⟨by omega, by omega⟩ ⟨by omega, by omega⟩ ⟨by omega, by omega⟩) (As := [.int (sI (d)), .int (sI (0)), .int (sI (99))]) qw_1004 qw_1002 qw_8 qw_1003 ⟨by decide, by decide, show (parseMethodDescriptor yX7_in.desc).map (fun d => d.parameters.length) = some 3 by decide +kernel⟩ ⟨by decide, by decide⟩ ⟨Nat.zero_le _, Nat.zero_le _⟩ (Nat.le_of_ble_eq_true rfl) dX7_note_22 rfl (fun r M' L' hp9 => ?_)
      obtain ⟨rfl, rfl, rfl⟩ := hp9
      refine at_if_eqB C 39 dX7_note_25 (by decide) (fun h10 => ?_) (fun h10 => ?_)
      · refine at_aload_n C 0 dX7_note_39 rfl ?_
        refine at_call_i C (c_X7_bad l D G hT ⟨by omega, by omega, by omega⟩) (As := []) (obj_Ref G) (ci := 7) rfl qw_1012 qw_1009 qw_8 qw_1011 qp_34 ⟨by decide, by decide, show (parseMethodDescriptor yX7_bad.desc).map (fun d => d.parameters.length) = some 0 by decide +kernel⟩ ⟨by decide, by decide⟩ ⟨Nat.zero_le _, Nat.zero_le _⟩ (Nat.le_of_ble_eq_true rfl) dX7_note_40 rfl (fun r M' L' hp12 => ?_)
        obtain ⟨rfl, rfl, hT11, rfl⟩ := hp12
        exact hret _ _ _ _ _ dX7_note_43 (⟨congrArg sI (if_neg (by first | omega | (simp only [Int.toNat_natCast]; omega))).symm, (if_neg (by first | omega | (simp only [Int.toNat_natCast]; omega))).symm, hT11, rfl⟩)
      · refine at_iload C 4 dX7_note_28 rfl ?_
        refine at_iconst C dX7_note_30 ?_
        refine at_bipush C dX7_note_31 (by decide) (by decide) ?_
        refine at_stat_i C (c_X7_in l D G x 0 30 ⟨by omega, by omega⟩ ⟨by omega, by omega⟩ ⟨by omega, by omega⟩) (As := [.int (sI (x)), .int (sI (0)), .int (sI (30))]) qw_1004 qw_1002 qw_8 qw_1003 ⟨by decide, by decide, show (parseMethodDescriptor yX7_in.desc).map (fun d => d.parameters.length) = some 3 by decide +kernel⟩ ⟨by decide, by decide⟩ ⟨Nat.zero_le _, Nat.zero_le _⟩ (Nat.le_of_ble_eq_true rfl) dX7_note_33 rfl (fun r M' L' hp13 => ?_)
        obtain ⟨rfl, rfl, rfl⟩ := hp13
        refine at_if_neB C 44 dX7_note_36 (by decide) (fun h14 => ?_) (fun h14 => ?_)
        · refine at_aload_n C 0 dX7_note_44 rfl ?_
          refine at_getf (v := .int (sI (M 258 6))) C (obj_Ref G) (ci := 7) rfl inX7 (slot := 6) (by decide) qw_888 rfl rfl dX7_note_45 ?_
          have hb15 : _ ≤ M 258 6 ∧ M 258 6 ≤ _ := tv hT (k := 258) (j := 6) rfl
          refine at_ve (b := (((qo M) : Nat) : Int)) (hqo.2) ?_
          refine at_bipush C dX7_note_48 (by decide) (by decide) ?_
          refine at_icmp_ne C 58 dX7_note_50 (by decide) (⟨by omega, by omega⟩) (⟨by omega, by omega⟩) (fun h16 => ?_) (fun h16 => ?_)
          · refine at_aload_n C 0 dX7_note_58 rfl ?_
            refine at_getf (v := .ref (G.1 (268))) C (obj_Ref G) (ci := 7) rfl inX7 (slot := 16) (by decide) qw_898 rfl rfl dX7_note_59 ?_
            refine at_iconst C dX7_note_62 ?_
            refine at_aload_n C 0 dX7_note_63 rfl ?_
            refine at_getf (v := .int (sI (M 258 6))) C (obj_Ref G) (ci := 7) rfl inX7 (slot := 6) (by decide) qw_888 rfl rfl dX7_note_64 ?_
            have hb17 : _ ≤ M 258 6 ∧ M 258 6 ≤ _ := tv hT (k := 258) (j := 6) rfl
            refine at_ve (b := (((qo M) : Nat) : Int)) (hqo.2) ?_
            refine at_imul C dX7_note_67 ?_
            refine at_iload_n C 1 dX7_note_68 rfl ?_
            refine at_iast C (4 * (qo M)) (ar_268 G) (by omega) (by omega) dX7_note_69 ?_
            have hT18 : TInv (sSt M 268 (4 * (qo M)) s) := tv_st hT (k := 268) rfl (⟨by omega, by omega⟩)
            refine at_aload_n C 0 dX7_note_70 rfl ?_
            refine at_getf (v := .ref (G.1 (268))) C (obj_Ref G) (ci := 7) rfl inX7 (slot := 16) (by decide) qw_898 rfl rfl dX7_note_71 ?_
            refine at_iconst C dX7_note_74 ?_
            refine at_aload_n C 0 dX7_note_75 rfl ?_
            refine at_getf (v := .int (sI ((sSt M 268 (4 * (qo M)) s) 258 6))) C (obj_Ref G) (ci := 7) rfl inX7 (slot := 6) (by decide) qw_888 rfl rfl dX7_note_76 ?_
            refine at_ve (b := M 258 6) (rfl) ?_
            have hb19 : _ ≤ M 258 6 ∧ M 258 6 ≤ _ := tv hT18 (k := 258) (j := 6) rfl
            refine at_ve (b := (((qo M) : Nat) : Int)) (hqo.2) ?_
            refine at_imul C dX7_note_79 ?_
            refine at_iconst C dX7_note_80 ?_
            refine at_iadd C dX7_note_81 ?_
            refine at_iload_n C 2 dX7_note_82 rfl ?_
            refine at_iast C ((4 * (qo M)) + 1) (ar_268 G) (by omega) (by omega) dX7_note_83 ?_
            have hT20 : TInv (sSt (sSt M 268 (4 * (qo M)) s) 268 ((4 * (qo M)) + 1) w) := tv_st hT18 (k := 268) rfl (⟨by omega, by omega⟩)
            refine at_aload_n C 0 dX7_note_84 rfl ?_
            refine at_getf (v := .ref (G.1 (268))) C (obj_Ref G) (ci := 7) rfl inX7 (slot := 16) (by decide) qw_898 rfl rfl dX7_note_85 ?_
            refine at_iconst C dX7_note_88 ?_
            refine at_aload_n C 0 dX7_note_89 rfl ?_
            refine at_getf (v := .int (sI ((sSt (sSt M 268 (4 * (qo M)) s) 268 ((4 * (qo M)) + 1) w) 258 6))) C (obj_Ref G) (ci := 7) rfl inX7 (slot := 6) (by decide) qw_888 rfl rfl dX7_note_90 ?_
            refine at_ve (b := M 258 6) (rfl) ?_
            have hb21 : _ ≤ M 258 6 ∧ M 258 6 ≤ _ := tv hT20 (k := 258) (j := 6) rfl
            refine at_ve (b := (((qo M) : Nat) : Int)) (hqo.2) ?_
            refine at_imul C dX7_note_93 ?_
            refine at_iconst C dX7_note_94 ?_
            refine at_iadd C dX7_note_95 ?_
            refine at_iload_n C 3 dX7_note_96 rfl ?_
            refine at_iast C ((4 * (qo M)) + 2) (ar_268 G) (by omega) (by omega) dX7_note_97 ?_
            have hT22 : TInv (sSt (sSt (sSt M 268 (4 * (qo M)) s) 268 ((4 * (qo M)) + 1) w) 268 ((4 * (qo M)) + 2) d) := tv_st hT20 (k := 268) rfl (⟨by omega, by omega⟩)
            refine at_aload_n C 0 dX7_note_98 rfl ?_
            refine at_getf (v := .ref (G.1 (268))) C (obj_Ref G) (ci := 7) rfl inX7 (slot := 16) (by decide) qw_898 rfl rfl dX7_note_99 ?_
            refine at_iconst C dX7_note_102 ?_
            refine at_aload_n C 0 dX7_note_103 rfl ?_
            refine at_getf (v := .int (sI ((sSt (sSt (sSt M 268 (4 * (qo M)) s) 268 ((4 * (qo M)) + 1) w) 268 ((4 * (qo M)) + 2) d) 258 6))) C (obj_Ref G) (ci := 7) rfl inX7 (slot := 6) (by decide) qw_888 rfl rfl dX7_note_104 ?_
            refine at_ve (b := M 258 6) (rfl) ?_
            have hb23 : _ ≤ M 258 6 ∧ M 258 6 ≤ _ := tv hT22 (k := 258) (j := 6) rfl
            refine at_ve (b := (((qo M) : Nat) : Int)) (hqo.2) ?_
            refine at_imul C dX7_note_107 ?_
            refine at_iconst C dX7_note_108 ?_
            refine at_iadd C dX7_note_109 ?_
            refine at_iload C 4 dX7_note_110 rfl ?_
            refine at_iast C ((4 * (qo M)) + 3) (ar_268 G) (by omega) (by omega) dX7_note_112 ?_
            have hT24 : TInv (sSt (sSt (sSt (sSt M 268 (4 * (qo M)) s) 268 ((4 * (qo M)) + 1) w) 268 ((4 * (qo M)) + 2) d) 268 ((4 * (qo M)) + 3) x) := tv_st hT22 (k := 268) rfl (⟨by omega, by omega⟩)
            refine at_aload_n C 0 dX7_note_113 rfl ?_
            refine at_dup C dX7_note_114 rfl ?_
            refine at_getf (v := .int (sI ((sSt (sSt (sSt (sSt M 268 (4 * (qo M)) s) 268 ((4 * (qo M)) + 1) w) 268 ((4 * (qo M)) + 2) d) 268 ((4 * (qo M)) + 3) x) 258 6))) C (obj_Ref G) (ci := 7) rfl inX7 (slot := 6) (by decide) qw_888 rfl rfl dX7_note_115 ?_
            refine at_ve (b := M 258 6) (rfl) ?_
            have hb25 : _ ≤ M 258 6 ∧ M 258 6 ≤ _ := tv hT24 (k := 258) (j := 6) rfl
            refine at_ve (b := (((qo M) : Nat) : Int)) (hqo.2) ?_
            refine at_iconst C dX7_note_118 ?_
            refine at_iadd C dX7_note_119 ?_
            refine at_putM (slot := 6) (ty := .int) C tyX7 (obj_Ref G) (ci := 7) rfl inX7 tyX7_ok nmX7 (by decide) qw_888 rfl rfl (by decide +kernel) rfl rfl (Nat.le_of_ble_eq_true rfl) rfl dX7_note_120 ?_
            have hT26 : TInv (sSt (sSt (sSt (sSt (sSt M 268 (4 * (qo M)) s) 268 ((4 * (qo M)) + 1) w) 268 ((4 * (qo M)) + 2) d) 268 ((4 * (qo M)) + 3) x) 258 6 ((((qo M) : Nat) : Int) + 1)) := tv_st hT24 (k := 258) (j := 6) rfl (⟨by omega, by omega⟩)
            refine at_aload_n C 0 dX7_note_123 rfl ?_
            refine at_getf (v := .int (sI ((sSt (sSt (sSt (sSt (sSt M 268 (4 * (qo M)) s) 268 ((4 * (qo M)) + 1) w) 268 ((4 * (qo M)) + 2) d) 268 ((4 * (qo M)) + 3) x) 258 6 ((((qo M) : Nat) : Int) + 1)) 258 6))) C (obj_Ref G) (ci := 7) rfl inX7 (slot := 6) (by decide) qw_888 rfl rfl dX7_note_124 ?_
            refine at_ve (b := (((qo M) : Nat) : Int) + 1) (sSt_eq) ?_
            exact hret _ _ _ _ _ dX7_note_127 (⟨congrArg sI (by unfold qrNote; rw [if_pos (by omega), if_neg (by omega)]; omega), by unfold qmNote qAN; rw [if_pos (by omega), if_neg (by omega), hqo.2], hT26, rfl⟩)
          · refine at_aload_n C 0 dX7_note_53 rfl ?_
            refine at_call_i C (c_X7_full l D G hT ⟨by omega, by omega, by omega⟩) (As := []) (obj_Ref G) (ci := 7) rfl qw_1020 qw_1017 qw_8 qw_1019 qp_35 ⟨by decide, by decide, show (parseMethodDescriptor yX7_full.desc).map (fun d => d.parameters.length) = some 0 by decide +kernel⟩ ⟨by decide, by decide⟩ ⟨Nat.zero_le _, Nat.zero_le _⟩ (Nat.le_of_ble_eq_true rfl) dX7_note_54 rfl (fun r M' L' hp28 => ?_)
            obtain ⟨rfl, rfl, hT27, rfl⟩ := hp28
            exact hret _ _ _ _ _ dX7_note_57 (⟨congrArg sI ((if_pos (by first | omega | (simp only [Int.toNat_natCast]; omega))).trans (if_pos (by first | omega | (simp only [Int.toNat_natCast]; omega)))).symm, ((if_pos (by first | omega | (simp only [Int.toNat_natCast]; omega))).trans (if_pos (by first | omega | (simp only [Int.toNat_natCast]; omega)))).symm, hT27, rfl⟩)
        · refine at_aload_n C 0 dX7_note_39 rfl ?_
          refine at_call_i C (c_X7_bad l D G hT ⟨by omega, by omega, by omega⟩) (As := []) (obj_Ref G) (ci := 7) rfl qw_1012 qw_1009 qw_8 qw_1011 qp_34 ⟨by decide, by decide, show (parseMethodDescriptor yX7_bad.desc).map (fun d => d.parameters.length) = some 0 by decide +kernel⟩ ⟨by decide, by decide⟩ ⟨Nat.zero_le _, Nat.zero_le _⟩ (Nat.le_of_ble_eq_true rfl) dX7_note_40 rfl (fun r M' L' hp30 => ?_)
          obtain ⟨rfl, rfl, hT29, rfl⟩ := hp30
          exact hret _ _ _ _ _ dX7_note_43 (⟨congrArg sI (if_neg (by first | omega | (simp only [Int.toNat_natCast]; omega))).symm, (if_neg (by first | omega | (simp only [Int.toNat_natCast]; omega))).symm, hT29, rfl⟩)

set_option maxHeartbeats 4000000 in
set_option maxRecDepth 100000 in
theorem c_X7_mark (l : Launch) (D : va_G) (G : sG) {M : sM} {L : sL} (i x y : Int) (hir : InR i) (hxr : InR x) (hyr : InR y) (hT : TInv M) (hc : qCt M) : sKi l D G yX7_mark cX7_mark 4 .int 2 43 [.ref (G.1 (258)), .int (sI (i)), .int (sI (x)), .int (sI (y))] M L (fun r M' L' => r = sI (qrMark M i x y) ∧ M' = qmMark M i x y ∧ TInv M' ∧ L = L') := by
  refine sKi_go (by decide) (Nat.le_of_ble_eq_true rfl) ?_
  intro zp ze zs zm za zb zt zc Q C hret
  refine at_eq (lv' := [(0, .ref (G.1 (258))), (1, .int (sI (i))), (2, .int (sI (x))), (3, .int (sI (y)))]) (st' := []) (M' := M) (L' := L) ?_ rfl rfl rfl rfl
  have hqn := qn_r hT
  have hqc := qc_r hT
  have hqu := qu_r hT
  have hqt := qt_r hT
  have hqs := qs_r hT
  have hqo := qo_r hT
  have hqm := qm_r hT
  refine at_aload_n C 0 dX7_mark_0 rfl ?_
  refine at_iload_n C 1 dX7_mark_1 rfl ?_
  refine at_call_i C (c_X7_isCaller l D G i ⟨by omega, by omega⟩ hT) (As := [.int (sI (i))]) (obj_Ref G) (ci := 7) rfl qw_1224 qw_1221 qw_8 qw_1223 qp_73 ⟨by decide, by decide, show (parseMethodDescriptor yX7_isCaller.desc).map (fun d => d.parameters.length) = some 1 by decide +kernel⟩ ⟨by decide, by decide⟩ ⟨Nat.zero_le _, Nat.zero_le _⟩ (Nat.le_of_ble_eq_true rfl) dX7_mark_2 rfl (fun r M' L' hp1 => ?_)
  obtain ⟨rfl, rfl, rfl⟩ := hp1
  refine at_if_eqB C 28 dX7_mark_5 (by decide) (fun h2 => ?_) (fun h2 => ?_)
  · refine at_aload_n C 0 dX7_mark_28 rfl ?_
    refine at_call_i C (c_X7_bad l D G hT ⟨by omega, by omega, by omega⟩) (As := []) (obj_Ref G) (ci := 7) rfl qw_1012 qw_1009 qw_8 qw_1011 qp_34 ⟨by decide, by decide, show (parseMethodDescriptor yX7_bad.desc).map (fun d => d.parameters.length) = some 0 by decide +kernel⟩ ⟨by decide, by decide⟩ ⟨Nat.zero_le _, Nat.zero_le _⟩ (Nat.le_of_ble_eq_true rfl) dX7_mark_29 rfl (fun r M' L' hp4 => ?_)
    obtain ⟨rfl, rfl, hT3, rfl⟩ := hp4
    exact hret _ _ _ _ _ dX7_mark_32 (⟨congrArg sI (if_neg (by first | omega | (simp only [Int.toNat_natCast]; omega))).symm, (if_neg (by first | omega | (simp only [Int.toNat_natCast]; omega))).symm, hT3, rfl⟩)
  · refine at_iload_n C 2 dX7_mark_8 rfl ?_
    refine at_iconst C dX7_mark_9 ?_
    refine at_bipush C dX7_mark_10 (by decide) (by decide) ?_
    refine at_stat_i C (c_X7_in l D G x 0 30 ⟨by omega, by omega⟩ ⟨by omega, by omega⟩ ⟨by omega, by omega⟩) (As := [.int (sI (x)), .int (sI (0)), .int (sI (30))]) qw_1004 qw_1002 qw_8 qw_1003 ⟨by decide, by decide, show (parseMethodDescriptor yX7_in.desc).map (fun d => d.parameters.length) = some 3 by decide +kernel⟩ ⟨by decide, by decide⟩ ⟨Nat.zero_le _, Nat.zero_le _⟩ (Nat.le_of_ble_eq_true rfl) dX7_mark_12 rfl (fun r M' L' hp5 => ?_)
    obtain ⟨rfl, rfl, rfl⟩ := hp5
    refine at_if_eqB C 28 dX7_mark_15 (by decide) (fun h6 => ?_) (fun h6 => ?_)
    · refine at_aload_n C 0 dX7_mark_28 rfl ?_
      refine at_call_i C (c_X7_bad l D G hT ⟨by omega, by omega, by omega⟩) (As := []) (obj_Ref G) (ci := 7) rfl qw_1012 qw_1009 qw_8 qw_1011 qp_34 ⟨by decide, by decide, show (parseMethodDescriptor yX7_bad.desc).map (fun d => d.parameters.length) = some 0 by decide +kernel⟩ ⟨by decide, by decide⟩ ⟨Nat.zero_le _, Nat.zero_le _⟩ (Nat.le_of_ble_eq_true rfl) dX7_mark_29 rfl (fun r M' L' hp8 => ?_)
      obtain ⟨rfl, rfl, hT7, rfl⟩ := hp8
      exact hret _ _ _ _ _ dX7_mark_32 (⟨congrArg sI (if_neg (by first | omega | (simp only [Int.toNat_natCast]; omega))).symm, (if_neg (by first | omega | (simp only [Int.toNat_natCast]; omega))).symm, hT7, rfl⟩)
    · refine at_iload_n C 3 dX7_mark_18 rfl ?_
      refine at_iconst C dX7_mark_19 ?_
      refine at_bipush C dX7_mark_20 (by decide) (by decide) ?_
      refine at_stat_i C (c_X7_in l D G y 0 60 ⟨by omega, by omega⟩ ⟨by omega, by omega⟩ ⟨by omega, by omega⟩) (As := [.int (sI (y)), .int (sI (0)), .int (sI (60))]) qw_1004 qw_1002 qw_8 qw_1003 ⟨by decide, by decide, show (parseMethodDescriptor yX7_in.desc).map (fun d => d.parameters.length) = some 3 by decide +kernel⟩ ⟨by decide, by decide⟩ ⟨Nat.zero_le _, Nat.zero_le _⟩ (Nat.le_of_ble_eq_true rfl) dX7_mark_22 rfl (fun r M' L' hp9 => ?_)
      obtain ⟨rfl, rfl, rfl⟩ := hp9
      refine at_if_neB C 33 dX7_mark_25 (by decide) (fun h10 => ?_) (fun h10 => ?_)
      · refine at_aload_n C 0 dX7_mark_33 rfl ?_
        refine at_getf (v := .int (sI (M 258 7))) C (obj_Ref G) (ci := 7) rfl inX7 (slot := 7) (by decide) qw_889 rfl rfl dX7_mark_34 ?_
        have hb11 : _ ≤ M 258 7 ∧ M 258 7 ≤ _ := tv hT (k := 258) (j := 7) rfl
        refine at_ve (b := (((qm M) : Nat) : Int)) (hqm.2) ?_
        refine at_bipush C dX7_mark_37 (by decide) (by decide) ?_
        refine at_icmp_ne C 47 dX7_mark_39 (by decide) (⟨by omega, by omega⟩) (⟨by omega, by omega⟩) (fun h12 => ?_) (fun h12 => ?_)
        · refine at_aload_n C 0 dX7_mark_47 rfl ?_
          refine at_getf (v := .ref (G.1 (269))) C (obj_Ref G) (ci := 7) rfl inX7 (slot := 17) (by decide) qw_899 rfl rfl dX7_mark_48 ?_
          refine at_iconst C dX7_mark_51 ?_
          refine at_aload_n C 0 dX7_mark_52 rfl ?_
          refine at_getf (v := .int (sI (M 258 7))) C (obj_Ref G) (ci := 7) rfl inX7 (slot := 7) (by decide) qw_889 rfl rfl dX7_mark_53 ?_
          have hb13 : _ ≤ M 258 7 ∧ M 258 7 ≤ _ := tv hT (k := 258) (j := 7) rfl
          refine at_ve (b := (((qm M) : Nat) : Int)) (hqm.2) ?_
          refine at_imul C dX7_mark_56 ?_
          refine at_iload_n C 1 dX7_mark_57 rfl ?_
          refine at_iast C (3 * (qm M)) (ar_269 G) (by omega) (by omega) dX7_mark_58 ?_
          have hT14 : TInv (sSt M 269 (3 * (qm M)) i) := tv_st hT (k := 269) rfl (⟨by omega, by omega⟩)
          refine at_aload_n C 0 dX7_mark_59 rfl ?_
          refine at_getf (v := .ref (G.1 (269))) C (obj_Ref G) (ci := 7) rfl inX7 (slot := 17) (by decide) qw_899 rfl rfl dX7_mark_60 ?_
          refine at_iconst C dX7_mark_63 ?_
          refine at_aload_n C 0 dX7_mark_64 rfl ?_
          refine at_getf (v := .int (sI ((sSt M 269 (3 * (qm M)) i) 258 7))) C (obj_Ref G) (ci := 7) rfl inX7 (slot := 7) (by decide) qw_889 rfl rfl dX7_mark_65 ?_
          refine at_ve (b := M 258 7) (rfl) ?_
          have hb15 : _ ≤ M 258 7 ∧ M 258 7 ≤ _ := tv hT14 (k := 258) (j := 7) rfl
          refine at_ve (b := (((qm M) : Nat) : Int)) (hqm.2) ?_
          refine at_imul C dX7_mark_68 ?_
          refine at_iconst C dX7_mark_69 ?_
          refine at_iadd C dX7_mark_70 ?_
          refine at_iload_n C 2 dX7_mark_71 rfl ?_
          refine at_iast C ((3 * (qm M)) + 1) (ar_269 G) (by omega) (by omega) dX7_mark_72 ?_
          have hT16 : TInv (sSt (sSt M 269 (3 * (qm M)) i) 269 ((3 * (qm M)) + 1) x) := tv_st hT14 (k := 269) rfl (⟨by omega, by omega⟩)
          refine at_aload_n C 0 dX7_mark_73 rfl ?_
          refine at_getf (v := .ref (G.1 (269))) C (obj_Ref G) (ci := 7) rfl inX7 (slot := 17) (by decide) qw_899 rfl rfl dX7_mark_74 ?_
          refine at_iconst C dX7_mark_77 ?_
          refine at_aload_n C 0 dX7_mark_78 rfl ?_
          refine at_getf (v := .int (sI ((sSt (sSt M 269 (3 * (qm M)) i) 269 ((3 * (qm M)) + 1) x) 258 7))) C (obj_Ref G) (ci := 7) rfl inX7 (slot := 7) (by decide) qw_889 rfl rfl dX7_mark_79 ?_
          refine at_ve (b := M 258 7) (rfl) ?_
          have hb17 : _ ≤ M 258 7 ∧ M 258 7 ≤ _ := tv hT16 (k := 258) (j := 7) rfl
          refine at_ve (b := (((qm M) : Nat) : Int)) (hqm.2) ?_
          refine at_imul C dX7_mark_82 ?_
          refine at_iconst C dX7_mark_83 ?_
          refine at_iadd C dX7_mark_84 ?_
          refine at_iload_n C 3 dX7_mark_85 rfl ?_
          refine at_iast C ((3 * (qm M)) + 2) (ar_269 G) (by omega) (by omega) dX7_mark_86 ?_
          have hT18 : TInv (sSt (sSt (sSt M 269 (3 * (qm M)) i) 269 ((3 * (qm M)) + 1) x) 269 ((3 * (qm M)) + 2) y) := tv_st hT16 (k := 269) rfl (⟨by omega, by omega⟩)
          refine at_aload_n C 0 dX7_mark_87 rfl ?_
          refine at_dup C dX7_mark_88 rfl ?_
          refine at_getf (v := .int (sI ((sSt (sSt (sSt M 269 (3 * (qm M)) i) 269 ((3 * (qm M)) + 1) x) 269 ((3 * (qm M)) + 2) y) 258 7))) C (obj_Ref G) (ci := 7) rfl inX7 (slot := 7) (by decide) qw_889 rfl rfl dX7_mark_89 ?_
          refine at_ve (b := M 258 7) (rfl) ?_
          have hb19 : _ ≤ M 258 7 ∧ M 258 7 ≤ _ := tv hT18 (k := 258) (j := 7) rfl
          refine at_ve (b := (((qm M) : Nat) : Int)) (hqm.2) ?_
          refine at_iconst C dX7_mark_92 ?_
          refine at_iadd C dX7_mark_93 ?_
          refine at_putM (slot := 7) (ty := .int) C tyX7 (obj_Ref G) (ci := 7) rfl inX7 tyX7_ok nmX7 (by decide) qw_889 rfl rfl (by decide +kernel) rfl rfl (Nat.le_of_ble_eq_true rfl) rfl dX7_mark_94 ?_
          have hT20 : TInv (sSt (sSt (sSt (sSt M 269 (3 * (qm M)) i) 269 ((3 * (qm M)) + 1) x) 269 ((3 * (qm M)) + 2) y) 258 7 ((((qm M) : Nat) : Int) + 1)) := tv_st hT18 (k := 258) (j := 7) rfl (⟨by omega, by omega⟩)
          refine at_aload_n C 0 dX7_mark_97 rfl ?_
          refine at_getf (v := .int (sI ((sSt (sSt (sSt (sSt M 269 (3 * (qm M)) i) 269 ((3 * (qm M)) + 1) x) 269 ((3 * (qm M)) + 2) y) 258 7 ((((qm M) : Nat) : Int) + 1)) 258 7))) C (obj_Ref G) (ci := 7) rfl inX7 (slot := 7) (by decide) qw_889 rfl rfl dX7_mark_98 ?_
          refine at_ve (b := (((qm M) : Nat) : Int) + 1) (sSt_eq) ?_
          exact hret _ _ _ _ _ dX7_mark_101 (⟨congrArg sI (by unfold qrMark; rw [if_pos (by omega), if_neg (by omega)]; omega), by unfold qmMark qAK; rw [if_pos (by omega), if_neg (by omega), hqm.2], hT20, rfl⟩)
        · refine at_aload_n C 0 dX7_mark_42 rfl ?_
          refine at_call_i C (c_X7_full l D G hT ⟨by omega, by omega, by omega⟩) (As := []) (obj_Ref G) (ci := 7) rfl qw_1020 qw_1017 qw_8 qw_1019 qp_35 ⟨by decide, by decide, show (parseMethodDescriptor yX7_full.desc).map (fun d => d.parameters.length) = some 0 by decide +kernel⟩ ⟨by decide, by decide⟩ ⟨Nat.zero_le _, Nat.zero_le _⟩ (Nat.le_of_ble_eq_true rfl) dX7_mark_43 rfl (fun r M' L' hp22 => ?_)
          obtain ⟨rfl, rfl, hT21, rfl⟩ := hp22
          exact hret _ _ _ _ _ dX7_mark_46 (⟨congrArg sI ((if_pos (by first | omega | (simp only [Int.toNat_natCast]; omega))).trans (if_pos (by first | omega | (simp only [Int.toNat_natCast]; omega)))).symm, ((if_pos (by first | omega | (simp only [Int.toNat_natCast]; omega))).trans (if_pos (by first | omega | (simp only [Int.toNat_natCast]; omega)))).symm, hT21, rfl⟩)
      · refine at_aload_n C 0 dX7_mark_28 rfl ?_
        refine at_call_i C (c_X7_bad l D G hT ⟨by omega, by omega, by omega⟩) (As := []) (obj_Ref G) (ci := 7) rfl qw_1012 qw_1009 qw_8 qw_1011 qp_34 ⟨by decide, by decide, show (parseMethodDescriptor yX7_bad.desc).map (fun d => d.parameters.length) = some 0 by decide +kernel⟩ ⟨by decide, by decide⟩ ⟨Nat.zero_le _, Nat.zero_le _⟩ (Nat.le_of_ble_eq_true rfl) dX7_mark_29 rfl (fun r M' L' hp24 => ?_)
        obtain ⟨rfl, rfl, hT23, rfl⟩ := hp24
        exact hret _ _ _ _ _ dX7_mark_32 (⟨congrArg sI (if_neg (by first | omega | (simp only [Int.toNat_natCast]; omega))).symm, (if_neg (by first | omega | (simp only [Int.toNat_natCast]; omega))).symm, hT23, rfl⟩)

set_option maxHeartbeats 4000000 in
set_option maxRecDepth 100000 in
theorem c_X7_forget (l : Launch) (D : va_G) (G : sG) {M : sM} {L : sL} (w : Int) (hwr : InR w) (hT : TInv M) (hc : qCt M) : sKi l D G yX7_forget cX7_forget 3 .int 1 22 [.ref (G.1 (258)), .int (sI (w))] M L (fun r M' L' => r = sI (qrForget M w) ∧ M' = qmForget M w ∧ TInv M' ∧ L = L') := by
  refine sKi_go (by decide) (Nat.le_of_ble_eq_true rfl) ?_
  intro zp ze zs zm za zb zt zc Q C hret
  refine at_eq (lv' := [(0, .ref (G.1 (258))), (1, .int (sI (w)))]) (st' := []) (M' := M) (L' := L) ?_ rfl rfl rfl rfl
  have hqn := qn_r hT
  have hqc := qc_r hT
  have hqu := qu_r hT
  have hqt := qt_r hT
  have hqs := qs_r hT
  have hqo := qo_r hT
  have hqm := qm_r hT
  refine at_iload_n C 1 dX7_forget_0 rfl ?_
  refine at_iconst C dX7_forget_1 ?_
  refine at_iconst C dX7_forget_2 ?_
  refine at_stat_i C (c_X7_in l D G w 0 2 ⟨by omega, by omega⟩ ⟨by omega, by omega⟩ ⟨by omega, by omega⟩) (As := [.int (sI (w)), .int (sI (0)), .int (sI (2))]) qw_1004 qw_1002 qw_8 qw_1003 ⟨by decide, by decide, show (parseMethodDescriptor yX7_in.desc).map (fun d => d.parameters.length) = some 3 by decide +kernel⟩ ⟨by decide, by decide⟩ ⟨Nat.zero_le _, Nat.zero_le _⟩ (Nat.le_of_ble_eq_true rfl) dX7_forget_3 rfl (fun r M' L' hp1 => ?_)
  obtain ⟨rfl, rfl, rfl⟩ := hp1
  refine at_if_neB C 14 dX7_forget_6 (by decide) (fun h2 => ?_) (fun h2 => ?_)
  · refine at_iload_n C 1 dX7_forget_14 rfl ?_
    refine at_if_ne C 25 dX7_forget_15 (by decide) (⟨by omega, by omega⟩) (fun h3 => ?_) (fun h3 => ?_)
    · refine at_iload_n C 1 dX7_forget_25 rfl ?_
      refine at_iconst C dX7_forget_26 ?_
      refine at_icmp_ne C 37 dX7_forget_27 (by decide) (⟨by omega, by omega⟩) (⟨by omega, by omega⟩) (fun h4 => ?_) (fun h4 => ?_)
      · refine at_aload_n C 0 dX7_forget_37 rfl ?_
        refine at_getf (v := .int (sI (M 258 7))) C (obj_Ref G) (ci := 7) rfl inX7 (slot := 7) (by decide) qw_889 rfl rfl dX7_forget_38 ?_
        have hb5 : _ ≤ M 258 7 ∧ M 258 7 ≤ _ := tv hT (k := 258) (j := 7) rfl
        refine at_ve (b := (((qm M) : Nat) : Int)) (hqm.2) ?_
        refine at_ve (b := if w = 0 then M 258 5 else if w = 1 then M 258 6 else M 258 7) (by first | (rw [if_pos (by omega)]; omega) | (rw [if_neg (by omega), if_pos (by omega)]; omega) | (rw [if_neg (by omega), if_neg (by omega)]; omega)) ?_
        refine at_istore_n C [(2, .int (sI (if w = 0 then M 258 5 else if w = 1 then M 258 6 else M 258 7))), (0, .ref (G.1 (258))), (1, .int (sI (w)))] dX7_forget_41 (by decide) rfl ?_
        refine at_aload_n C 1 dX7_forget_42 rfl ?_
        refine at_iload_n C 2 dX7_forget_43 rfl ?_
        refine at_if_ne C 51 dX7_forget_44 (by decide) (⟨by omega, by omega⟩) (fun h6 => ?_) (fun h6 => ?_)
        · refine at_aload_n C 1 dX7_forget_51 rfl ?_
          refine at_getf (v := .int (sI (M 258 5))) C (obj_Ref G) (ci := 7) rfl inX7 (slot := 5) (by decide) qw_887 rfl rfl dX7_forget_52 ?_
          have hb7 : _ ≤ M 258 5 ∧ M 258 5 ≤ _ := tv hT (k := 258) (j := 5) rfl
          refine at_ve (b := (((qs M) : Nat) : Int)) (hqs.2) ?_
          refine at_ve (b := if w = 0 then 0 else M 258 5) (by first | exact (if_pos (by omega)).symm | (rw [if_neg (by omega)]; omega)) ?_
          refine at_putM (slot := 5) (ty := .int) C tyX7 (obj_Ref G) (ci := 7) rfl inX7 tyX7_ok nmX7 (by decide) qw_887 rfl rfl (by decide +kernel) rfl rfl (Nat.le_of_ble_eq_true rfl) rfl dX7_forget_55 ?_
          have hT8 : TInv (sSt M 258 5 (if w = 0 then 0 else M 258 5)) := tv_st hT (k := 258) (j := 5) rfl (by split <;> omega)
          refine at_aload_n C 1 dX7_forget_58 rfl ?_
          refine at_iload_n C 2 dX7_forget_59 rfl ?_
          refine at_iconst C dX7_forget_60 ?_
          refine at_icmp_ne C 68 dX7_forget_61 (by decide) (⟨by omega, by omega⟩) (⟨by omega, by omega⟩) (fun h9 => ?_) (fun h9 => ?_)
          · refine at_aload_n C 1 dX7_forget_68 rfl ?_
            refine at_getf (v := .int (sI ((sSt M 258 5 (if w = 0 then 0 else M 258 5)) 258 6))) C (obj_Ref G) (ci := 7) rfl inX7 (slot := 6) (by decide) qw_888 rfl rfl dX7_forget_69 ?_
            refine at_ve (b := M 258 6) (rfl) ?_
            have hb10 : _ ≤ M 258 6 ∧ M 258 6 ≤ _ := tv hT8 (k := 258) (j := 6) rfl
            refine at_ve (b := (((qo M) : Nat) : Int)) (hqo.2) ?_
            refine at_ve (b := if w = 1 then 0 else M 258 6) (by first | exact (if_pos (by omega)).symm | (rw [if_neg (by omega)]; omega)) ?_
            refine at_putM (slot := 6) (ty := .int) C tyX7 (obj_Ref G) (ci := 7) rfl inX7 tyX7_ok nmX7 (by decide) qw_888 rfl rfl (by decide +kernel) rfl rfl (Nat.le_of_ble_eq_true rfl) rfl dX7_forget_72 ?_
            have hT11 : TInv (sSt (sSt M 258 5 (if w = 0 then 0 else M 258 5)) 258 6 (if w = 1 then 0 else M 258 6)) := tv_st hT8 (k := 258) (j := 6) rfl (by split <;> omega)
            refine at_aload_n C 1 dX7_forget_75 rfl ?_
            refine at_iload_n C 2 dX7_forget_76 rfl ?_
            refine at_iconst C dX7_forget_77 ?_
            refine at_icmp_ne C 85 dX7_forget_78 (by decide) (⟨by omega, by omega⟩) (⟨by omega, by omega⟩) (fun h12 => ?_) (fun h12 => ?_)
            · refine at_aload_n C 1 dX7_forget_85 rfl ?_
              refine at_getf (v := .int (sI ((sSt (sSt M 258 5 (if w = 0 then 0 else M 258 5)) 258 6 (if w = 1 then 0 else M 258 6)) 258 7))) C (obj_Ref G) (ci := 7) rfl inX7 (slot := 7) (by decide) qw_889 rfl rfl dX7_forget_86 ?_
              refine at_ve (b := M 258 7) (rfl) ?_
              have hb13 : _ ≤ M 258 7 ∧ M 258 7 ≤ _ := tv hT11 (k := 258) (j := 7) rfl
              refine at_ve (b := (((qm M) : Nat) : Int)) (hqm.2) ?_
              refine at_ve (b := if w = 2 then 0 else M 258 7) (by first | exact (if_pos (by omega)).symm | (rw [if_neg (by omega)]; omega)) ?_
              refine at_putM (slot := 7) (ty := .int) C tyX7 (obj_Ref G) (ci := 7) rfl inX7 tyX7_ok nmX7 (by decide) qw_889 rfl rfl (by decide +kernel) rfl rfl (Nat.le_of_ble_eq_true rfl) rfl dX7_forget_89 ?_
              have hT14 : TInv (sSt (sSt (sSt M 258 5 (if w = 0 then 0 else M 258 5)) 258 6 (if w = 1 then 0 else M 258 6)) 258 7 (if w = 2 then 0 else M 258 7)) := tv_st hT11 (k := 258) (j := 7) rfl (by split <;> omega)
              refine at_iload_n C 0 dX7_forget_92 rfl ?_
              exact hret _ _ _ _ _ dX7_forget_93 (⟨congrArg sI (if_pos (by omega)).symm, (if_pos (by omega)).symm, hT14, rfl⟩)
            · refine at_iconst C dX7_forget_81 ?_
              refine at_goto C 89 dX7_forget_82 (by decide) ?_
              refine at_ve (b := if w = 2 then 0 else M 258 7) (by first | exact (if_pos (by omega)).symm | (rw [if_neg (by omega)]; omega)) ?_
              refine at_putM (slot := 7) (ty := .int) C tyX7 (obj_Ref G) (ci := 7) rfl inX7 tyX7_ok nmX7 (by decide) qw_889 rfl rfl (by decide +kernel) rfl rfl (Nat.le_of_ble_eq_true rfl) rfl dX7_forget_89 ?_
              have hT15 : TInv (sSt (sSt (sSt M 258 5 (if w = 0 then 0 else M 258 5)) 258 6 (if w = 1 then 0 else M 258 6)) 258 7 (if w = 2 then 0 else M 258 7)) := tv_st hT11 (k := 258) (j := 7) rfl (by split <;> omega)
              refine at_iload_n C 0 dX7_forget_92 rfl ?_
              exact hret _ _ _ _ _ dX7_forget_93 (⟨congrArg sI (if_pos (by omega)).symm, (if_pos (by omega)).symm, hT15, rfl⟩)
          · refine at_iconst C dX7_forget_64 ?_
            refine at_goto C 72 dX7_forget_65 (by decide) ?_
            refine at_ve (b := if w = 1 then 0 else M 258 6) (by first | exact (if_pos (by omega)).symm | (rw [if_neg (by omega)]; omega)) ?_
            refine at_putM (slot := 6) (ty := .int) C tyX7 (obj_Ref G) (ci := 7) rfl inX7 tyX7_ok nmX7 (by decide) qw_888 rfl rfl (by decide +kernel) rfl rfl (Nat.le_of_ble_eq_true rfl) rfl dX7_forget_72 ?_
            have hT16 : TInv (sSt (sSt M 258 5 (if w = 0 then 0 else M 258 5)) 258 6 (if w = 1 then 0 else M 258 6)) := tv_st hT8 (k := 258) (j := 6) rfl (by split <;> omega)
            refine at_aload_n C 1 dX7_forget_75 rfl ?_
            refine at_iload_n C 2 dX7_forget_76 rfl ?_
            refine at_iconst C dX7_forget_77 ?_
            refine at_icmp_ne C 85 dX7_forget_78 (by decide) (⟨by omega, by omega⟩) (⟨by omega, by omega⟩) (fun h17 => ?_) (fun h17 => ?_)
            · refine at_aload_n C 1 dX7_forget_85 rfl ?_
              refine at_getf (v := .int (sI ((sSt (sSt M 258 5 (if w = 0 then 0 else M 258 5)) 258 6 (if w = 1 then 0 else M 258 6)) 258 7))) C (obj_Ref G) (ci := 7) rfl inX7 (slot := 7) (by decide) qw_889 rfl rfl dX7_forget_86 ?_
              refine at_ve (b := M 258 7) (rfl) ?_
              have hb18 : _ ≤ M 258 7 ∧ M 258 7 ≤ _ := tv hT16 (k := 258) (j := 7) rfl
              refine at_ve (b := (((qm M) : Nat) : Int)) (hqm.2) ?_
              refine at_ve (b := if w = 2 then 0 else M 258 7) (by first | exact (if_pos (by omega)).symm | (rw [if_neg (by omega)]; omega)) ?_
              refine at_putM (slot := 7) (ty := .int) C tyX7 (obj_Ref G) (ci := 7) rfl inX7 tyX7_ok nmX7 (by decide) qw_889 rfl rfl (by decide +kernel) rfl rfl (Nat.le_of_ble_eq_true rfl) rfl dX7_forget_89 ?_
              have hT19 : TInv (sSt (sSt (sSt M 258 5 (if w = 0 then 0 else M 258 5)) 258 6 (if w = 1 then 0 else M 258 6)) 258 7 (if w = 2 then 0 else M 258 7)) := tv_st hT16 (k := 258) (j := 7) rfl (by split <;> omega)
              refine at_iload_n C 0 dX7_forget_92 rfl ?_
              exact hret _ _ _ _ _ dX7_forget_93 (⟨congrArg sI (if_pos (by omega)).symm, (if_pos (by omega)).symm, hT19, rfl⟩)
            · refine at_iconst C dX7_forget_81 ?_
              refine at_goto C 89 dX7_forget_82 (by decide) ?_
              refine at_ve (b := if w = 2 then 0 else M 258 7) (by first | exact (if_pos (by omega)).symm | (rw [if_neg (by omega)]; omega)) ?_
              refine at_putM (slot := 7) (ty := .int) C tyX7 (obj_Ref G) (ci := 7) rfl inX7 tyX7_ok nmX7 (by decide) qw_889 rfl rfl (by decide +kernel) rfl rfl (Nat.le_of_ble_eq_true rfl) rfl dX7_forget_89 ?_
              have hT20 : TInv (sSt (sSt (sSt M 258 5 (if w = 0 then 0 else M 258 5)) 258 6 (if w = 1 then 0 else M 258 6)) 258 7 (if w = 2 then 0 else M 258 7)) := tv_st hT16 (k := 258) (j := 7) rfl (by split <;> omega)
              refine at_iload_n C 0 dX7_forget_92 rfl ?_
              exact hret _ _ _ _ _ dX7_forget_93 (⟨congrArg sI (if_pos (by omega)).symm, (if_pos (by omega)).symm, hT20, rfl⟩)
        · refine at_iconst C dX7_forget_47 ?_
          refine at_goto C 55 dX7_forget_48 (by decide) ?_
          refine at_ve (b := if w = 0 then 0 else M 258 5) (by first | exact (if_pos (by omega)).symm | (rw [if_neg (by omega)]; omega)) ?_
          refine at_putM (slot := 5) (ty := .int) C tyX7 (obj_Ref G) (ci := 7) rfl inX7 tyX7_ok nmX7 (by decide) qw_887 rfl rfl (by decide +kernel) rfl rfl (Nat.le_of_ble_eq_true rfl) rfl dX7_forget_55 ?_
          have hT21 : TInv (sSt M 258 5 (if w = 0 then 0 else M 258 5)) := tv_st hT (k := 258) (j := 5) rfl (by split <;> omega)
          refine at_aload_n C 1 dX7_forget_58 rfl ?_
          refine at_iload_n C 2 dX7_forget_59 rfl ?_
          refine at_iconst C dX7_forget_60 ?_
          refine at_icmp_ne C 68 dX7_forget_61 (by decide) (⟨by omega, by omega⟩) (⟨by omega, by omega⟩) (fun h22 => ?_) (fun h22 => ?_)
          · refine at_aload_n C 1 dX7_forget_68 rfl ?_
            refine at_getf (v := .int (sI ((sSt M 258 5 (if w = 0 then 0 else M 258 5)) 258 6))) C (obj_Ref G) (ci := 7) rfl inX7 (slot := 6) (by decide) qw_888 rfl rfl dX7_forget_69 ?_
            refine at_ve (b := M 258 6) (rfl) ?_
            have hb23 : _ ≤ M 258 6 ∧ M 258 6 ≤ _ := tv hT21 (k := 258) (j := 6) rfl
            refine at_ve (b := (((qo M) : Nat) : Int)) (hqo.2) ?_
            refine at_ve (b := if w = 1 then 0 else M 258 6) (by first | exact (if_pos (by omega)).symm | (rw [if_neg (by omega)]; omega)) ?_
            refine at_putM (slot := 6) (ty := .int) C tyX7 (obj_Ref G) (ci := 7) rfl inX7 tyX7_ok nmX7 (by decide) qw_888 rfl rfl (by decide +kernel) rfl rfl (Nat.le_of_ble_eq_true rfl) rfl dX7_forget_72 ?_
            have hT24 : TInv (sSt (sSt M 258 5 (if w = 0 then 0 else M 258 5)) 258 6 (if w = 1 then 0 else M 258 6)) := tv_st hT21 (k := 258) (j := 6) rfl (by split <;> omega)
            refine at_aload_n C 1 dX7_forget_75 rfl ?_
            refine at_iload_n C 2 dX7_forget_76 rfl ?_
            refine at_iconst C dX7_forget_77 ?_
            refine at_icmp_ne C 85 dX7_forget_78 (by decide) (⟨by omega, by omega⟩) (⟨by omega, by omega⟩) (fun h25 => ?_) (fun h25 => ?_)
            · refine at_aload_n C 1 dX7_forget_85 rfl ?_
              refine at_getf (v := .int (sI ((sSt (sSt M 258 5 (if w = 0 then 0 else M 258 5)) 258 6 (if w = 1 then 0 else M 258 6)) 258 7))) C (obj_Ref G) (ci := 7) rfl inX7 (slot := 7) (by decide) qw_889 rfl rfl dX7_forget_86 ?_
              refine at_ve (b := M 258 7) (rfl) ?_
              have hb26 : _ ≤ M 258 7 ∧ M 258 7 ≤ _ := tv hT24 (k := 258) (j := 7) rfl
              refine at_ve (b := (((qm M) : Nat) : Int)) (hqm.2) ?_
              refine at_ve (b := if w = 2 then 0 else M 258 7) (by first | exact (if_pos (by omega)).symm | (rw [if_neg (by omega)]; omega)) ?_
              refine at_putM (slot := 7) (ty := .int) C tyX7 (obj_Ref G) (ci := 7) rfl inX7 tyX7_ok nmX7 (by decide) qw_889 rfl rfl (by decide +kernel) rfl rfl (Nat.le_of_ble_eq_true rfl) rfl dX7_forget_89 ?_
              have hT27 : TInv (sSt (sSt (sSt M 258 5 (if w = 0 then 0 else M 258 5)) 258 6 (if w = 1 then 0 else M 258 6)) 258 7 (if w = 2 then 0 else M 258 7)) := tv_st hT24 (k := 258) (j := 7) rfl (by split <;> omega)
              refine at_iload_n C 0 dX7_forget_92 rfl ?_
              exact hret _ _ _ _ _ dX7_forget_93 (⟨congrArg sI (if_pos (by omega)).symm, (if_pos (by omega)).symm, hT27, rfl⟩)
            · refine at_iconst C dX7_forget_81 ?_
              refine at_goto C 89 dX7_forget_82 (by decide) ?_
              refine at_ve (b := if w = 2 then 0 else M 258 7) (by first | exact (if_pos (by omega)).symm | (rw [if_neg (by omega)]; omega)) ?_
              refine at_putM (slot := 7) (ty := .int) C tyX7 (obj_Ref G) (ci := 7) rfl inX7 tyX7_ok nmX7 (by decide) qw_889 rfl rfl (by decide +kernel) rfl rfl (Nat.le_of_ble_eq_true rfl) rfl dX7_forget_89 ?_
              have hT28 : TInv (sSt (sSt (sSt M 258 5 (if w = 0 then 0 else M 258 5)) 258 6 (if w = 1 then 0 else M 258 6)) 258 7 (if w = 2 then 0 else M 258 7)) := tv_st hT24 (k := 258) (j := 7) rfl (by split <;> omega)
              refine at_iload_n C 0 dX7_forget_92 rfl ?_
              exact hret _ _ _ _ _ dX7_forget_93 (⟨congrArg sI (if_pos (by omega)).symm, (if_pos (by omega)).symm, hT28, rfl⟩)
          · refine at_iconst C dX7_forget_64 ?_
            refine at_goto C 72 dX7_forget_65 (by decide) ?_
            refine at_ve (b := if w = 1 then 0 else M 258 6) (by first | exact (if_pos (by omega)).symm | (rw [if_neg (by omega)]; omega)) ?_
            refine at_putM (slot := 6) (ty := .int) C tyX7 (obj_Ref G) (ci := 7) rfl inX7 tyX7_ok nmX7 (by decide) qw_888 rfl rfl (by decide +kernel) rfl rfl (Nat.le_of_ble_eq_true rfl) rfl dX7_forget_72 ?_
            have hT29 : TInv (sSt (sSt M 258 5 (if w = 0 then 0 else M 258 5)) 258 6 (if w = 1 then 0 else M 258 6)) := tv_st hT21 (k := 258) (j := 6) rfl (by split <;> omega)
            refine at_aload_n C 1 dX7_forget_75 rfl ?_
            refine at_iload_n C 2 dX7_forget_76 rfl ?_
            refine at_iconst C dX7_forget_77 ?_
            refine at_icmp_ne C 85 dX7_forget_78 (by decide) (⟨by omega, by omega⟩) (⟨by omega, by omega⟩) (fun h30 => ?_) (fun h30 => ?_)
            · refine at_aload_n C 1 dX7_forget_85 rfl ?_
              refine at_getf (v := .int (sI ((sSt (sSt M 258 5 (if w = 0 then 0 else M 258 5)) 258 6 (if w = 1 then 0 else M 258 6)) 258 7))) C (obj_Ref G) (ci := 7) rfl inX7 (slot := 7) (by decide) qw_889 rfl rfl dX7_forget_86 ?_
              refine at_ve (b := M 258 7) (rfl) ?_
              have hb31 : _ ≤ M 258 7 ∧ M 258 7 ≤ _ := tv hT29 (k := 258) (j := 7) rfl
              refine at_ve (b := (((qm M) : Nat) : Int)) (hqm.2) ?_
              refine at_ve (b := if w = 2 then 0 else M 258 7) (by first | exact (if_pos (by omega)).symm | (rw [if_neg (by omega)]; omega)) ?_
              refine at_putM (slot := 7) (ty := .int) C tyX7 (obj_Ref G) (ci := 7) rfl inX7 tyX7_ok nmX7 (by decide) qw_889 rfl rfl (by decide +kernel) rfl rfl (Nat.le_of_ble_eq_true rfl) rfl dX7_forget_89 ?_
              have hT32 : TInv (sSt (sSt (sSt M 258 5 (if w = 0 then 0 else M 258 5)) 258 6 (if w = 1 then 0 else M 258 6)) 258 7 (if w = 2 then 0 else M 258 7)) := tv_st hT29 (k := 258) (j := 7) rfl (by split <;> omega)
              refine at_iload_n C 0 dX7_forget_92 rfl ?_
              exact hret _ _ _ _ _ dX7_forget_93 (⟨congrArg sI (if_pos (by omega)).symm, (if_pos (by omega)).symm, hT32, rfl⟩)
            · refine at_iconst C dX7_forget_81 ?_
              refine at_goto C 89 dX7_forget_82 (by decide) ?_
              refine at_ve (b := if w = 2 then 0 else M 258 7) (by first | exact (if_pos (by omega)).symm | (rw [if_neg (by omega)]; omega)) ?_
              refine at_putM (slot := 7) (ty := .int) C tyX7 (obj_Ref G) (ci := 7) rfl inX7 tyX7_ok nmX7 (by decide) qw_889 rfl rfl (by decide +kernel) rfl rfl (Nat.le_of_ble_eq_true rfl) rfl dX7_forget_89 ?_
              have hT33 : TInv (sSt (sSt (sSt M 258 5 (if w = 0 then 0 else M 258 5)) 258 6 (if w = 1 then 0 else M 258 6)) 258 7 (if w = 2 then 0 else M 258 7)) := tv_st hT29 (k := 258) (j := 7) rfl (by split <;> omega)
              refine at_iload_n C 0 dX7_forget_92 rfl ?_
              exact hret _ _ _ _ _ dX7_forget_93 (⟨congrArg sI (if_pos (by omega)).symm, (if_pos (by omega)).symm, hT33, rfl⟩)
      · refine at_aload_n C 0 dX7_forget_30 rfl ?_
        refine at_getf (v := .int (sI (M 258 6))) C (obj_Ref G) (ci := 7) rfl inX7 (slot := 6) (by decide) qw_888 rfl rfl dX7_forget_31 ?_
        have hb34 : _ ≤ M 258 6 ∧ M 258 6 ≤ _ := tv hT (k := 258) (j := 6) rfl
        refine at_ve (b := (((qo M) : Nat) : Int)) (hqo.2) ?_
        refine at_goto C 41 dX7_forget_34 (by decide) ?_
        refine at_ve (b := if w = 0 then M 258 5 else if w = 1 then M 258 6 else M 258 7) (by first | (rw [if_pos (by omega)]; omega) | (rw [if_neg (by omega), if_pos (by omega)]; omega) | (rw [if_neg (by omega), if_neg (by omega)]; omega)) ?_
        refine at_istore_n C [(2, .int (sI (if w = 0 then M 258 5 else if w = 1 then M 258 6 else M 258 7))), (0, .ref (G.1 (258))), (1, .int (sI (w)))] dX7_forget_41 (by decide) rfl ?_
        refine at_aload_n C 1 dX7_forget_42 rfl ?_
        refine at_iload_n C 2 dX7_forget_43 rfl ?_
        refine at_if_ne C 51 dX7_forget_44 (by decide) (⟨by omega, by omega⟩) (fun h35 => ?_) (fun h35 => ?_)
        · refine at_aload_n C 1 dX7_forget_51 rfl ?_
          refine at_getf (v := .int (sI (M 258 5))) C (obj_Ref G) (ci := 7) rfl inX7 (slot := 5) (by decide) qw_887 rfl rfl dX7_forget_52 ?_
          have hb36 : _ ≤ M 258 5 ∧ M 258 5 ≤ _ := tv hT (k := 258) (j := 5) rfl
          refine at_ve (b := (((qs M) : Nat) : Int)) (hqs.2) ?_
          refine at_ve (b := if w = 0 then 0 else M 258 5) (by first | exact (if_pos (by omega)).symm | (rw [if_neg (by omega)]; omega)) ?_
          refine at_putM (slot := 5) (ty := .int) C tyX7 (obj_Ref G) (ci := 7) rfl inX7 tyX7_ok nmX7 (by decide) qw_887 rfl rfl (by decide +kernel) rfl rfl (Nat.le_of_ble_eq_true rfl) rfl dX7_forget_55 ?_
          have hT37 : TInv (sSt M 258 5 (if w = 0 then 0 else M 258 5)) := tv_st hT (k := 258) (j := 5) rfl (by split <;> omega)
          refine at_aload_n C 1 dX7_forget_58 rfl ?_
          refine at_iload_n C 2 dX7_forget_59 rfl ?_
          refine at_iconst C dX7_forget_60 ?_
          refine at_icmp_ne C 68 dX7_forget_61 (by decide) (⟨by omega, by omega⟩) (⟨by omega, by omega⟩) (fun h38 => ?_) (fun h38 => ?_)
          · refine at_aload_n C 1 dX7_forget_68 rfl ?_
            refine at_getf (v := .int (sI ((sSt M 258 5 (if w = 0 then 0 else M 258 5)) 258 6))) C (obj_Ref G) (ci := 7) rfl inX7 (slot := 6) (by decide) qw_888 rfl rfl dX7_forget_69 ?_
            refine at_ve (b := M 258 6) (rfl) ?_
            have hb39 : _ ≤ M 258 6 ∧ M 258 6 ≤ _ := tv hT37 (k := 258) (j := 6) rfl
            refine at_ve (b := (((qo M) : Nat) : Int)) (hqo.2) ?_
            refine at_ve (b := if w = 1 then 0 else M 258 6) (by first | exact (if_pos (by omega)).symm | (rw [if_neg (by omega)]; omega)) ?_
            refine at_putM (slot := 6) (ty := .int) C tyX7 (obj_Ref G) (ci := 7) rfl inX7 tyX7_ok nmX7 (by decide) qw_888 rfl rfl (by decide +kernel) rfl rfl (Nat.le_of_ble_eq_true rfl) rfl dX7_forget_72 ?_
            have hT40 : TInv (sSt (sSt M 258 5 (if w = 0 then 0 else M 258 5)) 258 6 (if w = 1 then 0 else M 258 6)) := tv_st hT37 (k := 258) (j := 6) rfl (by split <;> omega)
            refine at_aload_n C 1 dX7_forget_75 rfl ?_
            refine at_iload_n C 2 dX7_forget_76 rfl ?_
            refine at_iconst C dX7_forget_77 ?_
            refine at_icmp_ne C 85 dX7_forget_78 (by decide) (⟨by omega, by omega⟩) (⟨by omega, by omega⟩) (fun h41 => ?_) (fun h41 => ?_)
            · refine at_aload_n C 1 dX7_forget_85 rfl ?_
              refine at_getf (v := .int (sI ((sSt (sSt M 258 5 (if w = 0 then 0 else M 258 5)) 258 6 (if w = 1 then 0 else M 258 6)) 258 7))) C (obj_Ref G) (ci := 7) rfl inX7 (slot := 7) (by decide) qw_889 rfl rfl dX7_forget_86 ?_
              refine at_ve (b := M 258 7) (rfl) ?_
              have hb42 : _ ≤ M 258 7 ∧ M 258 7 ≤ _ := tv hT40 (k := 258) (j := 7) rfl
              refine at_ve (b := (((qm M) : Nat) : Int)) (hqm.2) ?_
              refine at_ve (b := if w = 2 then 0 else M 258 7) (by first | exact (if_pos (by omega)).symm | (rw [if_neg (by omega)]; omega)) ?_
              refine at_putM (slot := 7) (ty := .int) C tyX7 (obj_Ref G) (ci := 7) rfl inX7 tyX7_ok nmX7 (by decide) qw_889 rfl rfl (by decide +kernel) rfl rfl (Nat.le_of_ble_eq_true rfl) rfl dX7_forget_89 ?_
              have hT43 : TInv (sSt (sSt (sSt M 258 5 (if w = 0 then 0 else M 258 5)) 258 6 (if w = 1 then 0 else M 258 6)) 258 7 (if w = 2 then 0 else M 258 7)) := tv_st hT40 (k := 258) (j := 7) rfl (by split <;> omega)
              refine at_iload_n C 0 dX7_forget_92 rfl ?_
              exact hret _ _ _ _ _ dX7_forget_93 (⟨congrArg sI (if_pos (by omega)).symm, (if_pos (by omega)).symm, hT43, rfl⟩)
            · refine at_iconst C dX7_forget_81 ?_
              refine at_goto C 89 dX7_forget_82 (by decide) ?_
              refine at_ve (b := if w = 2 then 0 else M 258 7) (by first | exact (if_pos (by omega)).symm | (rw [if_neg (by omega)]; omega)) ?_
              refine at_putM (slot := 7) (ty := .int) C tyX7 (obj_Ref G) (ci := 7) rfl inX7 tyX7_ok nmX7 (by decide) qw_889 rfl rfl (by decide +kernel) rfl rfl (Nat.le_of_ble_eq_true rfl) rfl dX7_forget_89 ?_
              have hT44 : TInv (sSt (sSt (sSt M 258 5 (if w = 0 then 0 else M 258 5)) 258 6 (if w = 1 then 0 else M 258 6)) 258 7 (if w = 2 then 0 else M 258 7)) := tv_st hT40 (k := 258) (j := 7) rfl (by split <;> omega)
              refine at_iload_n C 0 dX7_forget_92 rfl ?_
              exact hret _ _ _ _ _ dX7_forget_93 (⟨congrArg sI (if_pos (by omega)).symm, (if_pos (by omega)).symm, hT44, rfl⟩)
          · refine at_iconst C dX7_forget_64 ?_
            refine at_goto C 72 dX7_forget_65 (by decide) ?_
            refine at_ve (b := if w = 1 then 0 else M 258 6) (by first | exact (if_pos (by omega)).symm | (rw [if_neg (by omega)]; omega)) ?_
            refine at_putM (slot := 6) (ty := .int) C tyX7 (obj_Ref G) (ci := 7) rfl inX7 tyX7_ok nmX7 (by decide) qw_888 rfl rfl (by decide +kernel) rfl rfl (Nat.le_of_ble_eq_true rfl) rfl dX7_forget_72 ?_
            have hT45 : TInv (sSt (sSt M 258 5 (if w = 0 then 0 else M 258 5)) 258 6 (if w = 1 then 0 else M 258 6)) := tv_st hT37 (k := 258) (j := 6) rfl (by split <;> omega)
            refine at_aload_n C 1 dX7_forget_75 rfl ?_
            refine at_iload_n C 2 dX7_forget_76 rfl ?_
            refine at_iconst C dX7_forget_77 ?_
            refine at_icmp_ne C 85 dX7_forget_78 (by decide) (⟨by omega, by omega⟩) (⟨by omega, by omega⟩) (fun h46 => ?_) (fun h46 => ?_)
            · refine at_aload_n C 1 dX7_forget_85 rfl ?_
              refine at_getf (v := .int (sI ((sSt (sSt M 258 5 (if w = 0 then 0 else M 258 5)) 258 6 (if w = 1 then 0 else M 258 6)) 258 7))) C (obj_Ref G) (ci := 7) rfl inX7 (slot := 7) (by decide) qw_889 rfl rfl dX7_forget_86 ?_
              refine at_ve (b := M 258 7) (rfl) ?_
              have hb47 : _ ≤ M 258 7 ∧ M 258 7 ≤ _ := tv hT45 (k := 258) (j := 7) rfl
              refine at_ve (b := (((qm M) : Nat) : Int)) (hqm.2) ?_
              refine at_ve (b := if w = 2 then 0 else M 258 7) (by first | exact (if_pos (by omega)).symm | (rw [if_neg (by omega)]; omega)) ?_
              refine at_putM (slot := 7) (ty := .int) C tyX7 (obj_Ref G) (ci := 7) rfl inX7 tyX7_ok nmX7 (by decide) qw_889 rfl rfl (by decide +kernel) rfl rfl (Nat.le_of_ble_eq_true rfl) rfl dX7_forget_89 ?_
              have hT48 : TInv (sSt (sSt (sSt M 258 5 (if w = 0 then 0 else M 258 5)) 258 6 (if w = 1 then 0 else M 258 6)) 258 7 (if w = 2 then 0 else M 258 7)) := tv_st hT45 (k := 258) (j := 7) rfl (by split <;> omega)
              refine at_iload_n C 0 dX7_forget_92 rfl ?_
              exact hret _ _ _ _ _ dX7_forget_93 (⟨congrArg sI (if_pos (by omega)).symm, (if_pos (by omega)).symm, hT48, rfl⟩)
            · refine at_iconst C dX7_forget_81 ?_
              refine at_goto C 89 dX7_forget_82 (by decide) ?_
              refine at_ve (b := if w = 2 then 0 else M 258 7) (by first | exact (if_pos (by omega)).symm | (rw [if_neg (by omega)]; omega)) ?_
              refine at_putM (slot := 7) (ty := .int) C tyX7 (obj_Ref G) (ci := 7) rfl inX7 tyX7_ok nmX7 (by decide) qw_889 rfl rfl (by decide +kernel) rfl rfl (Nat.le_of_ble_eq_true rfl) rfl dX7_forget_89 ?_
              have hT49 : TInv (sSt (sSt (sSt M 258 5 (if w = 0 then 0 else M 258 5)) 258 6 (if w = 1 then 0 else M 258 6)) 258 7 (if w = 2 then 0 else M 258 7)) := tv_st hT45 (k := 258) (j := 7) rfl (by split <;> omega)
              refine at_iload_n C 0 dX7_forget_92 rfl ?_
              exact hret _ _ _ _ _ dX7_forget_93 (⟨congrArg sI (if_pos (by omega)).symm, (if_pos (by omega)).symm, hT49, rfl⟩)
        · refine at_iconst C dX7_forget_47 ?_
          refine at_goto C 55 dX7_forget_48 (by decide) ?_
          refine at_ve (b := if w = 0 then 0 else M 258 5) (by first | exact (if_pos (by omega)).symm | (rw [if_neg (by omega)]; omega)) ?_
          refine at_putM (slot := 5) (ty := .int) C tyX7 (obj_Ref G) (ci := 7) rfl inX7 tyX7_ok nmX7 (by decide) qw_887 rfl rfl (by decide +kernel) rfl rfl (Nat.le_of_ble_eq_true rfl) rfl dX7_forget_55 ?_
          have hT50 : TInv (sSt M 258 5 (if w = 0 then 0 else M 258 5)) := tv_st hT (k := 258) (j := 5) rfl (by split <;> omega)
          refine at_aload_n C 1 dX7_forget_58 rfl ?_
          refine at_iload_n C 2 dX7_forget_59 rfl ?_
          refine at_iconst C dX7_forget_60 ?_
          refine at_icmp_ne C 68 dX7_forget_61 (by decide) (⟨by omega, by omega⟩) (⟨by omega, by omega⟩) (fun h51 => ?_) (fun h51 => ?_)
          · refine at_aload_n C 1 dX7_forget_68 rfl ?_
            refine at_getf (v := .int (sI ((sSt M 258 5 (if w = 0 then 0 else M 258 5)) 258 6))) C (obj_Ref G) (ci := 7) rfl inX7 (slot := 6) (by decide) qw_888 rfl rfl dX7_forget_69 ?_
            refine at_ve (b := M 258 6) (rfl) ?_
            have hb52 : _ ≤ M 258 6 ∧ M 258 6 ≤ _ := tv hT50 (k := 258) (j := 6) rfl
            refine at_ve (b := (((qo M) : Nat) : Int)) (hqo.2) ?_
            refine at_ve (b := if w = 1 then 0 else M 258 6) (by first | exact (if_pos (by omega)).symm | (rw [if_neg (by omega)]; omega)) ?_
            refine at_putM (slot := 6) (ty := .int) C tyX7 (obj_Ref G) (ci := 7) rfl inX7 tyX7_ok nmX7 (by decide) qw_888 rfl rfl (by decide +kernel) rfl rfl (Nat.le_of_ble_eq_true rfl) rfl dX7_forget_72 ?_
            have hT53 : TInv (sSt (sSt M 258 5 (if w = 0 then 0 else M 258 5)) 258 6 (if w = 1 then 0 else M 258 6)) := tv_st hT50 (k := 258) (j := 6) rfl (by split <;> omega)
            refine at_aload_n C 1 dX7_forget_75 rfl ?_
            refine at_iload_n C 2 dX7_forget_76 rfl ?_
            refine at_iconst C dX7_forget_77 ?_
            refine at_icmp_ne C 85 dX7_forget_78 (by decide) (⟨by omega, by omega⟩) (⟨by omega, by omega⟩) (fun h54 => ?_) (fun h54 => ?_)
            · refine at_aload_n C 1 dX7_forget_85 rfl ?_
              refine at_getf (v := .int (sI ((sSt (sSt M 258 5 (if w = 0 then 0 else M 258 5)) 258 6 (if w = 1 then 0 else M 258 6)) 258 7))) C (obj_Ref G) (ci := 7) rfl inX7 (slot := 7) (by decide) qw_889 rfl rfl dX7_forget_86 ?_
              refine at_ve (b := M 258 7) (rfl) ?_
              have hb55 : _ ≤ M 258 7 ∧ M 258 7 ≤ _ := tv hT53 (k := 258) (j := 7) rfl
              refine at_ve (b := (((qm M) : Nat) : Int)) (hqm.2) ?_
              refine at_ve (b := if w = 2 then 0 else M 258 7) (by first | exact (if_pos (by omega)).symm | (rw [if_neg (by omega)]; omega)) ?_
              refine at_putM (slot := 7) (ty := .int) C tyX7 (obj_Ref G) (ci := 7) rfl inX7 tyX7_ok nmX7 (by decide) qw_889 rfl rfl (by decide +kernel) rfl rfl (Nat.le_of_ble_eq_true rfl) rfl dX7_forget_89 ?_
              have hT56 : TInv (sSt (sSt (sSt M 258 5 (if w = 0 then 0 else M 258 5)) 258 6 (if w = 1 then 0 else M 258 6)) 258 7 (if w = 2 then 0 else M 258 7)) := tv_st hT53 (k := 258) (j := 7) rfl (by split <;> omega)
              refine at_iload_n C 0 dX7_forget_92 rfl ?_
              exact hret _ _ _ _ _ dX7_forget_93 (⟨congrArg sI (if_pos (by omega)).symm, (if_pos (by omega)).symm, hT56, rfl⟩)
            · refine at_iconst C dX7_forget_81 ?_
              refine at_goto C 89 dX7_forget_82 (by decide) ?_
              refine at_ve (b := if w = 2 then 0 else M 258 7) (by first | exact (if_pos (by omega)).symm | (rw [if_neg (by omega)]; omega)) ?_
              refine at_putM (slot := 7) (ty := .int) C tyX7 (obj_Ref G) (ci := 7) rfl inX7 tyX7_ok nmX7 (by decide) qw_889 rfl rfl (by decide +kernel) rfl rfl (Nat.le_of_ble_eq_true rfl) rfl dX7_forget_89 ?_
              have hT57 : TInv (sSt (sSt (sSt M 258 5 (if w = 0 then 0 else M 258 5)) 258 6 (if w = 1 then 0 else M 258 6)) 258 7 (if w = 2 then 0 else M 258 7)) := tv_st hT53 (k := 258) (j := 7) rfl (by split <;> omega)
              refine at_iload_n C 0 dX7_forget_92 rfl ?_
              exact hret _ _ _ _ _ dX7_forget_93 (⟨congrArg sI (if_pos (by omega)).symm, (if_pos (by omega)).symm, hT57, rfl⟩)
          · refine at_iconst C dX7_forget_64 ?_
            refine at_goto C 72 dX7_forget_65 (by decide) ?_
            refine at_ve (b := if w = 1 then 0 else M 258 6) (by first | exact (if_pos (by omega)).symm | (rw [if_neg (by omega)]; omega)) ?_
            refine at_putM (slot := 6) (ty := .int) C tyX7 (obj_Ref G) (ci := 7) rfl inX7 tyX7_ok nmX7 (by decide) qw_888 rfl rfl (by decide +kernel) rfl rfl (Nat.le_of_ble_eq_true rfl) rfl dX7_forget_72 ?_
            have hT58 : TInv (sSt (sSt M 258 5 (if w = 0 then 0 else M 258 5)) 258 6 (if w = 1 then 0 else M 258 6)) := tv_st hT50 (k := 258) (j := 6) rfl (by split <;> omega)
            refine at_aload_n C 1 dX7_forget_75 rfl ?_
            refine at_iload_n C 2 dX7_forget_76 rfl ?_
            refine at_iconst C dX7_forget_77 ?_
            refine at_icmp_ne C 85 dX7_forget_78 (by decide) (⟨by omega, by omega⟩) (⟨by omega, by omega⟩) (fun h59 => ?_) (fun h59 => ?_)
            · refine at_aload_n C 1 dX7_forget_85 rfl ?_
              refine at_getf (v := .int (sI ((sSt (sSt M 258 5 (if w = 0 then 0 else M 258 5)) 258 6 (if w = 1 then 0 else M 258 6)) 258 7))) C (obj_Ref G) (ci := 7) rfl inX7 (slot := 7) (by decide) qw_889 rfl rfl dX7_forget_86 ?_
              refine at_ve (b := M 258 7) (rfl) ?_
              have hb60 : _ ≤ M 258 7 ∧ M 258 7 ≤ _ := tv hT58 (k := 258) (j := 7) rfl
              refine at_ve (b := (((qm M) : Nat) : Int)) (hqm.2) ?_
              refine at_ve (b := if w = 2 then 0 else M 258 7) (by first | exact (if_pos (by omega)).symm | (rw [if_neg (by omega)]; omega)) ?_
              refine at_putM (slot := 7) (ty := .int) C tyX7 (obj_Ref G) (ci := 7) rfl inX7 tyX7_ok nmX7 (by decide) qw_889 rfl rfl (by decide +kernel) rfl rfl (Nat.le_of_ble_eq_true rfl) rfl dX7_forget_89 ?_
              have hT61 : TInv (sSt (sSt (sSt M 258 5 (if w = 0 then 0 else M 258 5)) 258 6 (if w = 1 then 0 else M 258 6)) 258 7 (if w = 2 then 0 else M 258 7)) := tv_st hT58 (k := 258) (j := 7) rfl (by split <;> omega)
              refine at_iload_n C 0 dX7_forget_92 rfl ?_
              exact hret _ _ _ _ _ dX7_forget_93 (⟨congrArg sI (if_pos (by omega)).symm, (if_pos (by omega)).symm, hT61, rfl⟩)
            · refine at_iconst C dX7_forget_81 ?_
              refine at_goto C 89 dX7_forget_82 (by decide) ?_
              refine at_ve (b := if w = 2 then 0 else M 258 7) (by first | exact (if_pos (by omega)).symm | (rw [if_neg (by omega)]; omega)) ?_
              refine at_putM (slot := 7) (ty := .int) C tyX7 (obj_Ref G) (ci := 7) rfl inX7 tyX7_ok nmX7 (by decide) qw_889 rfl rfl (by decide +kernel) rfl rfl (Nat.le_of_ble_eq_true rfl) rfl dX7_forget_89 ?_
              have hT62 : TInv (sSt (sSt (sSt M 258 5 (if w = 0 then 0 else M 258 5)) 258 6 (if w = 1 then 0 else M 258 6)) 258 7 (if w = 2 then 0 else M 258 7)) := tv_st hT58 (k := 258) (j := 7) rfl (by split <;> omega)
              refine at_iload_n C 0 dX7_forget_92 rfl ?_
              exact hret _ _ _ _ _ dX7_forget_93 (⟨congrArg sI (if_pos (by omega)).symm, (if_pos (by omega)).symm, hT62, rfl⟩)
    · refine at_aload_n C 0 dX7_forget_18 rfl ?_
      refine at_getf (v := .int (sI (M 258 5))) C (obj_Ref G) (ci := 7) rfl inX7 (slot := 5) (by decide) qw_887 rfl rfl dX7_forget_19 ?_
      have hb63 : _ ≤ M 258 5 ∧ M 258 5 ≤ _ := tv hT (k := 258) (j := 5) rfl
      refine at_ve (b := (((qs M) : Nat) : Int)) (hqs.2) ?_
      refine at_goto C 41 dX7_forget_22 (by decide) ?_
      refine at_ve (b := if w = 0 then M 258 5 else if w = 1 then M 258 6 else M 258 7) (by first | (rw [if_pos (by omega)]; omega) | (rw [if_neg (by omega), if_pos (by omega)]; omega) | (rw [if_neg (by omega), if_neg (by omega)]; omega)) ?_
      refine at_istore_n C [(2, .int (sI (if w = 0 then M 258 5 else if w = 1 then M 258 6 else M 258 7))), (0, .ref (G.1 (258))), (1, .int (sI (w)))] dX7_forget_41 (by decide) rfl ?_
      refine at_aload_n C 1 dX7_forget_42 rfl ?_
      refine at_iload_n C 2 dX7_forget_43 rfl ?_
      refine at_if_ne C 51 dX7_forget_44 (by decide) (⟨by omega, by omega⟩) (fun h64 => ?_) (fun h64 => ?_)
      · refine at_aload_n C 1 dX7_forget_51 rfl ?_
        refine at_getf (v := .int (sI (M 258 5))) C (obj_Ref G) (ci := 7) rfl inX7 (slot := 5) (by decide) qw_887 rfl rfl dX7_forget_52 ?_
        have hb65 : _ ≤ M 258 5 ∧ M 258 5 ≤ _ := tv hT (k := 258) (j := 5) rfl
        refine at_ve (b := (((qs M) : Nat) : Int)) (hqs.2) ?_
        refine at_ve (b := if w = 0 then 0 else M 258 5) (by first | exact (if_pos (by omega)).symm | (rw [if_neg (by omega)]; omega)) ?_
        refine at_putM (slot := 5) (ty := .int) C tyX7 (obj_Ref G) (ci := 7) rfl inX7 tyX7_ok nmX7 (by decide) qw_887 rfl rfl (by decide +kernel) rfl rfl (Nat.le_of_ble_eq_true rfl) rfl dX7_forget_55 ?_
        have hT66 : TInv (sSt M 258 5 (if w = 0 then 0 else M 258 5)) := tv_st hT (k := 258) (j := 5) rfl (by split <;> omega)
        refine at_aload_n C 1 dX7_forget_58 rfl ?_
        refine at_iload_n C 2 dX7_forget_59 rfl ?_
        refine at_iconst C dX7_forget_60 ?_
        refine at_icmp_ne C 68 dX7_forget_61 (by decide) (⟨by omega, by omega⟩) (⟨by omega, by omega⟩) (fun h67 => ?_) (fun h67 => ?_)
        · refine at_aload_n C 1 dX7_forget_68 rfl ?_
          refine at_getf (v := .int (sI ((sSt M 258 5 (if w = 0 then 0 else M 258 5)) 258 6))) C (obj_Ref G) (ci := 7) rfl inX7 (slot := 6) (by decide) qw_888 rfl rfl dX7_forget_69 ?_
          refine at_ve (b := M 258 6) (rfl) ?_
          have hb68 : _ ≤ M 258 6 ∧ M 258 6 ≤ _ := tv hT66 (k := 258) (j := 6) rfl
          refine at_ve (b := (((qo M) : Nat) : Int)) (hqo.2) ?_
          refine at_ve (b := if w = 1 then 0 else M 258 6) (by first | exact (if_pos (by omega)).symm | (rw [if_neg (by omega)]; omega)) ?_
          refine at_putM (slot := 6) (ty := .int) C tyX7 (obj_Ref G) (ci := 7) rfl inX7 tyX7_ok nmX7 (by decide) qw_888 rfl rfl (by decide +kernel) rfl rfl (Nat.le_of_ble_eq_true rfl) rfl dX7_forget_72 ?_
          have hT69 : TInv (sSt (sSt M 258 5 (if w = 0 then 0 else M 258 5)) 258 6 (if w = 1 then 0 else M 258 6)) := tv_st hT66 (k := 258) (j := 6) rfl (by split <;> omega)
          refine at_aload_n C 1 dX7_forget_75 rfl ?_
          refine at_iload_n C 2 dX7_forget_76 rfl ?_
          refine at_iconst C dX7_forget_77 ?_
          refine at_icmp_ne C 85 dX7_forget_78 (by decide) (⟨by omega, by omega⟩) (⟨by omega, by omega⟩) (fun h70 => ?_) (fun h70 => ?_)
          · refine at_aload_n C 1 dX7_forget_85 rfl ?_
            refine at_getf (v := .int (sI ((sSt (sSt M 258 5 (if w = 0 then 0 else M 258 5)) 258 6 (if w = 1 then 0 else M 258 6)) 258 7))) C (obj_Ref G) (ci := 7) rfl inX7 (slot := 7) (by decide) qw_889 rfl rfl dX7_forget_86 ?_
            refine at_ve (b := M 258 7) (rfl) ?_
            have hb71 : _ ≤ M 258 7 ∧ M 258 7 ≤ _ := tv hT69 (k := 258) (j := 7) rfl
            refine at_ve (b := (((qm M) : Nat) : Int)) (hqm.2) ?_
            refine at_ve (b := if w = 2 then 0 else M 258 7) (by first | exact (if_pos (by omega)).symm | (rw [if_neg (by omega)]; omega)) ?_
            refine at_putM (slot := 7) (ty := .int) C tyX7 (obj_Ref G) (ci := 7) rfl inX7 tyX7_ok nmX7 (by decide) qw_889 rfl rfl (by decide +kernel) rfl rfl (Nat.le_of_ble_eq_true rfl) rfl dX7_forget_89 ?_
            have hT72 : TInv (sSt (sSt (sSt M 258 5 (if w = 0 then 0 else M 258 5)) 258 6 (if w = 1 then 0 else M 258 6)) 258 7 (if w = 2 then 0 else M 258 7)) := tv_st hT69 (k := 258) (j := 7) rfl (by split <;> omega)
            refine at_iload_n C 0 dX7_forget_92 rfl ?_
            exact hret _ _ _ _ _ dX7_forget_93 (⟨congrArg sI (if_pos (by omega)).symm, (if_pos (by omega)).symm, hT72, rfl⟩)
          · refine at_iconst C dX7_forget_81 ?_
            refine at_goto C 89 dX7_forget_82 (by decide) ?_
            refine at_ve (b := if w = 2 then 0 else M 258 7) (by first | exact (if_pos (by omega)).symm | (rw [if_neg (by omega)]; omega)) ?_
            refine at_putM (slot := 7) (ty := .int) C tyX7 (obj_Ref G) (ci := 7) rfl inX7 tyX7_ok nmX7 (by decide) qw_889 rfl rfl (by decide +kernel) rfl rfl (Nat.le_of_ble_eq_true rfl) rfl dX7_forget_89 ?_
            have hT73 : TInv (sSt (sSt (sSt M 258 5 (if w = 0 then 0 else M 258 5)) 258 6 (if w = 1 then 0 else M 258 6)) 258 7 (if w = 2 then 0 else M 258 7)) := tv_st hT69 (k := 258) (j := 7) rfl (by split <;> omega)
            refine at_iload_n C 0 dX7_forget_92 rfl ?_
            exact hret _ _ _ _ _ dX7_forget_93 (⟨congrArg sI (if_pos (by omega)).symm, (if_pos (by omega)).symm, hT73, rfl⟩)
        · refine at_iconst C dX7_forget_64 ?_
          refine at_goto C 72 dX7_forget_65 (by decide) ?_
          refine at_ve (b := if w = 1 then 0 else M 258 6) (by first | exact (if_pos (by omega)).symm | (rw [if_neg (by omega)]; omega)) ?_
          refine at_putM (slot := 6) (ty := .int) C tyX7 (obj_Ref G) (ci := 7) rfl inX7 tyX7_ok nmX7 (by decide) qw_888 rfl rfl (by decide +kernel) rfl rfl (Nat.le_of_ble_eq_true rfl) rfl dX7_forget_72 ?_
          have hT74 : TInv (sSt (sSt M 258 5 (if w = 0 then 0 else M 258 5)) 258 6 (if w = 1 then 0 else M 258 6)) := tv_st hT66 (k := 258) (j := 6) rfl (by split <;> omega)
          refine at_aload_n C 1 dX7_forget_75 rfl ?_
          refine at_iload_n C 2 dX7_forget_76 rfl ?_
          refine at_iconst C dX7_forget_77 ?_
          refine at_icmp_ne C 85 dX7_forget_78 (by decide) (⟨by omega, by omega⟩) (⟨by omega, by omega⟩) (fun h75 => ?_) (fun h75 => ?_)
          · refine at_aload_n C 1 dX7_forget_85 rfl ?_
            refine at_getf (v := .int (sI ((sSt (sSt M 258 5 (if w = 0 then 0 else M 258 5)) 258 6 (if w = 1 then 0 else M 258 6)) 258 7))) C (obj_Ref G) (ci := 7) rfl inX7 (slot := 7) (by decide) qw_889 rfl rfl dX7_forget_86 ?_
            refine at_ve (b := M 258 7) (rfl) ?_
            have hb76 : _ ≤ M 258 7 ∧ M 258 7 ≤ _ := tv hT74 (k := 258) (j := 7) rfl
            refine at_ve (b := (((qm M) : Nat) : Int)) (hqm.2) ?_
            refine at_ve (b := if w = 2 then 0 else M 258 7) (by first | exact (if_pos (by omega)).symm | (rw [if_neg (by omega)]; omega)) ?_
            refine at_putM (slot := 7) (ty := .int) C tyX7 (obj_Ref G) (ci := 7) rfl inX7 tyX7_ok nmX7 (by decide) qw_889 rfl rfl (by decide +kernel) rfl rfl (Nat.le_of_ble_eq_true rfl) rfl dX7_forget_89 ?_
            have hT77 : TInv (sSt (sSt (sSt M 258 5 (if w = 0 then 0 else M 258 5)) 258 6 (if w = 1 then 0 else M 258 6)) 258 7 (if w = 2 then 0 else M 258 7)) := tv_st hT74 (k := 258) (j := 7) rfl (by split <;> omega)
            refine at_iload_n C 0 dX7_forget_92 rfl ?_
            exact hret _ _ _ _ _ dX7_forget_93 (⟨congrArg sI (if_pos (by omega)).symm, (if_pos (by omega)).symm, hT77, rfl⟩)
          · refine at_iconst C dX7_forget_81 ?_
            refine at_goto C 89 dX7_forget_82 (by decide) ?_
            refine at_ve (b := if w = 2 then 0 else M 258 7) (by first | exact (if_pos (by omega)).symm | (rw [if_neg (by omega)]; omega)) ?_
            refine at_putM (slot := 7) (ty := .int) C tyX7 (obj_Ref G) (ci := 7) rfl inX7 tyX7_ok nmX7 (by decide) qw_889 rfl rfl (by decide +kernel) rfl rfl (Nat.le_of_ble_eq_true rfl) rfl dX7_forget_89 ?_
            have hT78 : TInv (sSt (sSt (sSt M 258 5 (if w = 0 then 0 else M 258 5)) 258 6 (if w = 1 then 0 else M 258 6)) 258 7 (if w = 2 then 0 else M 258 7)) := tv_st hT74 (k := 258) (j := 7) rfl (by split <;> omega)
            refine at_iload_n C 0 dX7_forget_92 rfl ?_
            exact hret _ _ _ _ _ dX7_forget_93 (⟨congrArg sI (if_pos (by omega)).symm, (if_pos (by omega)).symm, hT78, rfl⟩)
      · refine at_iconst C dX7_forget_47 ?_
        refine at_goto C 55 dX7_forget_48 (by decide) ?_
        refine at_ve (b := if w = 0 then 0 else M 258 5) (by first | exact (if_pos (by omega)).symm | (rw [if_neg (by omega)]; omega)) ?_
        refine at_putM (slot := 5) (ty := .int) C tyX7 (obj_Ref G) (ci := 7) rfl inX7 tyX7_ok nmX7 (by decide) qw_887 rfl rfl (by decide +kernel) rfl rfl (Nat.le_of_ble_eq_true rfl) rfl dX7_forget_55 ?_
        have hT79 : TInv (sSt M 258 5 (if w = 0 then 0 else M 258 5)) := tv_st hT (k := 258) (j := 5) rfl (by split <;> omega)
        refine at_aload_n C 1 dX7_forget_58 rfl ?_
        refine at_iload_n C 2 dX7_forget_59 rfl ?_
        refine at_iconst C dX7_forget_60 ?_
        refine at_icmp_ne C 68 dX7_forget_61 (by decide) (⟨by omega, by omega⟩) (⟨by omega, by omega⟩) (fun h80 => ?_) (fun h80 => ?_)
        · refine at_aload_n C 1 dX7_forget_68 rfl ?_
          refine at_getf (v := .int (sI ((sSt M 258 5 (if w = 0 then 0 else M 258 5)) 258 6))) C (obj_Ref G) (ci := 7) rfl inX7 (slot := 6) (by decide) qw_888 rfl rfl dX7_forget_69 ?_
          refine at_ve (b := M 258 6) (rfl) ?_
          have hb81 : _ ≤ M 258 6 ∧ M 258 6 ≤ _ := tv hT79 (k := 258) (j := 6) rfl
          refine at_ve (b := (((qo M) : Nat) : Int)) (hqo.2) ?_
          refine at_ve (b := if w = 1 then 0 else M 258 6) (by first | exact (if_pos (by omega)).symm | (rw [if_neg (by omega)]; omega)) ?_
          refine at_putM (slot := 6) (ty := .int) C tyX7 (obj_Ref G) (ci := 7) rfl inX7 tyX7_ok nmX7 (by decide) qw_888 rfl rfl (by decide +kernel) rfl rfl (Nat.le_of_ble_eq_true rfl) rfl dX7_forget_72 ?_
          have hT82 : TInv (sSt (sSt M 258 5 (if w = 0 then 0 else M 258 5)) 258 6 (if w = 1 then 0 else M 258 6)) := tv_st hT79 (k := 258) (j := 6) rfl (by split <;> omega)
          refine at_aload_n C 1 dX7_forget_75 rfl ?_
          refine at_iload_n C 2 dX7_forget_76 rfl ?_
          refine at_iconst C dX7_forget_77 ?_
          refine at_icmp_ne C 85 dX7_forget_78 (by decide) (⟨by omega, by omega⟩) (⟨by omega, by omega⟩) (fun h83 => ?_) (fun h83 => ?_)
          · refine at_aload_n C 1 dX7_forget_85 rfl ?_
            refine at_getf (v := .int (sI ((sSt (sSt M 258 5 (if w = 0 then 0 else M 258 5)) 258 6 (if w = 1 then 0 else M 258 6)) 258 7))) C (obj_Ref G) (ci := 7) rfl inX7 (slot := 7) (by decide) qw_889 rfl rfl dX7_forget_86 ?_
            refine at_ve (b := M 258 7) (rfl) ?_
            have hb84 : _ ≤ M 258 7 ∧ M 258 7 ≤ _ := tv hT82 (k := 258) (j := 7) rfl
            refine at_ve (b := (((qm M) : Nat) : Int)) (hqm.2) ?_
            refine at_ve (b := if w = 2 then 0 else M 258 7) (by first | exact (if_pos (by omega)).symm | (rw [if_neg (by omega)]; omega)) ?_
            refine at_putM (slot := 7) (ty := .int) C tyX7 (obj_Ref G) (ci := 7) rfl inX7 tyX7_ok nmX7 (by decide) qw_889 rfl rfl (by decide +kernel) rfl rfl (Nat.le_of_ble_eq_true rfl) rfl dX7_forget_89 ?_
            have hT85 : TInv (sSt (sSt (sSt M 258 5 (if w = 0 then 0 else M 258 5)) 258 6 (if w = 1 then 0 else M 258 6)) 258 7 (if w = 2 then 0 else M 258 7)) := tv_st hT82 (k := 258) (j := 7) rfl (by split <;> omega)
            refine at_iload_n C 0 dX7_forget_92 rfl ?_
            exact hret _ _ _ _ _ dX7_forget_93 (⟨congrArg sI (if_pos (by omega)).symm, (if_pos (by omega)).symm, hT85, rfl⟩)
          · refine at_iconst C dX7_forget_81 ?_
            refine at_goto C 89 dX7_forget_82 (by decide) ?_
            refine at_ve (b := if w = 2 then 0 else M 258 7) (by first | exact (if_pos (by omega)).symm | (rw [if_neg (by omega)]; omega)) ?_
            refine at_putM (slot := 7) (ty := .int) C tyX7 (obj_Ref G) (ci := 7) rfl inX7 tyX7_ok nmX7 (by decide) qw_889 rfl rfl (by decide +kernel) rfl rfl (Nat.le_of_ble_eq_true rfl) rfl dX7_forget_89 ?_
            have hT86 : TInv (sSt (sSt (sSt M 258 5 (if w = 0 then 0 else M 258 5)) 258 6 (if w = 1 then 0 else M 258 6)) 258 7 (if w = 2 then 0 else M 258 7)) := tv_st hT82 (k := 258) (j := 7) rfl (by split <;> omega)
            refine at_iload_n C 0 dX7_forget_92 rfl ?_
            exact hret _ _ _ _ _ dX7_forget_93 (⟨congrArg sI (if_pos (by omega)).symm, (if_pos (by omega)).symm, hT86, rfl⟩)
        · refine at_iconst C dX7_forget_64 ?_
          refine at_goto C 72 dX7_forget_65 (by decide) ?_
          refine at_ve (b := if w = 1 then 0 else M 258 6) (by first | exact (if_pos (by omega)).symm | (rw [if_neg (by omega)]; omega)) ?_
          refine at_putM (slot := 6) (ty := .int) C tyX7 (obj_Ref G) (ci := 7) rfl inX7 tyX7_ok nmX7 (by decide) qw_888 rfl rfl (by decide +kernel) rfl rfl (Nat.le_of_ble_eq_true rfl) rfl dX7_forget_72 ?_
          have hT87 : TInv (sSt (sSt M 258 5 (if w = 0 then 0 else M 258 5)) 258 6 (if w = 1 then 0 else M 258 6)) := tv_st hT79 (k := 258) (j := 6) rfl (by split <;> omega)
          refine at_aload_n C 1 dX7_forget_75 rfl ?_
          refine at_iload_n C 2 dX7_forget_76 rfl ?_
          refine at_iconst C dX7_forget_77 ?_
          refine at_icmp_ne C 85 dX7_forget_78 (by decide) (⟨by omega, by omega⟩) (⟨by omega, by omega⟩) (fun h88 => ?_) (fun h88 => ?_)
          · refine at_aload_n C 1 dX7_forget_85 rfl ?_
            refine at_getf (v := .int (sI ((sSt (sSt M 258 5 (if w = 0 then 0 else M 258 5)) 258 6 (if w = 1 then 0 else M 258 6)) 258 7))) C (obj_Ref G) (ci := 7) rfl inX7 (slot := 7) (by decide) qw_889 rfl rfl dX7_forget_86 ?_
            refine at_ve (b := M 258 7) (rfl) ?_
            have hb89 : _ ≤ M 258 7 ∧ M 258 7 ≤ _ := tv hT87 (k := 258) (j := 7) rfl
            refine at_ve (b := (((qm M) : Nat) : Int)) (hqm.2) ?_
            refine at_ve (b := if w = 2 then 0 else M 258 7) (by first | exact (if_pos (by omega)).symm | (rw [if_neg (by omega)]; omega)) ?_
            refine at_putM (slot := 7) (ty := .int) C tyX7 (obj_Ref G) (ci := 7) rfl inX7 tyX7_ok nmX7 (by decide) qw_889 rfl rfl (by decide +kernel) rfl rfl (Nat.le_of_ble_eq_true rfl) rfl dX7_forget_89 ?_
            have hT90 : TInv (sSt (sSt (sSt M 258 5 (if w = 0 then 0 else M 258 5)) 258 6 (if w = 1 then 0 else M 258 6)) 258 7 (if w = 2 then 0 else M 258 7)) := tv_st hT87 (k := 258) (j := 7) rfl (by split <;> omega)
            refine at_iload_n C 0 dX7_forget_92 rfl ?_
            exact hret _ _ _ _ _ dX7_forget_93 (⟨congrArg sI (if_pos (by omega)).symm, (if_pos (by omega)).symm, hT90, rfl⟩)
          · refine at_iconst C dX7_forget_81 ?_
            refine at_goto C 89 dX7_forget_82 (by decide) ?_
            refine at_ve (b := if w = 2 then 0 else M 258 7) (by first | exact (if_pos (by omega)).symm | (rw [if_neg (by omega)]; omega)) ?_
            refine at_putM (slot := 7) (ty := .int) C tyX7 (obj_Ref G) (ci := 7) rfl inX7 tyX7_ok nmX7 (by decide) qw_889 rfl rfl (by decide +kernel) rfl rfl (Nat.le_of_ble_eq_true rfl) rfl dX7_forget_89 ?_
            have hT91 : TInv (sSt (sSt (sSt M 258 5 (if w = 0 then 0 else M 258 5)) 258 6 (if w = 1 then 0 else M 258 6)) 258 7 (if w = 2 then 0 else M 258 7)) := tv_st hT87 (k := 258) (j := 7) rfl (by split <;> omega)
            refine at_iload_n C 0 dX7_forget_92 rfl ?_
            exact hret _ _ _ _ _ dX7_forget_93 (⟨congrArg sI (if_pos (by omega)).symm, (if_pos (by omega)).symm, hT91, rfl⟩)
  · refine at_aload_n C 0 dX7_forget_9 rfl ?_
    refine at_call_i C (c_X7_bad l D G hT ⟨by omega, by omega, by omega⟩) (As := []) (obj_Ref G) (ci := 7) rfl qw_1012 qw_1009 qw_8 qw_1011 qp_34 ⟨by decide, by decide, show (parseMethodDescriptor yX7_bad.desc).map (fun d => d.parameters.length) = some 0 by decide +kernel⟩ ⟨by decide, by decide⟩ ⟨Nat.zero_le _, Nat.zero_le _⟩ (Nat.le_of_ble_eq_true rfl) dX7_forget_10 rfl (fun r M' L' hp93 => ?_)
    obtain ⟨rfl, rfl, hT92, rfl⟩ := hp93
    exact hret _ _ _ _ _ dX7_forget_13 (⟨congrArg sI (if_neg (by first | omega | (simp only [Int.toNat_natCast]; omega))).symm, (if_neg (by first | omega | (simp only [Int.toNat_natCast]; omega))).symm, hT92, rfl⟩)

set_option maxHeartbeats 4000000 in
set_option maxRecDepth 100000 in
theorem c_X7_thoseSeen (l : Launch) (D : va_G) (G : sG) {M : sM} {L : sL} (hT : TInv M) : sKi l D G yX7_thoseSeen cX7_thoseSeen 5 .int 3 65 [.ref (G.1 (258))] M L (fun r M' L' => r = sI (((qSeB M : Nat) : Int)) ∧ M = M' ∧ L = L') := by
  refine sKi_go (by decide) (Nat.le_of_ble_eq_true rfl) ?_
  intro zp ze zs zm za zb zt zc Q C hret
  refine at_eq (lv' := [(0, .ref (G.1 (258)))]) (st' := []) (M' := M) (L' := L) ?_ rfl rfl rfl rfl
  have hqn := qn_r hT
  have hqc := qc_r hT
  have hqu := qu_r hT
  have hqt := qt_r hT
  have hqs := qs_r hT
  have hqo := qo_r hT
  have hqm := qm_r hT
  refine at_iconst C dX7_thoseSeen_0 ?_
  refine at_istore_n C [(1, .int (sI (0))), (0, .ref (G.1 (258)))] dX7_thoseSeen_1 (by decide) rfl ?_
  refine at_iconst C dX7_thoseSeen_2 ?_
  refine at_istore_n C [(2, .int (sI (0))), (1, .int (sI (0))), (0, .ref (G.1 (258)))] dX7_thoseSeen_3 (by decide) rfl ?_
  have H4 : ∀ (fu : Nat) (k : Nat), qn M - k < fu → (k ≤ qn M) → sAt zp l ze (sRm 3 65) zs zm za zb zt zc D G 5 0 0 Q 4 [(0, .ref (G.1 (258))), (1, .int (sI ((((bits (fun s => qseP M s (qs M)) k) : Nat) : Int)))), (2, .int (sI ((k : Int))))] [] M L := by
    intro fu
    induction fu with
    | zero => intro k hd hk; exact absurd hd (Nat.not_lt_zero _)
    | succ fu ih4 =>
      intro k hd4 hk
      have hbl : bits (fun s => qseP M s (qs M)) k < 64 := bits_lt6 _ (by omega)
      have hb3 := tv hT (k := 263) (j := k) (lo := -2) (hi := 11) rfl
      refine at_iload_n C 2 dX7_thoseSeen_4 rfl ?_
      refine at_aload_n C 0 dX7_thoseSeen_5 rfl ?_
      refine at_getf (v := .int (sI (M 258 1))) C (obj_Ref G) (ci := 7) rfl inX7 (slot := 1) (by decide) qw_883 rfl rfl dX7_thoseSeen_6 ?_
      have hb1 : _ ≤ M 258 1 ∧ M 258 1 ≤ _ := tv hT (k := 258) (j := 1) rfl
      refine at_ve (b := (((qn M) : Nat) : Int)) (hqn.2) ?_
      refine at_icmp_ge C 106 dX7_thoseSeen_9 (by decide) (⟨by omega, by omega⟩) (⟨by omega, by omega⟩) (fun h2 => ?_) (fun h2 => ?_)
      · refine at_iload_n C 1 dX7_thoseSeen_106 rfl ?_
        exact hret _ _ _ _ _ dX7_thoseSeen_107 (⟨congrArg sI (by unfold qSeB; rw [show qn M = k by omega]), rfl, rfl⟩)
      · refine at_aload_n C 0 dX7_thoseSeen_12 rfl ?_
        refine at_getf (v := .ref (G.1 (263))) C (obj_Ref G) (ci := 7) rfl inX7 (slot := 11) (by decide) qw_893 rfl rfl dX7_thoseSeen_13 ?_
        refine at_iload_n C 2 dX7_thoseSeen_16 rfl ?_
        refine at_iald C k (ar_263 G) (rfl) (by omega) dX7_thoseSeen_17 ?_
        have hb3 : _ ≤ M 263 k ∧ M 263 k ≤ _ := tv hT (k := 263) (j := k) rfl
        refine at_if_lt C 25 dX7_thoseSeen_18 (by decide) (⟨by omega, by omega⟩) (fun h4 => ?_) (fun h4 => ?_)
        · refine at_iconst C dX7_thoseSeen_25 ?_
          refine at_vi (y := (sB (qseP M k 0))) (sB_f (fun z => absurd z.1 (by omega))) ?_
          refine at_istore_n C [(3, .int (sB (qseP M k 0))), (0, .ref (G.1 (258))), (1, .int (sI ((((bits (fun s => qseP M s (qs M)) k) : Nat) : Int)))), (2, .int (sI ((k : Int))))] dX7_thoseSeen_26 (by decide) rfl ?_
          refine at_iconst C dX7_thoseSeen_27 ?_
          refine at_istore C [(4, .int (sI (0))), (3, .int (sB (qseP M k 0))), (0, .ref (G.1 (258))), (1, .int (sI ((((bits (fun s => qseP M s (qs M)) k) : Nat) : Int)))), (2, .int (sI ((k : Int))))] dX7_thoseSeen_28 (by decide) rfl ?_
          have H30 : ∀ (fu : Nat) (r : Nat), qs M - r < fu → (r ≤ qs M) → sAt zp l ze (sRm 3 65) zs zm za zb zt zc D G 5 0 0 Q 30 [(0, .ref (G.1 (258))), (1, .int (sI ((((bits (fun s => qseP M s (qs M)) k) : Nat) : Int)))), (2, .int (sI ((k : Int)))), (3, .int (sB (qseP M k r))), (4, .int (sI ((((2 * r) : Nat) : Int))))] [] M L := by
            intro fu
            induction fu with
            | zero => intro r hd hr; exact absurd hd (Nat.not_lt_zero _)
            | succ fu ih30 =>
              intro r hd30 hr
              have hs0 := tv hT (k := 267) (j := 2 * r) (lo := 0) (hi := 60) rfl
              have hs1 := tv hT (k := 267) (j := 2 * r + 1) (lo := 0) (hi := 60) rfl
              refine at_iload C 4 dX7_thoseSeen_30 rfl ?_
              refine at_iconst C dX7_thoseSeen_32 ?_
              refine at_aload_n C 0 dX7_thoseSeen_33 rfl ?_
              refine at_getf (v := .int (sI (M 258 5))) C (obj_Ref G) (ci := 7) rfl inX7 (slot := 5) (by decide) qw_887 rfl rfl dX7_thoseSeen_34 ?_
              have hb5 : _ ≤ M 258 5 ∧ M 258 5 ≤ _ := tv hT (k := 258) (j := 5) rfl
              refine at_ve (b := (((qs M) : Nat) : Int)) (hqs.2) ?_
              refine at_imul C dX7_thoseSeen_37 ?_
              refine at_icmp_ge C 86 dX7_thoseSeen_38 (by decide) (⟨by omega, by omega⟩) (⟨by omega, by omega⟩) (fun h6 => ?_) (fun h6 => ?_)
              · have hfin : qseP M k r ↔ qseP M k (qs M) := by rw [show r = qs M by omega]
                refine at_iload_n C 1 dX7_thoseSeen_86 rfl ?_
                refine at_iload_n C 3 dX7_thoseSeen_87 rfl ?_
                refine at_if_eqB C 97 dX7_thoseSeen_88 (by decide) (fun h7 => ?_) (fun h7 => ?_)
                · have hno : ¬ qseP M k (qs M) := fun z => absurd (hfin.mpr z) (by assumption)
                  refine at_iconst C dX7_thoseSeen_97 ?_
                  refine at_ior C ((((bits (fun s => qseP M s (qs M)) k) : Nat) : Int)) dX7_thoseSeen_98 (zb_or0 _) ?_
                  refine at_istore_n C [(1, .int (sI ((((bits (fun s => qseP M s (qs M)) k) : Nat) : Int)))), (0, .ref (G.1 (258))), (2, .int (sI ((k : Int)))), (3, .int (sB (qseP M k r))), (4, .int (sI ((((2 * r) : Nat) : Int))))] dX7_thoseSeen_99 (by decide) rfl ?_
                  refine at_iinc C 2 [(2, .int (sI ((k : Int) + 1))), (1, .int (sI ((((bits (fun s => qseP M s (qs M)) k) : Nat) : Int)))), (0, .ref (G.1 (258))), (3, .int (sB (qseP M k r))), (4, .int (sI ((((2 * r) : Nat) : Int))))] dX7_thoseSeen_100 rfl (by decide) rfl ?_
                  refine at_goto C 4 dX7_thoseSeen_103 (by decide) ?_
                  refine at_lv [2, 1, 0] rfl ?_
                  exact at_eq (ih4 (k + 1) (by omega) (by omega)) (lvc_s (lvc_i (by rw [bits_n (p := fun s => qseP M s (qs M)) hno]) (lvc_i (by omega) rfl))) rfl (rfl) (rfl)
                · have hyes : qseP M k (qs M) := hfin.mp (by assumption)
                  refine at_iconst C dX7_thoseSeen_91 ?_
                  refine at_iload_n C 2 dX7_thoseSeen_92 rfl ?_
                  refine at_ishl C ((((2 ^ k) : Nat) : Int)) dX7_thoseSeen_93 (zb_shl (by omega)) ?_
                  refine at_goto C 98 dX7_thoseSeen_94 (by decide) ?_
                  refine at_ior C ((((bits (fun s => qseP M s (qs M)) k ||| 2 ^ k) : Nat) : Int)) dX7_thoseSeen_98 (zb_or _ _) ?_
                  refine at_istore_n C [(1, .int (sI ((((bits (fun s => qseP M s (qs M)) k ||| 2 ^ k) : Nat) : Int)))), (0, .ref (G.1 (258))), (2, .int (sI ((k : Int)))), (3, .int (sB (qseP M k r))), (4, .int (sI ((((2 * r) : Nat) : Int))))] dX7_thoseSeen_99 (by decide) rfl ?_
                  refine at_iinc C 2 [(2, .int (sI ((k : Int) + 1))), (1, .int (sI ((((bits (fun s => qseP M s (qs M)) k ||| 2 ^ k) : Nat) : Int)))), (0, .ref (G.1 (258))), (3, .int (sB (qseP M k r))), (4, .int (sI ((((2 * r) : Nat) : Int))))] dX7_thoseSeen_100 rfl (by decide) rfl ?_
                  refine at_goto C 4 dX7_thoseSeen_103 (by decide) ?_
                  refine at_lv [2, 1, 0] rfl ?_
                  exact at_eq (ih4 (k + 1) (by omega) (by omega)) (lvc_s (lvc_i (by rw [bits_y (p := fun s => qseP M s (qs M)) hyes]) (lvc_i (by omega) rfl))) rfl (rfl) (rfl)
              · refine at_iload_n C 3 dX7_thoseSeen_41 rfl ?_
                refine at_if_eqB C 86 dX7_thoseSeen_42 (by decide) (fun h8 => ?_) (fun h8 => ?_)
                · have hfin : qseP M k r ↔ qseP M k (qs M) := ⟨fun z => absurd z (by assumption), fun z => absurd z (qse_m (by omega) (by assumption))⟩
                  refine at_iload_n C 1 dX7_thoseSeen_86 rfl ?_
                  refine at_iload_n C 3 dX7_thoseSeen_87 rfl ?_
                  refine at_if_eqB C 97 dX7_thoseSeen_88 (by decide) (fun h9 => ?_) (fun h9 => ?_)
                  · have hno : ¬ qseP M k (qs M) := fun z => absurd (hfin.mpr z) (by assumption)
                    refine at_iconst C dX7_thoseSeen_97 ?_
                    refine at_ior C ((((bits (fun s => qseP M s (qs M)) k) : Nat) : Int)) dX7_thoseSeen_98 (zb_or0 _) ?_
                    refine at_istore_n C [(1, .int (sI ((((bits (fun s => qseP M s (qs M)) k) : Nat) : Int)))), (0, .ref (G.1 (258))), (2, .int (sI ((k : Int)))), (3, .int (sB (qseP M k r))), (4, .int (sI ((((2 * r) : Nat) : Int))))] dX7_thoseSeen_99 (by decide) rfl ?_
                    refine at_iinc C 2 [(2, .int (sI ((k : Int) + 1))), (1, .int (sI ((((bits (fun s => qseP M s (qs M)) k) : Nat) : Int)))), (0, .ref (G.1 (258))), (3, .int (sB (qseP M k r))), (4, .int (sI ((((2 * r) : Nat) : Int))))] dX7_thoseSeen_100 rfl (by decide) rfl ?_
                    refine at_goto C 4 dX7_thoseSeen_103 (by decide) ?_
                    refine at_lv [2, 1, 0] rfl ?_
                    exact at_eq (ih4 (k + 1) (by omega) (by omega)) (lvc_s (lvc_i (by rw [bits_n (p := fun s => qseP M s (qs M)) hno]) (lvc_i (by omega) rfl))) rfl (rfl) (rfl)
                  · have hyes : qseP M k (qs M) := hfin.mp (by assumption)
                    refine at_iconst C dX7_thoseSeen_91 ?_
                    refine at_iload_n C 2 dX7_thoseSeen_92 rfl ?_
                    refine at_ishl C ((((2 ^ k) : Nat) : Int)) dX7_thoseSeen_93 (zb_shl (by omega)) ?_
                    refine at_goto C 98 dX7_thoseSeen_94 (by decide) ?_
                    refine at_ior C ((((bits (fun s => qseP M s (qs M)) k ||| 2 ^ k) : Nat) : Int)) dX7_thoseSeen_98 (zb_or _ _) ?_
                    refine at_istore_n C [(1, .int (sI ((((bits (fun s => qseP M s (qs M)) k ||| 2 ^ k) : Nat) : Int)))), (0, .ref (G.1 (258))), (2, .int (sI ((k : Int)))), (3, .int (sB (qseP M k r))), (4, .int (sI ((((2 * r) : Nat) : Int))))] dX7_thoseSeen_99 (by decide) rfl ?_
                    refine at_iinc C 2 [(2, .int (sI ((k : Int) + 1))), (1, .int (sI ((((bits (fun s => qseP M s (qs M)) k ||| 2 ^ k) : Nat) : Int)))), (0, .ref (G.1 (258))), (3, .int (sB (qseP M k r))), (4, .int (sI ((((2 * r) : Nat) : Int))))] dX7_thoseSeen_100 rfl (by decide) rfl ?_
                    refine at_goto C 4 dX7_thoseSeen_103 (by decide) ?_
                    refine at_lv [2, 1, 0] rfl ?_
                    exact at_eq (ih4 (k + 1) (by omega) (by omega)) (lvc_s (lvc_i (by rw [bits_y (p := fun s => qseP M s (qs M)) hyes]) (lvc_i (by omega) rfl))) rfl (rfl) (rfl)
                · have hse : qseP M k r := by assumption
                  have hs3 := hse.1
                  refine at_aload_n C 0 dX7_thoseSeen_45 rfl ?_
                  refine at_aload_n C 0 dX7_thoseSeen_46 rfl ?_
                  refine at_getf (v := .ref (G.1 (263))) C (obj_Ref G) (ci := 7) rfl inX7 (slot := 11) (by decide) qw_893 rfl rfl dX7_thoseSeen_47 ?_
                  refine at_iload_n C 2 dX7_thoseSeen_50 rfl ?_
                  refine at_iald C k (ar_263 G) (rfl) (by omega) dX7_thoseSeen_51 ?_
                  have hb10 : _ ≤ M 263 k ∧ M 263 k ≤ _ := tv hT (k := 263) (j := k) rfl
                  refine at_aload_n C 0 dX7_thoseSeen_52 rfl ?_
                  refine at_getf (v := .ref (G.1 (267))) C (obj_Ref G) (ci := 7) rfl inX7 (slot := 15) (by decide) qw_897 rfl rfl dX7_thoseSeen_53 ?_
                  refine at_iload C 4 dX7_thoseSeen_56 rfl ?_
                  refine at_iald C (2 * r) (ar_267 G) (by omega) (by omega) dX7_thoseSeen_58 ?_
                  have hb11 : _ ≤ M 267 (2 * r) ∧ M 267 (2 * r) ≤ _ := tv hT (k := 267) (j := (2 * r)) rfl
                  refine at_ve (b := (((M 267 (2 * r)).toNat : Nat) : Int)) (by omega) ?_
                  refine at_call_i C (c_X7_driftBehind l D G (M 263 k) ⟨by omega, by omega⟩ ((M 267 (2 * r)).toNat) (by omega) hT) (As := [.int (sI (M 263 k)), .int (sI ((((M 267 (2 * r)).toNat : Nat) : Int)))]) (obj_Ref G) (ci := 7) rfl qw_1256 qw_1253 qw_8 qw_1255 qp_75 ⟨by decide, by decide, show (parseMethodDescriptor yX7_driftBehind.desc).map (fun d => d.parameters.length) = some 2 by decide +kernel⟩ ⟨by decide, by decide⟩ ⟨Nat.zero_le _, Nat.zero_le _⟩ (Nat.le_of_ble_eq_true rfl) dX7_thoseSeen_59 rfl (fun r M' L' hp13 => ?_)
                  obtain ⟨rfl, rfl, rfl⟩ := hp13
                  have hb12 := driN_r (M 260) (c := M 263 k) ⟨by omega, by omega⟩ ((M 267 (2 * r)).toNat)
                  refine at_aload_n C 0 dX7_thoseSeen_62 rfl ?_
                  refine at_getf (v := .ref (G.1 (267))) C (obj_Ref G) (ci := 7) rfl inX7 (slot := 15) (by decide) qw_897 rfl rfl dX7_thoseSeen_63 ?_
                  refine at_iload C 4 dX7_thoseSeen_66 rfl ?_
                  refine at_iconst C dX7_thoseSeen_68 ?_
                  refine at_iadd C dX7_thoseSeen_69 ?_
                  refine at_iald C ((2 * r) + 1) (ar_267 G) (by omega) (by omega) dX7_thoseSeen_70 ?_
                  have hb14 : _ ≤ M 267 ((2 * r) + 1) ∧ M 267 ((2 * r) + 1) ≤ _ := tv hT (k := 267) (j := ((2 * r) + 1)) rfl
                  refine at_icmp_ne C 78 dX7_thoseSeen_71 (by decide) (⟨by omega, by omega⟩) (⟨by omega, by omega⟩) (fun h15 => ?_) (fun h15 => ?_)
                  · refine at_iconst C dX7_thoseSeen_78 ?_
                    refine at_vi (y := (sB (qseP M k (r + 1)))) (sB_f (qse_n (by assumption))) ?_
                    refine at_istore_n C [(3, .int (sB (qseP M k (r + 1)))), (0, .ref (G.1 (258))), (1, .int (sI ((((bits (fun s => qseP M s (qs M)) k) : Nat) : Int)))), (2, .int (sI ((k : Int)))), (4, .int (sI ((((2 * r) : Nat) : Int))))] dX7_thoseSeen_79 (by decide) rfl ?_
                    refine at_iinc C 4 [(4, .int (sI ((((2 * r) : Nat) : Int) + 2))), (3, .int (sB (qseP M k (r + 1)))), (0, .ref (G.1 (258))), (1, .int (sI ((((bits (fun s => qseP M s (qs M)) k) : Nat) : Int)))), (2, .int (sI ((k : Int))))] dX7_thoseSeen_80 rfl (by decide) rfl ?_
                    refine at_goto C 30 dX7_thoseSeen_83 (by decide) ?_
                    refine at_lv [2, 3, 4, 1, 0] rfl ?_
                    exact at_eq (ih30 (r + 1) (by omega) (by omega)) (lvc_s (lvc_s (lvc_s (lvc_s (lvc_i (by omega) rfl))))) rfl (rfl) (rfl)
                  · refine at_iconst C dX7_thoseSeen_74 ?_
                    refine at_goto C 79 dX7_thoseSeen_75 (by decide) ?_
                    refine at_vi (y := (sB (qseP M k (r + 1)))) (sB_t (qse_y (by assumption) (by assumption))) ?_
                    refine at_istore_n C [(3, .int (sB (qseP M k (r + 1)))), (0, .ref (G.1 (258))), (1, .int (sI ((((bits (fun s => qseP M s (qs M)) k) : Nat) : Int)))), (2, .int (sI ((k : Int)))), (4, .int (sI ((((2 * r) : Nat) : Int))))] dX7_thoseSeen_79 (by decide) rfl ?_
                    refine at_iinc C 4 [(4, .int (sI ((((2 * r) : Nat) : Int) + 2))), (3, .int (sB (qseP M k (r + 1)))), (0, .ref (G.1 (258))), (1, .int (sI ((((bits (fun s => qseP M s (qs M)) k) : Nat) : Int)))), (2, .int (sI ((k : Int))))] dX7_thoseSeen_80 rfl (by decide) rfl ?_
                    refine at_goto C 30 dX7_thoseSeen_83 (by decide) ?_
                    refine at_lv [2, 3, 4, 1, 0] rfl ?_
                    exact at_eq (ih30 (r + 1) (by omega) (by omega)) (lvc_s (lvc_s (lvc_s (lvc_s (lvc_i (by omega) rfl))))) rfl (rfl) (rfl)
          refine at_lv [2, 3, 4, 1, 0] rfl ?_
          exact at_eq (H30 _ 0 (Nat.lt_succ_self _) (by omega)) (lvc_s (lvc_s (lvc_s (lvc_s (lvc_i (rfl) rfl))))) rfl (rfl) (rfl)
        · refine at_iconst C dX7_thoseSeen_21 ?_
          refine at_goto C 26 dX7_thoseSeen_22 (by decide) ?_
          refine at_vi (y := (sB (qseP M k 0))) (sB_t (qse_0 (by omega))) ?_
          refine at_istore_n C [(3, .int (sB (qseP M k 0))), (0, .ref (G.1 (258))), (1, .int (sI ((((bits (fun s => qseP M s (qs M)) k) : Nat) : Int)))), (2, .int (sI ((k : Int))))] dX7_thoseSeen_26 (by decide) rfl ?_
          refine at_iconst C dX7_thoseSeen_27 ?_
          refine at_istore C [(4, .int (sI (0))), (3, .int (sB (qseP M k 0))), (0, .ref (G.1 (258))), (1, .int (sI ((((bits (fun s => qseP M s (qs M)) k) : Nat) : Int)))), (2, .int (sI ((k : Int))))] dX7_thoseSeen_28 (by decide) rfl ?_
          have H30 : ∀ (fu : Nat) (r : Nat), qs M - r < fu → (r ≤ qs M) → sAt zp l ze (sRm 3 65) zs zm za zb zt zc D G 5 0 0 Q 30 [(0, .ref (G.1 (258))), (1, .int (sI ((((bits (fun s => qseP M s (qs M)) k) : Nat) : Int)))), (2, .int (sI ((k : Int)))), (3, .int (sB (qseP M k r))), (4, .int (sI ((((2 * r) : Nat) : Int))))] [] M L := by
            intro fu
            induction fu with
            | zero => intro r hd hr; exact absurd hd (Nat.not_lt_zero _)
            | succ fu ih30 =>
              intro r hd30 hr
              have hs0 := tv hT (k := 267) (j := 2 * r) (lo := 0) (hi := 60) rfl
              have hs1 := tv hT (k := 267) (j := 2 * r + 1) (lo := 0) (hi := 60) rfl
              refine at_iload C 4 dX7_thoseSeen_30 rfl ?_
              refine at_iconst C dX7_thoseSeen_32 ?_
              refine at_aload_n C 0 dX7_thoseSeen_33 rfl ?_
              refine at_getf (v := .int (sI (M 258 5))) C (obj_Ref G) (ci := 7) rfl inX7 (slot := 5) (by decide) qw_887 rfl rfl dX7_thoseSeen_34 ?_
              have hb16 : _ ≤ M 258 5 ∧ M 258 5 ≤ _ := tv hT (k := 258) (j := 5) rfl
              refine at_ve (b := (((qs M) : Nat) : Int)) (hqs.2) ?_
              refine at_imul C dX7_thoseSeen_37 ?_
              refine at_icmp_ge C 86 dX7_thoseSeen_38 (by decide) (⟨by omega, by omega⟩) (⟨by omega, by omega⟩) (fun h17 => ?_) (fun h17 => ?_)
              · have hfin : qseP M k r ↔ qseP M k (qs M) := by rw [show r = qs M by omega]
                refine at_iload_n C 1 dX7_thoseSeen_86 rfl ?_
                refine at_iload_n C 3 dX7_thoseSeen_87 rfl ?_
                refine at_if_eqB C 97 dX7_thoseSeen_88 (by decide) (fun h18 => ?_) (fun h18 => ?_)
                · have hno : ¬ qseP M k (qs M) := fun z => absurd (hfin.mpr z) (by assumption)
                  refine at_iconst C dX7_thoseSeen_97 ?_
                  refine at_ior C ((((bits (fun s => qseP M s (qs M)) k) : Nat) : Int)) dX7_thoseSeen_98 (zb_or0 _) ?_
                  refine at_istore_n C [(1, .int (sI ((((bits (fun s => qseP M s (qs M)) k) : Nat) : Int)))), (0, .ref (G.1 (258))), (2, .int (sI ((k : Int)))), (3, .int (sB (qseP M k r))), (4, .int (sI ((((2 * r) : Nat) : Int))))] dX7_thoseSeen_99 (by decide) rfl ?_
                  refine at_iinc C 2 [(2, .int (sI ((k : Int) + 1))), (1, .int (sI ((((bits (fun s => qseP M s (qs M)) k) : Nat) : Int)))), (0, .ref (G.1 (258))), (3, .int (sB (qseP M k r))), (4, .int (sI ((((2 * r) : Nat) : Int))))] dX7_thoseSeen_100 rfl (by decide) rfl ?_
                  refine at_goto C 4 dX7_thoseSeen_103 (by decide) ?_
                  refine at_lv [2, 1, 0] rfl ?_
                  exact at_eq (ih4 (k + 1) (by omega) (by omega)) (lvc_s (lvc_i (by rw [bits_n (p := fun s => qseP M s (qs M)) hno]) (lvc_i (by omega) rfl))) rfl (rfl) (rfl)
                · have hyes : qseP M k (qs M) := hfin.mp (by assumption)
                  refine at_iconst C dX7_thoseSeen_91 ?_
                  refine at_iload_n C 2 dX7_thoseSeen_92 rfl ?_
                  refine at_ishl C ((((2 ^ k) : Nat) : Int)) dX7_thoseSeen_93 (zb_shl (by omega)) ?_
                  refine at_goto C 98 dX7_thoseSeen_94 (by decide) ?_
                  refine at_ior C ((((bits (fun s => qseP M s (qs M)) k ||| 2 ^ k) : Nat) : Int)) dX7_thoseSeen_98 (zb_or _ _) ?_
                  refine at_istore_n C [(1, .int (sI ((((bits (fun s => qseP M s (qs M)) k ||| 2 ^ k) : Nat) : Int)))), (0, .ref (G.1 (258))), (2, .int (sI ((k : Int)))), (3, .int (sB (qseP M k r))), (4, .int (sI ((((2 * r) : Nat) : Int))))] dX7_thoseSeen_99 (by decide) rfl ?_
                  refine at_iinc C 2 [(2, .int (sI ((k : Int) + 1))), (1, .int (sI ((((bits (fun s => qseP M s (qs M)) k ||| 2 ^ k) : Nat) : Int)))), (0, .ref (G.1 (258))), (3, .int (sB (qseP M k r))), (4, .int (sI ((((2 * r) : Nat) : Int))))] dX7_thoseSeen_100 rfl (by decide) rfl ?_
                  refine at_goto C 4 dX7_thoseSeen_103 (by decide) ?_
                  refine at_lv [2, 1, 0] rfl ?_
                  exact at_eq (ih4 (k + 1) (by omega) (by omega)) (lvc_s (lvc_i (by rw [bits_y (p := fun s => qseP M s (qs M)) hyes]) (lvc_i (by omega) rfl))) rfl (rfl) (rfl)
              · refine at_iload_n C 3 dX7_thoseSeen_41 rfl ?_
                refine at_if_eqB C 86 dX7_thoseSeen_42 (by decide) (fun h19 => ?_) (fun h19 => ?_)
                · have hfin : qseP M k r ↔ qseP M k (qs M) := ⟨fun z => absurd z (by assumption), fun z => absurd z (qse_m (by omega) (by assumption))⟩
                  refine at_iload_n C 1 dX7_thoseSeen_86 rfl ?_
                  refine at_iload_n C 3 dX7_thoseSeen_87 rfl ?_
                  refine at_if_eqB C 97 dX7_thoseSeen_88 (by decide) (fun h20 => ?_) (fun h20 => ?_)
                  · have hno : ¬ qseP M k (qs M) := fun z => absurd (hfin.mpr z) (by assumption)
                    refine at_iconst C dX7_thoseSeen_97 ?_
                    refine at_ior C ((((bits (fun s => qseP M s (qs M)) k) : Nat) : Int)) dX7_thoseSeen_98 (zb_or0 _) ?_
                    refine at_istore_n C [(1, .int (sI ((((bits (fun s => qseP M s (qs M)) k) : Nat) : Int)))), (0, .ref (G.1 (258))), (2, .int (sI ((k : Int)))), (3, .int (sB (qseP M k r))), (4, .int (sI ((((2 * r) : Nat) : Int))))] dX7_thoseSeen_99 (by decide) rfl ?_
                    refine at_iinc C 2 [(2, .int (sI ((k : Int) + 1))), (1, .int (sI ((((bits (fun s => qseP M s (qs M)) k) : Nat) : Int)))), (0, .ref (G.1 (258))), (3, .int (sB (qseP M k r))), (4, .int (sI ((((2 * r) : Nat) : Int))))] dX7_thoseSeen_100 rfl (by decide) rfl ?_
                    refine at_goto C 4 dX7_thoseSeen_103 (by decide) ?_
                    refine at_lv [2, 1, 0] rfl ?_
                    exact at_eq (ih4 (k + 1) (by omega) (by omega)) (lvc_s (lvc_i (by rw [bits_n (p := fun s => qseP M s (qs M)) hno]) (lvc_i (by omega) rfl))) rfl (rfl) (rfl)
                  · have hyes : qseP M k (qs M) := hfin.mp (by assumption)
                    refine at_iconst C dX7_thoseSeen_91 ?_
                    refine at_iload_n C 2 dX7_thoseSeen_92 rfl ?_
                    refine at_ishl C ((((2 ^ k) : Nat) : Int)) dX7_thoseSeen_93 (zb_shl (by omega)) ?_
                    refine at_goto C 98 dX7_thoseSeen_94 (by decide) ?_
                    refine at_ior C ((((bits (fun s => qseP M s (qs M)) k ||| 2 ^ k) : Nat) : Int)) dX7_thoseSeen_98 (zb_or _ _) ?_
                    refine at_istore_n C [(1, .int (sI ((((bits (fun s => qseP M s (qs M)) k ||| 2 ^ k) : Nat) : Int)))), (0, .ref (G.1 (258))), (2, .int (sI ((k : Int)))), (3, .int (sB (qseP M k r))), (4, .int (sI ((((2 * r) : Nat) : Int))))] dX7_thoseSeen_99 (by decide) rfl ?_
                    refine at_iinc C 2 [(2, .int (sI ((k : Int) + 1))), (1, .int (sI ((((bits (fun s => qseP M s (qs M)) k ||| 2 ^ k) : Nat) : Int)))), (0, .ref (G.1 (258))), (3, .int (sB (qseP M k r))), (4, .int (sI ((((2 * r) : Nat) : Int))))] dX7_thoseSeen_100 rfl (by decide) rfl ?_
                    refine at_goto C 4 dX7_thoseSeen_103 (by decide) ?_
                    refine at_lv [2, 1, 0] rfl ?_
                    exact at_eq (ih4 (k + 1) (by omega) (by omega)) (lvc_s (lvc_i (by rw [bits_y (p := fun s => qseP M s (qs M)) hyes]) (lvc_i (by omega) rfl))) rfl (rfl) (rfl)
                · have hse : qseP M k r := by assumption
                  have hs3 := hse.1
                  refine at_aload_n C 0 dX7_thoseSeen_45 rfl ?_
                  refine at_aload_n C 0 dX7_thoseSeen_46 rfl ?_
                  refine at_getf (v := .ref (G.1 (263))) C (obj_Ref G) (ci := 7) rfl inX7 (slot := 11) (by decide) qw_893 rfl rfl dX7_thoseSeen_47 ?_
                  refine at_iload_n C 2 dX7_thoseSeen_50 rfl ?_
                  refine at_iald C k (ar_263 G) (rfl) (by omega) dX7_thoseSeen_51 ?_
                  have hb21 : _ ≤ M 263 k ∧ M 263 k ≤ _ := tv hT (k := 263) (j := k) rfl
                  refine at_aload_n C 0 dX7_thoseSeen_52 rfl ?_
                  refine at_getf (v := .ref (G.1 (267))) C (obj_Ref G) (ci := 7) rfl inX7 (slot := 15) (by decide) qw_897 rfl rfl dX7_thoseSeen_53 ?_
                  refine at_iload C 4 dX7_thoseSeen_56 rfl ?_
                  refine at_iald C (2 * r) (ar_267 G) (by omega) (by omega) dX7_thoseSeen_58 ?_
                  have hb22 : _ ≤ M 267 (2 * r) ∧ M 267 (2 * r) ≤ _ := tv hT (k := 267) (j := (2 * r)) rfl
                  refine at_ve (b := (((M 267 (2 * r)).toNat : Nat) : Int)) (by omega) ?_
                  refine at_call_i C (c_X7_driftBehind l D G (M 263 k) ⟨by omega, by omega⟩ ((M 267 (2 * r)).toNat) (by omega) hT) (As := [.int (sI (M 263 k)), .int (sI ((((M 267 (2 * r)).toNat : Nat) : Int)))]) (obj_Ref G) (ci := 7) rfl qw_1256 qw_1253 qw_8 qw_1255 qp_75 ⟨by decide, by decide, show (parseMethodDescriptor yX7_driftBehind.desc).map (fun d => d.parameters.length) = some 2 by decide +kernel⟩ ⟨by decide, by decide⟩ ⟨Nat.zero_le _, Nat.zero_le _⟩ (Nat.le_of_ble_eq_true rfl) dX7_thoseSeen_59 rfl (fun r M' L' hp24 => ?_)
                  obtain ⟨rfl, rfl, rfl⟩ := hp24
                  have hb23 := driN_r (M 260) (c := M 263 k) ⟨by omega, by omega⟩ ((M 267 (2 * r)).toNat)
                  refine at_aload_n C 0 dX7_thoseSeen_62 rfl ?_
                  refine at_getf (v := .ref (G.1 (267))) C (obj_Ref G) (ci := 7) rfl inX7 (slot := 15) (by decide) qw_897 rfl rfl dX7_thoseSeen_63 ?_
                  refine at_iload C 4 dX7_thoseSeen_66 rfl ?_
                  refine at_iconst C dX7_thoseSeen_68 ?_
                  refine at_iadd C dX7_thoseSeen_69 ?_
                  refine at_iald C ((2 * r) + 1) (ar_267 G) (by omega) (by omega) dX7_thoseSeen_70 ?_
                  have hb25 : _ ≤ M 267 ((2 * r) + 1) ∧ M 267 ((2 * r) + 1) ≤ _ := tv hT (k := 267) (j := ((2 * r) + 1)) rfl
                  refine at_icmp_ne C 78 dX7_thoseSeen_71 (by decide) (⟨by omega, by omega⟩) (⟨by omega, by omega⟩) (fun h26 => ?_) (fun h26 => ?_)
                  · refine at_iconst C dX7_thoseSeen_78 ?_
                    refine at_vi (y := (sB (qseP M k (r + 1)))) (sB_f (qse_n (by assumption))) ?_
                    refine at_istore_n C [(3, .int (sB (qseP M k (r + 1)))), (0, .ref (G.1 (258))), (1, .int (sI ((((bits (fun s => qseP M s (qs M)) k) : Nat) : Int)))), (2, .int (sI ((k : Int)))), (4, .int (sI ((((2 * r) : Nat) : Int))))] dX7_thoseSeen_79 (by decide) rfl ?_
                    refine at_iinc C 4 [(4, .int (sI ((((2 * r) : Nat) : Int) + 2))), (3, .int (sB (qseP M k (r + 1)))), (0, .ref (G.1 (258))), (1, .int (sI ((((bits (fun s => qseP M s (qs M)) k) : Nat) : Int)))), (2, .int (sI ((k : Int))))] dX7_thoseSeen_80 rfl (by decide) rfl ?_
                    refine at_goto C 30 dX7_thoseSeen_83 (by decide) ?_
                    refine at_lv [2, 3, 4, 1, 0] rfl ?_
                    exact at_eq (ih30 (r + 1) (by omega) (by omega)) (lvc_s (lvc_s (lvc_s (lvc_s (lvc_i (by omega) rfl))))) rfl (rfl) (rfl)
                  · refine at_iconst C dX7_thoseSeen_74 ?_
                    refine at_goto C 79 dX7_thoseSeen_75 (by decide) ?_
                    refine at_vi (y := (sB (qseP M k (r + 1)))) (sB_t (qse_y (by assumption) (by assumption))) ?_
                    refine at_istore_n C [(3, .int (sB (qseP M k (r + 1)))), (0, .ref (G.1 (258))), (1, .int (sI ((((bits (fun s => qseP M s (qs M)) k) : Nat) : Int)))), (2, .int (sI ((k : Int)))), (4, .int (sI ((((2 * r) : Nat) : Int))))] dX7_thoseSeen_79 (by decide) rfl ?_
                    refine at_iinc C 4 [(4, .int (sI ((((2 * r) : Nat) : Int) + 2))), (3, .int (sB (qseP M k (r + 1)))), (0, .ref (G.1 (258))), (1, .int (sI ((((bits (fun s => qseP M s (qs M)) k) : Nat) : Int)))), (2, .int (sI ((k : Int))))] dX7_thoseSeen_80 rfl (by decide) rfl ?_
                    refine at_goto C 30 dX7_thoseSeen_83 (by decide) ?_
                    refine at_lv [2, 3, 4, 1, 0] rfl ?_
                    exact at_eq (ih30 (r + 1) (by omega) (by omega)) (lvc_s (lvc_s (lvc_s (lvc_s (lvc_i (by omega) rfl))))) rfl (rfl) (rfl)
          refine at_lv [2, 3, 4, 1, 0] rfl ?_
          exact at_eq (H30 _ 0 (Nat.lt_succ_self _) (by omega)) (lvc_s (lvc_s (lvc_s (lvc_s (lvc_i (rfl) rfl))))) rfl (rfl) (rfl)
  refine at_lv [2, 1, 0] rfl ?_
  exact at_eq (H4 _ 0 (Nat.lt_succ_self _) (by omega)) (lvc_s (lvc_i (rfl) (lvc_i (rfl) rfl))) rfl (rfl) (rfl)

set_option maxHeartbeats 4000000 in
set_option maxRecDepth 100000 in
theorem c_X7_which (l : Launch) (D : va_G) (G : sG) {M : sM} {L : sL} (hT : TInv M) : sKi l D G yX7_which cX7_which 1 .int 4 89 [.ref (G.1 (258))] M L (fun r M' L' => r = sI (((qSeB M : Nat) : Int)) ∧ M = M' ∧ L = L') := by
  refine sKi_go (by decide) (Nat.le_of_ble_eq_true rfl) ?_
  intro zp ze zs zm za zb zt zc Q C hret
  refine at_eq (lv' := [(0, .ref (G.1 (258)))]) (st' := []) (M' := M) (L' := L) ?_ rfl rfl rfl rfl
  have hqn := qn_r hT
  have hqc := qc_r hT
  have hqu := qu_r hT
  have hqt := qt_r hT
  have hqs := qs_r hT
  have hqo := qo_r hT
  have hqm := qm_r hT
  refine at_aload_n C 0 dX7_which_0 rfl ?_
  refine at_call_i C (c_X7_thoseSeen l D G hT) (As := []) (obj_Ref G) (ci := 7) rfl qw_1323 qw_1320 qw_8 qw_1322 qp_84 ⟨by decide, by decide, show (parseMethodDescriptor yX7_thoseSeen.desc).map (fun d => d.parameters.length) = some 0 by decide +kernel⟩ ⟨by decide, by decide⟩ ⟨Nat.zero_le _, Nat.zero_le _⟩ (Nat.le_of_ble_eq_true rfl) dX7_which_1 rfl (fun r M' L' hp2 => ?_)
  obtain ⟨rfl, rfl, rfl⟩ := hp2
  have hb1 := qSeB_lt hT
  exact hret _ _ _ _ _ dX7_which_4 (⟨rfl, rfl, rfl⟩)

set_option maxHeartbeats 4000000 in
set_option maxRecDepth 100000 in
theorem c_X7_tell (l : Launch) (D : va_G) (G : sG) {M : sM} {L : sL} (hT : TInv M) : sKi l D G yX7_tell cX7_tell 10 .int 4 89 [.ref (G.1 (258))] M L (fun r M' L' => r = sI (qrTell M) ∧ M = M' ∧ L = L') := by
  refine sKi_go (by decide) (Nat.le_of_ble_eq_true rfl) ?_
  intro zp ze zs zm za zb zt zc Q C hret
  refine at_eq (lv' := [(0, .ref (G.1 (258)))]) (st' := []) (M' := M) (L' := L) ?_ rfl rfl rfl rfl
  have hqn := qn_r hT
  have hqc := qc_r hT
  have hqu := qu_r hT
  have hqt := qt_r hT
  have hqs := qs_r hT
  have hqo := qo_r hT
  have hqm := qm_r hT
  refine at_aload_n C 0 dX7_tell_0 rfl ?_
  refine at_call_i C (c_X7_thoseSeen l D G hT) (As := []) (obj_Ref G) (ci := 7) rfl qw_1323 qw_1320 qw_8 qw_1322 qp_84 ⟨by decide, by decide, show (parseMethodDescriptor yX7_thoseSeen.desc).map (fun d => d.parameters.length) = some 0 by decide +kernel⟩ ⟨by decide, by decide⟩ ⟨Nat.zero_le _, Nat.zero_le _⟩ (Nat.le_of_ble_eq_true rfl) dX7_tell_1 rfl (fun r M' L' hp2 => ?_)
  obtain ⟨rfl, rfl, rfl⟩ := hp2
  have hb1 := qSeB_lt hT
  refine at_istore_n C [(1, .int (sI ((((qSeB M) : Nat) : Int)))), (0, .ref (G.1 (258)))] dX7_tell_4 (by decide) rfl ?_
  refine at_iconst C dX7_tell_5 ?_
  refine at_istore_n C [(2, .int (sI (-1))), (1, .int (sI ((((qSeB M) : Nat) : Int)))), (0, .ref (G.1 (258)))] dX7_tell_6 (by decide) rfl ?_
  refine at_ldcw (n := 1048576) C qw_1328 dX7_tell_7 (by decide +kernel) ?_
  refine at_istore_n C [(3, .int (sI (1048576))), (2, .int (sI (-1))), (1, .int (sI ((((qSeB M) : Nat) : Int)))), (0, .ref (G.1 (258)))] dX7_tell_10 (by decide) rfl ?_
  refine at_iconst C dX7_tell_11 ?_
  refine at_istore C [(4, .int (sI (0))), (3, .int (sI (1048576))), (2, .int (sI (-1))), (1, .int (sI ((((qSeB M) : Nat) : Int)))), (0, .ref (G.1 (258)))] dX7_tell_12 (by decide) rfl ?_
  have H14 : ∀ (fu : Nat) (t : Nat), 21 - t < fu → (t ≤ 21) → (qSeB M ≠ 0 ∨ t = 0) → sAt zp l ze (sRm 4 89) zs zm za zb zt zc D G 10 0 0 Q 14 [(0, .ref (G.1 (258))), (1, .int (sI ((((qSeB M) : Nat) : Int)))), (2, .int (sI (qsB (qtlF M) t))), (3, .int (sI (qsF (qtlF M) t))), (4, .int (sI ((t : Int))))] [] M L := by
    intro fu
    induction fu with
    | zero => intro t hd hk hz; exact absurd hd (Nat.not_lt_zero _)
    | succ fu ih14 =>
      intro t hd14 hk hz
      have hfr := qtlF_r M
      have hF := qsF_r (f := qtlF M) (fun n => (hfr n).1) t
      have hB := qsB_r (qtlF M) t
      refine at_iload C 4 dX7_tell_14 rfl ?_
      refine at_bipush C dX7_tell_16 (by decide) (by decide) ?_
      refine at_icmp_gt C 171 dX7_tell_18 (by decide) (⟨by omega, by omega⟩) (⟨by omega, by omega⟩) (fun h3 => ?_) (fun h3 => ?_)
      · refine at_iload_n C 2 dX7_tell_171 rfl ?_
        exact hret _ _ _ _ _ dX7_tell_172 (⟨congrArg sI (by unfold qrTell; first | (rw [qsA_n (by omega), show t = 21 by omega]) | (rw [qsA_y (by omega), show t = 0 by omega]; rfl)), rfl, rfl⟩)
      · refine at_iload_n C 1 dX7_tell_21 rfl ?_
        refine at_if_eq C 171 dX7_tell_22 (by decide) (⟨by omega, by omega⟩) (fun h4 => ?_) (fun h4 => ?_)
        · refine at_iload_n C 2 dX7_tell_171 rfl ?_
          exact hret _ _ _ _ _ dX7_tell_172 (⟨congrArg sI (by unfold qrTell; first | (rw [qsA_n (by omega), show t = 21 by omega]) | (rw [qsA_y (by omega), show t = 0 by omega]; rfl)), rfl, rfl⟩)
        · refine at_iconst C dX7_tell_25 ?_
          refine at_istore C [(5, .int (sI (0))), (0, .ref (G.1 (258))), (1, .int (sI ((((qSeB M) : Nat) : Int)))), (2, .int (sI (qsB (qtlF M) t))), (3, .int (sI (qsF (qtlF M) t))), (4, .int (sI ((t : Int))))] dX7_tell_26 (by decide) rfl ?_
          refine at_iconst C dX7_tell_28 ?_
          refine at_istore C [(6, .int (sI (0))), (5, .int (sI (0))), (0, .ref (G.1 (258))), (1, .int (sI ((((qSeB M) : Nat) : Int)))), (2, .int (sI (qsB (qtlF M) t))), (3, .int (sI (qsF (qtlF M) t))), (4, .int (sI ((t : Int))))] dX7_tell_29 (by decide) rfl ?_
          have H31 : ∀ (fu : Nat) (a : Nat), qn M - a < fu → (a ≤ qn M) → sAt zp l ze (sRm 4 89) zs zm za zb zt zc D G 10 0 0 Q 31 [(0, .ref (G.1 (258))), (1, .int (sI ((((qSeB M) : Nat) : Int)))), (2, .int (sI (qsB (qtlF M) t))), (3, .int (sI (qsF (qtlF M) t))), (4, .int (sI ((t : Int)))), (5, .int (sI (mxc (fun a b => qtlP M t a b) (qn M) a))), (6, .int (sI ((a : Int))))] [] M L := by
            intro fu
            induction fu with
            | zero => intro a hd ha; exact absurd hd (Nat.not_lt_zero _)
            | succ fu ih31 =>
              intro a hd31 ha
              have hm := mxc_r (fun a b => qtlP M t a b) (qn M) a
              have hra := tv hT (k := 263) (j := a) (lo := -2) (hi := 11) rfl
              refine at_iload C 6 dX7_tell_31 rfl ?_
              refine at_aload_n C 0 dX7_tell_33 rfl ?_
              refine at_getf (v := .int (sI (M 258 1))) C (obj_Ref G) (ci := 7) rfl inX7 (slot := 1) (by decide) qw_883 rfl rfl dX7_tell_34 ?_
              have hb5 : _ ≤ M 258 1 ∧ M 258 1 ≤ _ := tv hT (k := 258) (j := 1) rfl
              refine at_ve (b := (((qn M) : Nat) : Int)) (hqn.2) ?_
              refine at_icmp_ge C 145 dX7_tell_37 (by decide) (⟨by omega, by omega⟩) (⟨by omega, by omega⟩) (fun h6 => ?_) (fun h6 => ?_)
              · have hMF : mxc (fun a b => qtlP M t a b) (qn M) a = qtlF M t := by unfold qtlF; rw [show mxc (fun a b => qtlP M t a b) (qn M) a = mxc (fun a b => qtlP M t a b) (qn M) (qn M) by rw [show a = qn M by omega]]
                refine at_iload C 5 dX7_tell_145 rfl ?_
                refine at_ve (b := qtlF M t) (hMF) ?_
                refine at_iload_n C 3 dX7_tell_147 rfl ?_
                refine at_icmp_ge C 156 dX7_tell_148 (by decide) (⟨by omega, by omega⟩) (⟨by omega, by omega⟩) (fun h7 => ?_) (fun h7 => ?_)
                · refine at_iload_n C 2 dX7_tell_156 rfl ?_
                  refine at_istore_n C [(2, .int (sI (qsB (qtlF M) t))), (0, .ref (G.1 (258))), (1, .int (sI ((((qSeB M) : Nat) : Int)))), (3, .int (sI (qsF (qtlF M) t))), (4, .int (sI ((t : Int)))), (5, .int (sI (mxc (fun a b => qtlP M t a b) (qn M) a))), (6, .int (sI ((a : Int))))] dX7_tell_157 (by decide) rfl ?_
                  refine at_iload_n C 3 dX7_tell_158 rfl ?_
                  refine at_iload C 5 dX7_tell_159 rfl ?_
                  refine at_ve (b := qtlF M t) (hMF) ?_
                  refine at_stat_i C (c_X7_lesser l D G (qsF (qtlF M) t) (qtlF M t) ⟨by omega, by omega⟩ ⟨by omega, by omega⟩) (As := [.int (sI (qsF (qtlF M) t)), .int (sI (qtlF M t))]) qw_1132 qw_1130 qw_8 qw_1131 ⟨by decide, by decide, show (parseMethodDescriptor yX7_lesser.desc).map (fun d => d.parameters.length) = some 2 by decide +kernel⟩ ⟨by decide, by decide⟩ ⟨Nat.zero_le _, Nat.zero_le _⟩ (Nat.le_of_ble_eq_true rfl) dX7_tell_161 rfl (fun r M' L' hp8 => ?_)
                  obtain ⟨rfl, rfl, rfl⟩ := hp8
                  refine at_istore_n C [(3, .int (sI (min (qsF (qtlF M) t) (qtlF M t)))), (2, .int (sI (qsB (qtlF M) t))), (0, .ref (G.1 (258))), (1, .int (sI ((((qSeB M) : Nat) : Int)))), (4, .int (sI ((t : Int)))), (5, .int (sI (mxc (fun a b => qtlP M t a b) (qn M) a))), (6, .int (sI ((a : Int))))] dX7_tell_164 (by decide) rfl ?_
                  refine at_iinc C 4 [(4, .int (sI ((t : Int) + 1))), (3, .int (sI (min (qsF (qtlF M) t) (qtlF M t)))), (2, .int (sI (qsB (qtlF M) t))), (0, .ref (G.1 (258))), (1, .int (sI ((((qSeB M) : Nat) : Int)))), (5, .int (sI (mxc (fun a b => qtlP M t a b) (qn M) a))), (6, .int (sI ((a : Int))))] dX7_tell_165 rfl (by decide) rfl ?_
                  refine at_goto C 14 dX7_tell_168 (by decide) ?_
                  refine at_lv [3, 4, 2, 1, 0] rfl ?_
                  exact at_eq (ih14 (t + 1) (by omega) (by omega) (Or.inl (by omega))) (lvc_s (lvc_s (lvc_i (by rw [qsB_n (by omega)]) (lvc_i (rfl) (lvc_i (by omega) rfl))))) rfl (rfl) (rfl)
                · refine at_iload C 4 dX7_tell_151 rfl ?_
                  refine at_goto C 157 dX7_tell_153 (by decide) ?_
                  refine at_istore_n C [(2, .int (sI ((t : Int)))), (0, .ref (G.1 (258))), (1, .int (sI ((((qSeB M) : Nat) : Int)))), (3, .int (sI (qsF (qtlF M) t))), (4, .int (sI ((t : Int)))), (5, .int (sI (mxc (fun a b => qtlP M t a b) (qn M) a))), (6, .int (sI ((a : Int))))] dX7_tell_157 (by decide) rfl ?_
                  refine at_iload_n C 3 dX7_tell_158 rfl ?_
                  refine at_iload C 5 dX7_tell_159 rfl ?_
                  refine at_ve (b := qtlF M t) (hMF) ?_
                  refine at_stat_i C (c_X7_lesser l D G (qsF (qtlF M) t) (qtlF M t) ⟨by omega, by omega⟩ ⟨by omega, by omega⟩) (As := [.int (sI (qsF (qtlF M) t)), .int (sI (qtlF M t))]) qw_1132 qw_1130 qw_8 qw_1131 ⟨by decide, by decide, show (parseMethodDescriptor yX7_lesser.desc).map (fun d => d.parameters.length) = some 2 by decide +kernel⟩ ⟨by decide, by decide⟩ ⟨Nat.zero_le _, Nat.zero_le _⟩ (Nat.le_of_ble_eq_true rfl) dX7_tell_161 rfl (fun r M' L' hp9 => ?_)
                  obtain ⟨rfl, rfl, rfl⟩ := hp9
                  refine at_istore_n C [(3, .int (sI (min (qsF (qtlF M) t) (qtlF M t)))), (2, .int (sI ((t : Int)))), (0, .ref (G.1 (258))), (1, .int (sI ((((qSeB M) : Nat) : Int)))), (4, .int (sI ((t : Int)))), (5, .int (sI (mxc (fun a b => qtlP M t a b) (qn M) a))), (6, .int (sI ((a : Int))))] dX7_tell_164 (by decide) rfl ?_
                  refine at_iinc C 4 [(4, .int (sI ((t : Int) + 1))), (3, .int (sI (min (qsF (qtlF M) t) (qtlF M t)))), (2, .int (sI ((t : Int)))), (0, .ref (G.1 (258))), (1, .int (sI ((((qSeB M) : Nat) : Int)))), (5, .int (sI (mxc (fun a b => qtlP M t a b) (qn M) a))), (6, .int (sI ((a : Int))))] dX7_tell_165 rfl (by decide) rfl ?_
                  refine at_goto C 14 dX7_tell_168 (by decide) ?_
                  refine at_lv [3, 4, 2, 1, 0] rfl ?_
                  exact at_eq (ih14 (t + 1) (by omega) (by omega) (Or.inl (by omega))) (lvc_s (lvc_s (lvc_i (by rw [qsB_y (by omega)]) (lvc_i (rfl) (lvc_i (by omega) rfl))))) rfl (rfl) (rfl)
              · refine at_iconst C dX7_tell_40 ?_
                refine at_istore C [(7, .int (sI (0))), (0, .ref (G.1 (258))), (1, .int (sI ((((qSeB M) : Nat) : Int)))), (2, .int (sI (qsB (qtlF M) t))), (3, .int (sI (qsF (qtlF M) t))), (4, .int (sI ((t : Int)))), (5, .int (sI (mxc (fun a b => qtlP M t a b) (qn M) a))), (6, .int (sI ((a : Int))))] dX7_tell_41 (by decide) rfl ?_
                refine at_iconst C dX7_tell_43 ?_
                refine at_istore C [(8, .int (sI (0))), (7, .int (sI (0))), (0, .ref (G.1 (258))), (1, .int (sI ((((qSeB M) : Nat) : Int)))), (2, .int (sI (qsB (qtlF M) t))), (3, .int (sI (qsF (qtlF M) t))), (4, .int (sI ((t : Int)))), (5, .int (sI (mxc (fun a b => qtlP M t a b) (qn M) a))), (6, .int (sI ((a : Int))))] dX7_tell_44 (by decide) rfl ?_
                have H46 : ∀ (fu : Nat) (b : Nat), qn M - b < fu → (b ≤ qn M) → sAt zp l ze (sRm 4 89) zs zm za zb zt zc D G 10 0 0 Q 46 [(0, .ref (G.1 (258))), (1, .int (sI ((((qSeB M) : Nat) : Int)))), (2, .int (sI (qsB (qtlF M) t))), (3, .int (sI (qsF (qtlF M) t))), (4, .int (sI ((t : Int)))), (5, .int (sI (mxc (fun a b => qtlP M t a b) (qn M) a))), (6, .int (sI ((a : Int)))), (7, .int (sI (cnt (fun b => qtlP M t a b) b))), (8, .int (sI ((b : Int))))] [] M L := by
                  intro fu
                  induction fu with
                  | zero => intro b hd hbn; exact absurd hd (Nat.not_lt_zero _)
                  | succ fu ih46 =>
                    intro b hd46 hbn
                    have hcr := cnt_r (fun b => qtlP M t a b) b
                    have hrb := tv hT (k := 263) (j := b) (lo := -2) (hi := 11) rfl
                    refine at_iload C 8 dX7_tell_46 rfl ?_
                    refine at_aload_n C 0 dX7_tell_48 rfl ?_
                    refine at_getf (v := .int (sI (M 258 1))) C (obj_Ref G) (ci := 7) rfl inX7 (slot := 1) (by decide) qw_883 rfl rfl dX7_tell_49 ?_
                    have hb10 : _ ≤ M 258 1 ∧ M 258 1 ≤ _ := tv hT (k := 258) (j := 1) rfl
                    refine at_ve (b := (((qn M) : Nat) : Int)) (hqn.2) ?_
                    refine at_icmp_ge C 130 dX7_tell_52 (by decide) (⟨by omega, by omega⟩) (⟨by omega, by omega⟩) (fun h11 => ?_) (fun h11 => ?_)
                    · refine at_iload C 5 dX7_tell_130 rfl ?_
                      refine at_iload C 7 dX7_tell_132 rfl ?_
                      have hcr := cnt_r (fun b => qtlP M t a b) (qn M)
                      refine at_ve (b := cnt (fun b => qtlP M t a b) (qn M)) (by rw [show qn M = b by omega]) ?_
                      refine at_stat_i C (c_X7_greater l D G (mxc (fun a b => qtlP M t a b) (qn M) a) (cnt (fun b => qtlP M t a b) (qn M)) ⟨by omega, by omega⟩ ⟨by omega, by omega⟩) (As := [.int (sI (mxc (fun a b => qtlP M t a b) (qn M) a)), .int (sI (cnt (fun b => qtlP M t a b) (qn M)))]) qw_1166 qw_1164 qw_8 qw_1165 ⟨by decide, by decide, show (parseMethodDescriptor yX7_greater.desc).map (fun d => d.parameters.length) = some 2 by decide +kernel⟩ ⟨by decide, by decide⟩ ⟨Nat.zero_le _, Nat.zero_le _⟩ (Nat.le_of_ble_eq_true rfl) dX7_tell_134 rfl (fun r M' L' hp12 => ?_)
                      obtain ⟨rfl, rfl, rfl⟩ := hp12
                      refine at_istore C [(5, .int (sI (max (mxc (fun a b => qtlP M t a b) (qn M) a) (cnt (fun b => qtlP M t a b) (qn M))))), (0, .ref (G.1 (258))), (1, .int (sI ((((qSeB M) : Nat) : Int)))), (2, .int (sI (qsB (qtlF M) t))), (3, .int (sI (qsF (qtlF M) t))), (4, .int (sI ((t : Int)))), (6, .int (sI ((a : Int)))), (7, .int (sI (cnt (fun b => qtlP M t a b) b))), (8, .int (sI ((b : Int))))] dX7_tell_137 (by decide) rfl ?_
                      refine at_iinc C 6 [(6, .int (sI ((a : Int) + 1))), (5, .int (sI (max (mxc (fun a b => qtlP M t a b) (qn M) a) (cnt (fun b => qtlP M t a b) (qn M))))), (0, .ref (G.1 (258))), (1, .int (sI ((((qSeB M) : Nat) : Int)))), (2, .int (sI (qsB (qtlF M) t))), (3, .int (sI (qsF (qtlF M) t))), (4, .int (sI ((t : Int)))), (7, .int (sI (cnt (fun b => qtlP M t a b) b))), (8, .int (sI ((b : Int))))] dX7_tell_139 rfl (by decide) rfl ?_
                      refine at_goto C 31 dX7_tell_142 (by decide) ?_
                      refine at_lv [2, 3, 4, 5, 6, 1, 0] rfl ?_
                      exact at_eq (ih31 (a + 1) (by omega) (by omega)) (lvc_s (lvc_s (lvc_s (lvc_s (lvc_s (lvc_i (rfl) (lvc_i (by omega) rfl))))))) rfl (rfl) (rfl)
                    · refine at_iload_n C 1 dX7_tell_55 rfl ?_
                      refine at_iload C 6 dX7_tell_56 rfl ?_
                      refine at_stat_i C (c_X7_has l D G (qSeB M) a (by omega) (by omega)) (As := [.int (sI ((((qSeB M) : Nat) : Int))), .int (sI ((a : Int)))]) qw_1267 qw_1265 qw_8 qw_1266 ⟨by decide, by decide, show (parseMethodDescriptor yX7_has.desc).map (fun d => d.parameters.length) = some 2 by decide +kernel⟩ ⟨by decide, by decide⟩ ⟨Nat.zero_le _, Nat.zero_le _⟩ (Nat.le_of_ble_eq_true rfl) dX7_tell_58 rfl (fun r M' L' hp13 => ?_)
                      obtain ⟨rfl, rfl, rfl⟩ := hp13
                      refine at_if_eqB C 77 dX7_tell_61 (by decide) (fun h14 => ?_) (fun h14 => ?_)
                      · refine at_iconst C dX7_tell_77 ?_
                        refine at_istore C [(9, .int (sI (0))), (0, .ref (G.1 (258))), (1, .int (sI ((((qSeB M) : Nat) : Int)))), (2, .int (sI (qsB (qtlF M) t))), (3, .int (sI (qsF (qtlF M) t))), (4, .int (sI ((t : Int)))), (5, .int (sI (mxc (fun a b => qtlP M t a b) (qn M) a))), (6, .int (sI ((a : Int)))), (7, .int (sI (cnt (fun b => qtlP M t a b) b))), (8, .int (sI ((b : Int))))] dX7_tell_78 (by decide) rfl ?_
                        refine at_iload C 8 dX7_tell_80 rfl ?_
                        refine at_iload C 0 dX7_tell_82 rfl ?_
                        refine at_if_eq C 120 dX7_tell_84 (by decide) (⟨by omega, by omega⟩) (fun h15 => ?_) (fun h15 => absurd h15 (by omega))
                        refine at_iconst C dX7_tell_120 ?_
                        refine at_iadd C dX7_tell_121 ?_
                        refine at_istore C [(7, .int (sI ((cnt (fun b => qtlP M t a b) b) + 0))), (9, .int (sI (0))), (0, .ref (G.1 (258))), (1, .int (sI ((((qSeB M) : Nat) : Int)))), (2, .int (sI (qsB (qtlF M) t))), (3, .int (sI (qsF (qtlF M) t))), (4, .int (sI ((t : Int)))), (5, .int (sI (mxc (fun a b => qtlP M t a b) (qn M) a))), (6, .int (sI ((a : Int)))), (8, .int (sI ((b : Int))))] dX7_tell_122 (by decide) rfl ?_
                        refine at_iinc C 9 [(8, .int (sI ((b : Int) + 1))), (7, .int (sI ((cnt (fun b => qtlP M t a b) b) + 0))), (9, .int (sI (0))), (0, .ref (G.1 (258))), (1, .int (sI ((((qSeB M) : Nat) : Int)))), (2, .int (sI (qsB (qtlF M) t))), (3, .int (sI (qsF (qtlF M) t))), (4, .int (sI ((t : Int)))), (5, .int (sI (mxc (fun a b => qtlP M t a b) (qn M) a))), (6, .int (sI ((a : Int))))] dX7_tell_124 rfl (by decide) rfl ?_
                        refine at_goto C 46 dX7_tell_127 (by decide) ?_
                        refine at_lv [3, 4, 5, 6, 7, 8, 9, 1, 0] rfl ?_
                        exact at_eq (ih46 (b + 1) (by omega) (by omega)) (lvc_s (lvc_s (lvc_s (lvc_s (lvc_s (lvc_s (lvc_s (lvc_i (by rw [cnt_n (p := (fun b => qtlP M t a b)) (fun z => by first | exact absurd z.1 (by assumption) | exact absurd z.2.1 (by assumption) | exact absurd z.2.2 (by assumption)), Int.add_zero]) (lvc_i (by omega) rfl))))))))) rfl (rfl) (rfl)
                      · refine at_iload_n C 1 dX7_tell_64 rfl ?_
                        refine at_iload C 8 dX7_tell_65 rfl ?_
                        refine at_stat_i C (c_X7_has l D G (qSeB M) b (by omega) (by omega)) (As := [.int (sI ((((qSeB M) : Nat) : Int))), .int (sI ((b : Int)))]) qw_1267 qw_1265 qw_8 qw_1266 ⟨by decide, by decide, show (parseMethodDescriptor yX7_has.desc).map (fun d => d.parameters.length) = some 2 by decide +kernel⟩ ⟨by decide, by decide⟩ ⟨Nat.zero_le _, Nat.zero_le _⟩ (Nat.le_of_ble_eq_true rfl) dX7_tell_67 rfl (fun r M' L' hp16 => ?_)
                        obtain ⟨rfl, rfl, rfl⟩ := hp16
                        refine at_if_eqB C 77 dX7_tell_70 (by decide) (fun h17 => ?_) (fun h17 => ?_)
                        · refine at_iconst C dX7_tell_77 ?_
                          refine at_istore C [(9, .int (sI (0))), (0, .ref (G.1 (258))), (1, .int (sI ((((qSeB M) : Nat) : Int)))), (2, .int (sI (qsB (qtlF M) t))), (3, .int (sI (qsF (qtlF M) t))), (4, .int (sI ((t : Int)))), (5, .int (sI (mxc (fun a b => qtlP M t a b) (qn M) a))), (6, .int (sI ((a : Int)))), (7, .int (sI (cnt (fun b => qtlP M t a b) b))), (8, .int (sI ((b : Int))))] dX7_tell_78 (by decide) rfl ?_
                          refine at_iload C 8 dX7_tell_80 rfl ?_
                          refine at_iload C 0 dX7_tell_82 rfl ?_
                          refine at_if_eq C 120 dX7_tell_84 (by decide) (⟨by omega, by omega⟩) (fun h18 => ?_) (fun h18 => absurd h18 (by omega))
                          refine at_iconst C dX7_tell_120 ?_
                          refine at_iadd C dX7_tell_121 ?_
                          refine at_istore C [(7, .int (sI ((cnt (fun b => qtlP M t a b) b) + 0))), (9, .int (sI (0))), (0, .ref (G.1 (258))), (1, .int (sI ((((qSeB M) : Nat) : Int)))), (2, .int (sI (qsB (qtlF M) t))), (3, .int (sI (qsF (qtlF M) t))), (4, .int (sI ((t : Int)))), (5, .int (sI (mxc (fun a b => qtlP M t a b) (qn M) a))), (6, .int (sI ((a : Int)))), (8, .int (sI ((b : Int))))] dX7_tell_122 (by decide) rfl ?_
                          refine at_iinc C 9 [(8, .int (sI ((b : Int) + 1))), (7, .int (sI ((cnt (fun b => qtlP M t a b) b) + 0))), (9, .int (sI (0))), (0, .ref (G.1 (258))), (1, .int (sI ((((qSeB M) : Nat) : Int)))), (2, .int (sI (qsB (qtlF M) t))), (3, .int (sI (qsF (qtlF M) t))), (4, .int (sI ((t : Int)))), (5, .int (sI (mxc (fun a b => qtlP M t a b) (qn M) a))), (6, .int (sI ((a : Int))))] dX7_tell_124 rfl (by decide) rfl ?_
                          refine at_goto C 46 dX7_tell_127 (by decide) ?_
                          refine at_lv [3, 4, 5, 6, 7, 8, 9, 1, 0] rfl ?_
                          exact at_eq (ih46 (b + 1) (by omega) (by omega)) (lvc_s (lvc_s (lvc_s (lvc_s (lvc_s (lvc_s (lvc_s (lvc_i (by rw [cnt_n (p := (fun b => qtlP M t a b)) (fun z => by first | exact absurd z.1 (by assumption) | exact absurd z.2.1 (by assumption) | exact absurd z.2.2 (by assumption)), Int.add_zero]) (lvc_i (by omega) rfl))))))))) rfl (rfl) (rfl)
                        · refine at_iconst C dX7_tell_73 ?_
                          refine at_goto C 78 dX7_tell_74 (by decide) ?_
                          refine at_istore C [(9, .int (sI (1))), (0, .ref (G.1 (258))), (1, .int (sI ((((qSeB M) : Nat) : Int)))), (2, .int (sI (qsB (qtlF M) t))), (3, .int (sI (qsF (qtlF M) t))), (4, .int (sI ((t : Int)))), (5, .int (sI (mxc (fun a b => qtlP M t a b) (qn M) a))), (6, .int (sI ((a : Int)))), (7, .int (sI (cnt (fun b => qtlP M t a b) b))), (8, .int (sI ((b : Int))))] dX7_tell_78 (by decide) rfl ?_
                          refine at_iload C 8 dX7_tell_80 rfl ?_
                          refine at_iload C 0 dX7_tell_82 rfl ?_
                          refine at_if_eq C 120 dX7_tell_84 (by decide) (⟨by omega, by omega⟩) (fun h19 => absurd h19 (by omega)) (fun h19 => ?_)
                          have hta := qse_t (s := a) (by assumption)
                          have htb := qse_t (s := b) (by assumption)
                          refine at_aload_n C 1 dX7_tell_87 rfl ?_
                          refine at_aload_n C 1 dX7_tell_88 rfl ?_
                          refine at_getf (v := .ref (G.1 (263))) C (obj_Ref G) (ci := 7) rfl inX7 (slot := 11) (by decide) qw_893 rfl rfl dX7_tell_89 ?_
                          refine at_iload C 7 dX7_tell_92 rfl ?_
                          refine at_iald C a (ar_263 G) (rfl) (by omega) dX7_tell_94 ?_
                          have hb20 : _ ≤ M 263 a ∧ M 263 a ≤ _ := tv hT (k := 263) (j := a) rfl
                          refine at_iload C 5 dX7_tell_95 rfl ?_
                          refine at_call_i C (c_X7_driftBehind l D G (M 263 a) ⟨by omega, by omega⟩ t (by omega) hT) (As := [.int (sI (M 263 a)), .int (sI ((t : Int)))]) (obj_Ref G) (ci := 7) rfl qw_1256 qw_1253 qw_8 qw_1255 qp_75 ⟨by decide, by decide, show (parseMethodDescriptor yX7_driftBehind.desc).map (fun d => d.parameters.length) = some 2 by decide +kernel⟩ ⟨by decide, by decide⟩ ⟨Nat.zero_le _, Nat.zero_le _⟩ (Nat.le_of_ble_eq_true rfl) dX7_tell_97 rfl (fun r M' L' hp22 => ?_)
                          obtain ⟨rfl, rfl, rfl⟩ := hp22
                          have hb21 := driN_r (M 260) (c := M 263 a) ⟨by omega, by omega⟩ t
                          refine at_aload_n C 1 dX7_tell_100 rfl ?_
                          refine at_aload_n C 1 dX7_tell_101 rfl ?_
                          refine at_getf (v := .ref (G.1 (263))) C (obj_Ref G) (ci := 7) rfl inX7 (slot := 11) (by decide) qw_893 rfl rfl dX7_tell_102 ?_
                          refine at_iload C 9 dX7_tell_105 rfl ?_
                          refine at_iald C b (ar_263 G) (rfl) (by omega) dX7_tell_107 ?_
                          have hb23 : _ ≤ M 263 b ∧ M 263 b ≤ _ := tv hT (k := 263) (j := b) rfl
                          refine at_iload C 5 dX7_tell_108 rfl ?_
                          refine at_call_i C (c_X7_driftBehind l D G (M 263 b) ⟨by omega, by omega⟩ t (by omega) hT) (As := [.int (sI (M 263 b)), .int (sI ((t : Int)))]) (obj_Ref G) (ci := 7) rfl qw_1256 qw_1253 qw_8 qw_1255 qp_75 ⟨by decide, by decide, show (parseMethodDescriptor yX7_driftBehind.desc).map (fun d => d.parameters.length) = some 2 by decide +kernel⟩ ⟨by decide, by decide⟩ ⟨Nat.zero_le _, Nat.zero_le _⟩ (Nat.le_of_ble_eq_true rfl) dX7_tell_110 rfl (fun r M' L' hp25 => ?_)
                          obtain ⟨rfl, rfl, rfl⟩ := hp25
                          have hb24 := driN_r (M 260) (c := M 263 b) ⟨by omega, by omega⟩ t
                          refine at_icmp_ne C 120 dX7_tell_113 (by decide) (⟨by omega, by omega⟩) (⟨by omega, by omega⟩) (fun h26 => ?_) (fun h26 => ?_)
                          · refine at_iconst C dX7_tell_120 ?_
                            refine at_iadd C dX7_tell_121 ?_
                            refine at_istore C [(7, .int (sI ((cnt (fun b => qtlP M t a b) b) + 0))), (9, .int (sI (1))), (0, .ref (G.1 (258))), (1, .int (sI ((((qSeB M) : Nat) : Int)))), (2, .int (sI (qsB (qtlF M) t))), (3, .int (sI (qsF (qtlF M) t))), (4, .int (sI ((t : Int)))), (5, .int (sI (mxc (fun a b => qtlP M t a b) (qn M) a))), (6, .int (sI ((a : Int)))), (8, .int (sI ((b : Int))))] dX7_tell_122 (by decide) rfl ?_
                            refine at_iinc C 9 [(8, .int (sI ((b : Int) + 1))), (7, .int (sI ((cnt (fun b => qtlP M t a b) b) + 0))), (9, .int (sI (1))), (0, .ref (G.1 (258))), (1, .int (sI ((((qSeB M) : Nat) : Int)))), (2, .int (sI (qsB (qtlF M) t))), (3, .int (sI (qsF (qtlF M) t))), (4, .int (sI ((t : Int)))), (5, .int (sI (mxc (fun a b => qtlP M t a b) (qn M) a))), (6, .int (sI ((a : Int))))] dX7_tell_124 rfl (by decide) rfl ?_
                            refine at_goto C 46 dX7_tell_127 (by decide) ?_
                            refine at_lv [3, 4, 5, 6, 7, 8, 9, 1, 0] rfl ?_
                            exact at_eq (ih46 (b + 1) (by omega) (by omega)) (lvc_s (lvc_s (lvc_s (lvc_s (lvc_s (lvc_s (lvc_s (lvc_i (by rw [cnt_n (p := (fun b => qtlP M t a b)) (fun z => by first | exact absurd z.1 (by assumption) | exact absurd z.2.1 (by assumption) | exact absurd z.2.2 (by assumption)), Int.add_zero]) (lvc_i (by omega) rfl))))))))) rfl (rfl) (rfl)
                          · refine at_iconst C dX7_tell_116 ?_
                            refine at_goto C 121 dX7_tell_117 (by decide) ?_
                            refine at_iadd C dX7_tell_121 ?_
                            refine at_istore C [(7, .int (sI ((cnt (fun b => qtlP M t a b) b) + 1))), (9, .int (sI (1))), (0, .ref (G.1 (258))), (1, .int (sI ((((qSeB M) : Nat) : Int)))), (2, .int (sI (qsB (qtlF M) t))), (3, .int (sI (qsF (qtlF M) t))), (4, .int (sI ((t : Int)))), (5, .int (sI (mxc (fun a b => qtlP M t a b) (qn M) a))), (6, .int (sI ((a : Int)))), (8, .int (sI ((b : Int))))] dX7_tell_122 (by decide) rfl ?_
                            refine at_iinc C 9 [(8, .int (sI ((b : Int) + 1))), (7, .int (sI ((cnt (fun b => qtlP M t a b) b) + 1))), (9, .int (sI (1))), (0, .ref (G.1 (258))), (1, .int (sI ((((qSeB M) : Nat) : Int)))), (2, .int (sI (qsB (qtlF M) t))), (3, .int (sI (qsF (qtlF M) t))), (4, .int (sI ((t : Int)))), (5, .int (sI (mxc (fun a b => qtlP M t a b) (qn M) a))), (6, .int (sI ((a : Int))))] dX7_tell_124 rfl (by decide) rfl ?_
                            refine at_goto C 46 dX7_tell_127 (by decide) ?_
                            refine at_lv [3, 4, 5, 6, 7, 8, 9, 1, 0] rfl ?_
                            exact at_eq (ih46 (b + 1) (by omega) (by omega)) (lvc_s (lvc_s (lvc_s (lvc_s (lvc_s (lvc_s (lvc_s (lvc_i (by rw [cnt_y (p := (fun b => qtlP M t a b)) ⟨by assumption, by assumption, by assumption⟩]) (lvc_i (by omega) rfl))))))))) rfl (rfl) (rfl)
                refine at_lv [2, 3, 4, 5, 6, 7, 8, 1, 0] rfl ?_
                exact at_eq (H46 _ 0 (Nat.lt_succ_self _) (by omega)) (lvc_s (lvc_s (lvc_s (lvc_s (lvc_s (lvc_s (lvc_s (lvc_i (rfl) (lvc_i (rfl) rfl))))))))) rfl (rfl) (rfl)
          refine at_lv [2, 3, 4, 5, 6, 1, 0] rfl ?_
          exact at_eq (H31 _ 0 (Nat.lt_succ_self _) (by omega)) (lvc_s (lvc_s (lvc_s (lvc_s (lvc_s (lvc_i (rfl) (lvc_i (rfl) rfl))))))) rfl (rfl) (rfl)
  refine at_lv [4, 3, 2, 1, 0] rfl ?_
  exact at_eq (H14 _ 0 (Nat.lt_succ_self _) (by omega) (Or.inr rfl)) (lvc_s (lvc_s (lvc_i (rfl) (lvc_i (rfl) (lvc_i (rfl) rfl))))) rfl (rfl) (rfl)

set_option maxHeartbeats 4000000 in
set_option maxRecDepth 100000 in
theorem c_X7_soulKinds (l : Launch) (D : va_G) (G : sG) {M : sM} {L : sL} (s : Nat) (hs : s < 6) (hT : TInv M) : sKi l D G yX7_soulKinds cX7_soulKinds 7 .int 2 44 [.ref (G.1 (258)), .int (sI ((s : Int)))] M L (fun r M' L' => r = sI (((qkdB M s : Nat) : Int)) ∧ M = M' ∧ L = L') := by
  refine sKi_go (by decide) (Nat.le_of_ble_eq_true rfl) ?_
  intro zp ze zs zm za zb zt zc Q C hret
  refine at_eq (lv' := [(0, .ref (G.1 (258))), (1, .int (sI ((s : Int))))]) (st' := []) (M' := M) (L' := L) ?_ rfl rfl rfl rfl
  have hqn := qn_r hT
  have hqc := qc_r hT
  have hqu := qu_r hT
  have hqt := qt_r hT
  have hqs := qs_r hT
  have hqo := qo_r hT
  have hqm := qm_r hT
  refine at_iconst C dX7_soulKinds_0 ?_
  refine at_istore_n C [(2, .int (sI (0))), (0, .ref (G.1 (258))), (1, .int (sI ((s : Int))))] dX7_soulKinds_1 (by decide) rfl ?_
  refine at_iconst C dX7_soulKinds_2 ?_
  refine at_istore_n C [(3, .int (sI (0))), (2, .int (sI (0))), (0, .ref (G.1 (258))), (1, .int (sI ((s : Int))))] dX7_soulKinds_3 (by decide) rfl ?_
  have H4 : ∀ (fu : Nat) (k : Nat), 6 - k < fu → (k ≤ 6) → sAt zp l ze (sRm 2 44) zs zm za zb zt zc D G 7 0 0 Q 4 [(0, .ref (G.1 (258))), (1, .int (sI ((s : Int)))), (2, .int (sI ((((bits (fun k => qkdP M s (qo M) k) k) : Nat) : Int)))), (3, .int (sI ((k : Int))))] [] M L := by
    intro fu
    induction fu with
    | zero => intro k hd hk; exact absurd hd (Nat.not_lt_zero _)
    | succ fu ih4 =>
      intro k hd4 hk
      have hbl : bits (fun k => qkdP M s (qo M) k) k < 64 := bits_lt6 _ hk
      refine at_iload_n C 3 dX7_soulKinds_4 rfl ?_
      refine at_iconst C dX7_soulKinds_5 ?_
      refine at_icmp_gt C 122 dX7_soulKinds_6 (by decide) (⟨by omega, by omega⟩) (⟨by omega, by omega⟩) (fun h1 => ?_) (fun h1 => ?_)
      · refine at_iload_n C 2 dX7_soulKinds_122 rfl ?_
        exact hret _ _ _ _ _ dX7_soulKinds_123 (⟨congrArg sI (by unfold qkdB; rw [show k = 6 by omega]), rfl, rfl⟩)
      · refine at_iconst C dX7_soulKinds_9 ?_
        refine at_vi (y := (sB (qkdP M s 0 k))) (sB_t (qkd_0 M s k)) ?_
        refine at_istore C [(4, .int (sB (qkdP M s 0 k))), (0, .ref (G.1 (258))), (1, .int (sI ((s : Int)))), (2, .int (sI ((((bits (fun k => qkdP M s (qo M) k) k) : Nat) : Int)))), (3, .int (sI ((k : Int))))] dX7_soulKinds_10 (by decide) rfl ?_
        refine at_iconst C dX7_soulKinds_12 ?_
        refine at_istore C [(5, .int (sI (0))), (4, .int (sB (qkdP M s 0 k))), (0, .ref (G.1 (258))), (1, .int (sI ((s : Int)))), (2, .int (sI ((((bits (fun k => qkdP M s (qo M) k) k) : Nat) : Int)))), (3, .int (sI ((k : Int))))] dX7_soulKinds_13 (by decide) rfl ?_
        have H15 : ∀ (fu : Nat) (r : Nat), qo M - r < fu → (r ≤ qo M) → sAt zp l ze (sRm 2 44) zs zm za zb zt zc D G 7 0 0 Q 15 [(0, .ref (G.1 (258))), (1, .int (sI ((s : Int)))), (2, .int (sI ((((bits (fun k => qkdP M s (qo M) k) k) : Nat) : Int)))), (3, .int (sI ((k : Int)))), (4, .int (sB (qkdP M s r k))), (5, .int (sI ((((4 * r) : Nat) : Int))))] [] M L := by
          intro fu
          induction fu with
          | zero => intro r hd hr; exact absurd hd (Nat.not_lt_zero _)
          | succ fu ih15 =>
            intro r hd15 hr
            have hn4r := tv hT (k := 268) (j := 4 * r) (lo := 0) (hi := 99) rfl
            have hn4r1 := tv hT (k := 268) (j := 4 * r + 1) (lo := 0) (hi := 99) rfl
            have hn4r2 := tv hT (k := 268) (j := 4 * r + 2) (lo := 0) (hi := 99) rfl
            have hn4r3 := tv hT (k := 268) (j := 4 * r + 3) (lo := 0) (hi := 99) rfl
            refine at_iload C 5 dX7_soulKinds_15 rfl ?_
            refine at_iconst C dX7_soulKinds_17 ?_
            refine at_aload_n C 0 dX7_soulKinds_18 rfl ?_
            refine at_getf (v := .int (sI (M 258 6))) C (obj_Ref G) (ci := 7) rfl inX7 (slot := 6) (by decide) qw_888 rfl rfl dX7_soulKinds_19 ?_
            have hb2 : _ ≤ M 258 6 ∧ M 258 6 ≤ _ := tv hT (k := 258) (j := 6) rfl
            refine at_ve (b := (((qo M) : Nat) : Int)) (hqo.2) ?_
            refine at_imul C dX7_soulKinds_22 ?_
            refine at_icmp_ge C 101 dX7_soulKinds_23 (by decide) (⟨by omega, by omega⟩) (⟨by omega, by omega⟩) (fun h3 => ?_) (fun h3 => ?_)
            · have hfin : qkdP M s r k ↔ qkdP M s (qo M) k := by rw [show r = qo M by omega]
              refine at_iload_n C 2 dX7_soulKinds_101 rfl ?_
              refine at_iload C 4 dX7_soulKinds_102 rfl ?_
              refine at_if_eqB C 113 dX7_soulKinds_104 (by decide) (fun h4 => ?_) (fun h4 => ?_)
              · have hno : ¬ qkdP M s (qo M) k := fun z => absurd (hfin.mpr z) (by assumption)
                refine at_iconst C dX7_soulKinds_113 ?_
                refine at_ior C ((((bits (fun k => qkdP M s (qo M) k) k) : Nat) : Int)) dX7_soulKinds_114 (zb_or0 _) ?_
                refine at_istore_n C [(2, .int (sI ((((bits (fun k => qkdP M s (qo M) k) k) : Nat) : Int)))), (0, .ref (G.1 (258))), (1, .int (sI ((s : Int)))), (3, .int (sI ((k : Int)))), (4, .int (sB (qkdP M s r k))), (5, .int (sI ((((4 * r) : Nat) : Int))))] dX7_soulKinds_115 (by decide) rfl ?_
                refine at_iinc C 3 [(3, .int (sI ((k : Int) + 1))), (2, .int (sI ((((bits (fun k => qkdP M s (qo M) k) k) : Nat) : Int)))), (0, .ref (G.1 (258))), (1, .int (sI ((s : Int)))), (4, .int (sB (qkdP M s r k))), (5, .int (sI ((((4 * r) : Nat) : Int))))] dX7_soulKinds_116 rfl (by decide) rfl ?_
                refine at_goto C 4 dX7_soulKinds_119 (by decide) ?_
                refine at_lv [2, 3, 1, 0] rfl ?_
                exact at_eq (ih4 (k + 1) (by omega) (by omega)) (lvc_s (lvc_s (lvc_i (by rw [bits_n (p := fun k => qkdP M s (qo M) k) hno]) (lvc_i (by omega) rfl)))) rfl (rfl) (rfl)
              · have hyes : qkdP M s (qo M) k := hfin.mp (by assumption)
                refine at_iconst C dX7_soulKinds_107 ?_
                refine at_iload_n C 3 dX7_soulKinds_108 rfl ?_
                refine at_ishl C ((((2 ^ k) : Nat) : Int)) dX7_soulKinds_109 (zb_shl (by omega)) ?_
                refine at_goto C 114 dX7_soulKinds_110 (by decide) ?_
                refine at_ior C ((((bits (fun k => qkdP M s (qo M) k) k ||| 2 ^ k) : Nat) : Int)) dX7_soulKinds_114 (zb_or _ _) ?_
                refine at_istore_n C [(2, .int (sI ((((bits (fun k => qkdP M s (qo M) k) k ||| 2 ^ k) : Nat) : Int)))), (0, .ref (G.1 (258))), (1, .int (sI ((s : Int)))), (3, .int (sI ((k : Int)))), (4, .int (sB (qkdP M s r k))), (5, .int (sI ((((4 * r) : Nat) : Int))))] dX7_soulKinds_115 (by decide) rfl ?_
                refine at_iinc C 3 [(3, .int (sI ((k : Int) + 1))), (2, .int (sI ((((bits (fun k => qkdP M s (qo M) k) k ||| 2 ^ k) : Nat) : Int)))), (0, .ref (G.1 (258))), (1, .int (sI ((s : Int)))), (4, .int (sB (qkdP M s r k))), (5, .int (sI ((((4 * r) : Nat) : Int))))] dX7_soulKinds_116 rfl (by decide) rfl ?_
                refine at_goto C 4 dX7_soulKinds_119 (by decide) ?_
                refine at_lv [2, 3, 1, 0] rfl ?_
                exact at_eq (ih4 (k + 1) (by omega) (by omega)) (lvc_s (lvc_s (lvc_i (by rw [bits_y (p := fun k => qkdP M s (qo M) k) hyes]) (lvc_i (by omega) rfl)))) rfl (rfl) (rfl)
            · refine at_iload_n C 3 dX7_soulKinds_26 rfl ?_
              refine at_aload_n C 0 dX7_soulKinds_27 rfl ?_
              refine at_getf (v := .ref (G.1 (268))) C (obj_Ref G) (ci := 7) rfl inX7 (slot := 16) (by decide) qw_898 rfl rfl dX7_soulKinds_28 ?_
              refine at_iload C 5 dX7_soulKinds_31 rfl ?_
              refine at_iconst C dX7_soulKinds_33 ?_
              refine at_iadd C dX7_soulKinds_34 ?_
              refine at_iald C ((4 * r) + 1) (ar_268 G) (by omega) (by omega) dX7_soulKinds_35 ?_
              have hb5 : _ ≤ M 268 ((4 * r) + 1) ∧ M 268 ((4 * r) + 1) ≤ _ := tv hT (k := 268) (j := ((4 * r) + 1)) rfl
              refine at_aload_n C 0 dX7_soulKinds_36 rfl ?_
              refine at_getf (v := .ref (G.1 (268))) C (obj_Ref G) (ci := 7) rfl inX7 (slot := 16) (by decide) qw_898 rfl rfl dX7_soulKinds_37 ?_
              refine at_iload C 5 dX7_soulKinds_40 rfl ?_
              refine at_iconst C dX7_soulKinds_42 ?_
              refine at_iadd C dX7_soulKinds_43 ?_
              refine at_iald C ((4 * r) + 2) (ar_268 G) (by omega) (by omega) dX7_soulKinds_44 ?_
              have hb6 : _ ≤ M 268 ((4 * r) + 2) ∧ M 268 ((4 * r) + 2) ≤ _ := tv hT (k := 268) (j := ((4 * r) + 2)) rfl
              refine at_stat_i C (c_X7_weighsBy l D G (k : Int) (M 268 ((4 * r) + 1)) (M 268 ((4 * r) + 2)) ⟨by omega, by omega⟩ ⟨by omega, by omega⟩ ⟨by omega, by omega⟩) (As := [.int (sI ((k : Int))), .int (sI (M 268 ((4 * r) + 1))), .int (sI (M 268 ((4 * r) + 2)))]) qw_1163 qw_1161 qw_8 qw_1162 ⟨by decide, by decide, show (parseMethodDescriptor yX7_weighsBy.desc).map (fun d => d.parameters.length) = some 3 by decide +kernel⟩ ⟨by decide, by decide⟩ ⟨Nat.zero_le _, Nat.zero_le _⟩ (Nat.le_of_ble_eq_true rfl) dX7_soulKinds_45 rfl (fun r M' L' hp8 => ?_)
              obtain ⟨rfl, rfl, rfl⟩ := hp8
              have hb7 := wgh_b (k := (k : Int)) (w := M 268 ((4 * r) + 1)) (d := M 268 ((4 * r) + 2)) (by omega) (by omega)
              refine at_aload_n C 0 dX7_soulKinds_48 rfl ?_
              refine at_getf (v := .ref (G.1 (268))) C (obj_Ref G) (ci := 7) rfl inX7 (slot := 16) (by decide) qw_898 rfl rfl dX7_soulKinds_49 ?_
              refine at_iload C 5 dX7_soulKinds_52 rfl ?_
              refine at_iconst C dX7_soulKinds_54 ?_
              refine at_iadd C dX7_soulKinds_55 ?_
              refine at_iald C ((4 * r) + 3) (ar_268 G) (by omega) (by omega) dX7_soulKinds_56 ?_
              have hb9 : _ ≤ M 268 ((4 * r) + 3) ∧ M 268 ((4 * r) + 3) ≤ _ := tv hT (k := 268) (j := ((4 * r) + 3)) rfl
              refine at_icmp_ne C 64 dX7_soulKinds_57 (by decide) (⟨by omega, by omega⟩) (⟨by omega, by omega⟩) (fun h10 => ?_) (fun h10 => ?_)
              · refine at_iconst C dX7_soulKinds_64 ?_
                refine at_istore C [(6, .int (sI (0))), (0, .ref (G.1 (258))), (1, .int (sI ((s : Int)))), (2, .int (sI ((((bits (fun k => qkdP M s (qo M) k) k) : Nat) : Int)))), (3, .int (sI ((k : Int)))), (4, .int (sB (qkdP M s r k))), (5, .int (sI ((((4 * r) : Nat) : Int))))] dX7_soulKinds_65 (by decide) rfl ?_
                refine at_iload C 5 dX7_soulKinds_67 rfl ?_
                refine at_if_eqB C 92 dX7_soulKinds_69 (by decide) (fun h11 => ?_) (fun h11 => ?_)
                · refine at_iconst C dX7_soulKinds_92 ?_
                  refine at_vi (y := (sB (qkdP M s (r + 1) k))) (sB_f (by first | exact qkd_c (by assumption) | exact qkd_d (by assumption) (by assumption))) ?_
                  refine at_istore C [(4, .int (sB (qkdP M s (r + 1) k))), (6, .int (sI (0))), (0, .ref (G.1 (258))), (1, .int (sI ((s : Int)))), (2, .int (sI ((((bits (fun k => qkdP M s (qo M) k) k) : Nat) : Int)))), (3, .int (sI ((k : Int)))), (5, .int (sI ((((4 * r) : Nat) : Int))))] dX7_soulKinds_93 (by decide) rfl ?_
                  refine at_iinc C 6 [(5, .int (sI ((((4 * r) : Nat) : Int) + 4))), (4, .int (sB (qkdP M s (r + 1) k))), (6, .int (sI (0))), (0, .ref (G.1 (258))), (1, .int (sI ((s : Int)))), (2, .int (sI ((((bits (fun k => qkdP M s (qo M) k) k) : Nat) : Int)))), (3, .int (sI ((k : Int))))] dX7_soulKinds_95 rfl (by decide) rfl ?_
                  refine at_goto C 15 dX7_soulKinds_98 (by decide) ?_
                  refine at_lv [3, 4, 5, 6, 1, 0] rfl ?_
                  exact at_eq (ih15 (r + 1) (by omega) (by omega)) (lvc_s (lvc_s (lvc_s (lvc_s (lvc_s (lvc_i (by omega) rfl)))))) rfl (rfl) (rfl)
                · refine at_aload_n C 1 dX7_soulKinds_72 rfl ?_
                  refine at_getf (v := .ref (G.1 (268))) C (obj_Ref G) (ci := 7) rfl inX7 (slot := 16) (by decide) qw_898 rfl rfl dX7_soulKinds_73 ?_
                  refine at_iload C 6 dX7_soulKinds_76 rfl ?_
                  refine at_iald C (4 * r) (ar_268 G) (by omega) (by omega) dX7_soulKinds_78 ?_
                  have hb12 : _ ≤ M 268 (4 * r) ∧ M 268 (4 * r) ≤ _ := tv hT (k := 268) (j := (4 * r)) rfl
                  refine at_iload_n C 2 dX7_soulKinds_79 rfl ?_
                  refine at_icmp_ne C 88 dX7_soulKinds_80 (by decide) (⟨by omega, by omega⟩) (⟨by omega, by omega⟩) (fun h13 => ?_) (fun h13 => ?_)
                  · refine at_iconst C dX7_soulKinds_88 ?_
                    refine at_goto C 93 dX7_soulKinds_89 (by decide) ?_
                    refine at_vi (y := (sB (qkdP M s (r + 1) k))) (sB_t (by first | exact qkd_a (by assumption) (by assumption) | exact qkd_b (by assumption) (by assumption))) ?_
                    refine at_istore C [(4, .int (sB (qkdP M s (r + 1) k))), (6, .int (sI (0))), (0, .ref (G.1 (258))), (1, .int (sI ((s : Int)))), (2, .int (sI ((((bits (fun k => qkdP M s (qo M) k) k) : Nat) : Int)))), (3, .int (sI ((k : Int)))), (5, .int (sI ((((4 * r) : Nat) : Int))))] dX7_soulKinds_93 (by decide) rfl ?_
                    refine at_iinc C 6 [(5, .int (sI ((((4 * r) : Nat) : Int) + 4))), (4, .int (sB (qkdP M s (r + 1) k))), (6, .int (sI (0))), (0, .ref (G.1 (258))), (1, .int (sI ((s : Int)))), (2, .int (sI ((((bits (fun k => qkdP M s (qo M) k) k) : Nat) : Int)))), (3, .int (sI ((k : Int))))] dX7_soulKinds_95 rfl (by decide) rfl ?_
                    refine at_goto C 15 dX7_soulKinds_98 (by decide) ?_
                    refine at_lv [3, 4, 5, 6, 1, 0] rfl ?_
                    exact at_eq (ih15 (r + 1) (by omega) (by omega)) (lvc_s (lvc_s (lvc_s (lvc_s (lvc_s (lvc_i (by omega) rfl)))))) rfl (rfl) (rfl)
                  · refine at_iload C 0 dX7_soulKinds_83 rfl ?_
                    refine at_if_eq C 92 dX7_soulKinds_85 (by decide) (⟨by omega, by omega⟩) (fun h14 => ?_) (fun h14 => absurd h14 (by omega))
                    refine at_iconst C dX7_soulKinds_92 ?_
                    refine at_vi (y := (sB (qkdP M s (r + 1) k))) (sB_f (by first | exact qkd_c (by assumption) | exact qkd_d (by assumption) (by assumption))) ?_
                    refine at_istore C [(4, .int (sB (qkdP M s (r + 1) k))), (6, .int (sI (0))), (0, .ref (G.1 (258))), (1, .int (sI ((s : Int)))), (2, .int (sI ((((bits (fun k => qkdP M s (qo M) k) k) : Nat) : Int)))), (3, .int (sI ((k : Int)))), (5, .int (sI ((((4 * r) : Nat) : Int))))] dX7_soulKinds_93 (by decide) rfl ?_
                    refine at_iinc C 6 [(5, .int (sI ((((4 * r) : Nat) : Int) + 4))), (4, .int (sB (qkdP M s (r + 1) k))), (6, .int (sI (0))), (0, .ref (G.1 (258))), (1, .int (sI ((s : Int)))), (2, .int (sI ((((bits (fun k => qkdP M s (qo M) k) k) : Nat) : Int)))), (3, .int (sI ((k : Int))))] dX7_soulKinds_95 rfl (by decide) rfl ?_
                    refine at_goto C 15 dX7_soulKinds_98 (by decide) ?_
                    refine at_lv [3, 4, 5, 6, 1, 0] rfl ?_
                    exact at_eq (ih15 (r + 1) (by omega) (by omega)) (lvc_s (lvc_s (lvc_s (lvc_s (lvc_s (lvc_i (by omega) rfl)))))) rfl (rfl) (rfl)
              · refine at_iconst C dX7_soulKinds_60 ?_
                refine at_goto C 65 dX7_soulKinds_61 (by decide) ?_
                refine at_istore C [(6, .int (sI (1))), (0, .ref (G.1 (258))), (1, .int (sI ((s : Int)))), (2, .int (sI ((((bits (fun k => qkdP M s (qo M) k) k) : Nat) : Int)))), (3, .int (sI ((k : Int)))), (4, .int (sB (qkdP M s r k))), (5, .int (sI ((((4 * r) : Nat) : Int))))] dX7_soulKinds_65 (by decide) rfl ?_
                refine at_iload C 5 dX7_soulKinds_67 rfl ?_
                refine at_if_eqB C 92 dX7_soulKinds_69 (by decide) (fun h15 => ?_) (fun h15 => ?_)
                · refine at_iconst C dX7_soulKinds_92 ?_
                  refine at_vi (y := (sB (qkdP M s (r + 1) k))) (sB_f (by first | exact qkd_c (by assumption) | exact qkd_d (by assumption) (by assumption))) ?_
                  refine at_istore C [(4, .int (sB (qkdP M s (r + 1) k))), (6, .int (sI (1))), (0, .ref (G.1 (258))), (1, .int (sI ((s : Int)))), (2, .int (sI ((((bits (fun k => qkdP M s (qo M) k) k) : Nat) : Int)))), (3, .int (sI ((k : Int)))), (5, .int (sI ((((4 * r) : Nat) : Int))))] dX7_soulKinds_93 (by decide) rfl ?_
                  refine at_iinc C 6 [(5, .int (sI ((((4 * r) : Nat) : Int) + 4))), (4, .int (sB (qkdP M s (r + 1) k))), (6, .int (sI (1))), (0, .ref (G.1 (258))), (1, .int (sI ((s : Int)))), (2, .int (sI ((((bits (fun k => qkdP M s (qo M) k) k) : Nat) : Int)))), (3, .int (sI ((k : Int))))] dX7_soulKinds_95 rfl (by decide) rfl ?_
                  refine at_goto C 15 dX7_soulKinds_98 (by decide) ?_
                  refine at_lv [3, 4, 5, 6, 1, 0] rfl ?_
                  exact at_eq (ih15 (r + 1) (by omega) (by omega)) (lvc_s (lvc_s (lvc_s (lvc_s (lvc_s (lvc_i (by omega) rfl)))))) rfl (rfl) (rfl)
                · refine at_aload_n C 1 dX7_soulKinds_72 rfl ?_
                  refine at_getf (v := .ref (G.1 (268))) C (obj_Ref G) (ci := 7) rfl inX7 (slot := 16) (by decide) qw_898 rfl rfl dX7_soulKinds_73 ?_
                  refine at_iload C 6 dX7_soulKinds_76 rfl ?_
                  refine at_iald C (4 * r) (ar_268 G) (by omega) (by omega) dX7_soulKinds_78 ?_
                  have hb16 : _ ≤ M 268 (4 * r) ∧ M 268 (4 * r) ≤ _ := tv hT (k := 268) (j := (4 * r)) rfl
                  refine at_iload_n C 2 dX7_soulKinds_79 rfl ?_
                  refine at_icmp_ne C 88 dX7_soulKinds_80 (by decide) (⟨by omega, by omega⟩) (⟨by omega, by omega⟩) (fun h17 => ?_) (fun h17 => ?_)
                  · refine at_iconst C dX7_soulKinds_88 ?_
                    refine at_goto C 93 dX7_soulKinds_89 (by decide) ?_
                    refine at_vi (y := (sB (qkdP M s (r + 1) k))) (sB_t (by first | exact qkd_a (by assumption) (by assumption) | exact qkd_b (by assumption) (by assumption))) ?_
                    refine at_istore C [(4, .int (sB (qkdP M s (r + 1) k))), (6, .int (sI (1))), (0, .ref (G.1 (258))), (1, .int (sI ((s : Int)))), (2, .int (sI ((((bits (fun k => qkdP M s (qo M) k) k) : Nat) : Int)))), (3, .int (sI ((k : Int)))), (5, .int (sI ((((4 * r) : Nat) : Int))))] dX7_soulKinds_93 (by decide) rfl ?_
                    refine at_iinc C 6 [(5, .int (sI ((((4 * r) : Nat) : Int) + 4))), (4, .int (sB (qkdP M s (r + 1) k))), (6, .int (sI (1))), (0, .ref (G.1 (258))), (1, .int (sI ((s : Int)))), (2, .int (sI ((((bits (fun k => qkdP M s (qo M) k) k) : Nat) : Int)))), (3, .int (sI ((k : Int))))] dX7_soulKinds_95 rfl (by decide) rfl ?_
                    refine at_goto C 15 dX7_soulKinds_98 (by decide) ?_
                    refine at_lv [3, 4, 5, 6, 1, 0] rfl ?_
                    exact at_eq (ih15 (r + 1) (by omega) (by omega)) (lvc_s (lvc_s (lvc_s (lvc_s (lvc_s (lvc_i (by omega) rfl)))))) rfl (rfl) (rfl)
                  · refine at_iload C 0 dX7_soulKinds_83 rfl ?_
                    refine at_if_eq C 92 dX7_soulKinds_85 (by decide) (⟨by omega, by omega⟩) (fun h18 => absurd h18 (by omega)) (fun h18 => ?_)
                    refine at_iconst C dX7_soulKinds_88 ?_
                    refine at_goto C 93 dX7_soulKinds_89 (by decide) ?_
                    refine at_vi (y := (sB (qkdP M s (r + 1) k))) (sB_t (by first | exact qkd_a (by assumption) (by assumption) | exact qkd_b (by assumption) (by assumption))) ?_
                    refine at_istore C [(4, .int (sB (qkdP M s (r + 1) k))), (6, .int (sI (1))), (0, .ref (G.1 (258))), (1, .int (sI ((s : Int)))), (2, .int (sI ((((bits (fun k => qkdP M s (qo M) k) k) : Nat) : Int)))), (3, .int (sI ((k : Int)))), (5, .int (sI ((((4 * r) : Nat) : Int))))] dX7_soulKinds_93 (by decide) rfl ?_
                    refine at_iinc C 6 [(5, .int (sI ((((4 * r) : Nat) : Int) + 4))), (4, .int (sB (qkdP M s (r + 1) k))), (6, .int (sI (1))), (0, .ref (G.1 (258))), (1, .int (sI ((s : Int)))), (2, .int (sI ((((bits (fun k => qkdP M s (qo M) k) k) : Nat) : Int)))), (3, .int (sI ((k : Int))))] dX7_soulKinds_95 rfl (by decide) rfl ?_
                    refine at_goto C 15 dX7_soulKinds_98 (by decide) ?_
                    refine at_lv [3, 4, 5, 6, 1, 0] rfl ?_
                    exact at_eq (ih15 (r + 1) (by omega) (by omega)) (lvc_s (lvc_s (lvc_s (lvc_s (lvc_s (lvc_i (by omega) rfl)))))) rfl (rfl) (rfl)
        refine at_lv [2, 3, 4, 5, 1, 0] rfl ?_
        exact at_eq (H15 _ 0 (Nat.lt_succ_self _) (by omega)) (lvc_s (lvc_s (lvc_s (lvc_s (lvc_s (lvc_i (rfl) rfl)))))) rfl (rfl) (rfl)
  refine at_lv [2, 3, 1, 0] rfl ?_
  exact at_eq (H4 _ 0 (Nat.lt_succ_self _) (by omega)) (lvc_s (lvc_s (lvc_i (rfl) (lvc_i (rfl) rfl)))) rfl (rfl) (rfl)

set_option maxHeartbeats 4000000 in
set_option maxRecDepth 100000 in
theorem c_X7_callerKinds (l : Launch) (D : va_G) (G : sG) {M : sM} {L : sL} (i : Nat) (hi : i < 6) (hT : TInv M) : sKi l D G yX7_callerKinds cX7_callerKinds 7 .int 2 44 [.ref (G.1 (258)), .int (sI ((i : Int)))] M L (fun r M' L' => r = sI (((qkfB M i : Nat) : Int)) ∧ M = M' ∧ L = L') := by
  refine sKi_go (by decide) (Nat.le_of_ble_eq_true rfl) ?_
  intro zp ze zs zm za zb zt zc Q C hret
  refine at_eq (lv' := [(0, .ref (G.1 (258))), (1, .int (sI ((i : Int))))]) (st' := []) (M' := M) (L' := L) ?_ rfl rfl rfl rfl
  have hqn := qn_r hT
  have hqc := qc_r hT
  have hqu := qu_r hT
  have hqt := qt_r hT
  have hqs := qs_r hT
  have hqo := qo_r hT
  have hqm := qm_r hT
  refine at_iconst C dX7_callerKinds_0 ?_
  refine at_istore_n C [(2, .int (sI (0))), (0, .ref (G.1 (258))), (1, .int (sI ((i : Int))))] dX7_callerKinds_1 (by decide) rfl ?_
  refine at_iconst C dX7_callerKinds_2 ?_
  refine at_istore_n C [(3, .int (sI (0))), (2, .int (sI (0))), (0, .ref (G.1 (258))), (1, .int (sI ((i : Int))))] dX7_callerKinds_3 (by decide) rfl ?_
  have H4 : ∀ (fu : Nat) (k : Nat), 6 - k < fu → (k ≤ 6) → sAt zp l ze (sRm 2 44) zs zm za zb zt zc D G 7 0 0 Q 4 [(0, .ref (G.1 (258))), (1, .int (sI ((i : Int)))), (2, .int (sI ((((bits (fun k => qkfP M i (qm M) k) k) : Nat) : Int)))), (3, .int (sI ((k : Int))))] [] M L := by
    intro fu
    induction fu with
    | zero => intro k hd hk; exact absurd hd (Nat.not_lt_zero _)
    | succ fu ih4 =>
      intro k hd4 hk
      have hbl : bits (fun k => qkfP M i (qm M) k) k < 64 := bits_lt6 _ hk
      refine at_iload_n C 3 dX7_callerKinds_4 rfl ?_
      refine at_iconst C dX7_callerKinds_5 ?_
      refine at_icmp_gt C 113 dX7_callerKinds_6 (by decide) (⟨by omega, by omega⟩) (⟨by omega, by omega⟩) (fun h1 => ?_) (fun h1 => ?_)
      · refine at_iload_n C 2 dX7_callerKinds_113 rfl ?_
        exact hret _ _ _ _ _ dX7_callerKinds_114 (⟨congrArg sI (by unfold qkfB; rw [show k = 6 by omega]), rfl, rfl⟩)
      · refine at_iconst C dX7_callerKinds_9 ?_
        refine at_vi (y := (sB (qkfP M i 0 k))) (sB_t (qkf_0 M i k)) ?_
        refine at_istore C [(4, .int (sB (qkfP M i 0 k))), (0, .ref (G.1 (258))), (1, .int (sI ((i : Int)))), (2, .int (sI ((((bits (fun k => qkfP M i (qm M) k) k) : Nat) : Int)))), (3, .int (sI ((k : Int))))] dX7_callerKinds_10 (by decide) rfl ?_
        refine at_iconst C dX7_callerKinds_12 ?_
        refine at_istore C [(5, .int (sI (0))), (4, .int (sB (qkfP M i 0 k))), (0, .ref (G.1 (258))), (1, .int (sI ((i : Int)))), (2, .int (sI ((((bits (fun k => qkfP M i (qm M) k) k) : Nat) : Int)))), (3, .int (sI ((k : Int))))] dX7_callerKinds_13 (by decide) rfl ?_
        have H15 : ∀ (fu : Nat) (r : Nat), qm M - r < fu → (r ≤ qm M) → sAt zp l ze (sRm 2 44) zs zm za zb zt zc D G 7 0 0 Q 15 [(0, .ref (G.1 (258))), (1, .int (sI ((i : Int)))), (2, .int (sI ((((bits (fun k => qkfP M i (qm M) k) k) : Nat) : Int)))), (3, .int (sI ((k : Int)))), (4, .int (sB (qkfP M i r k))), (5, .int (sI ((((3 * r) : Nat) : Int))))] [] M L := by
          intro fu
          induction fu with
          | zero => intro r hd hr; exact absurd hd (Nat.not_lt_zero _)
          | succ fu ih15 =>
            intro r hd15 hr
            have hn3r := tv hT (k := 269) (j := 3 * r) (lo := 0) (hi := 60) rfl
            have hn3r1 := tv hT (k := 269) (j := 3 * r + 1) (lo := 0) (hi := 60) rfl
            have hn3r2 := tv hT (k := 269) (j := 3 * r + 2) (lo := 0) (hi := 60) rfl
            refine at_iload C 5 dX7_callerKinds_15 rfl ?_
            refine at_iconst C dX7_callerKinds_17 ?_
            refine at_aload_n C 0 dX7_callerKinds_18 rfl ?_
            refine at_getf (v := .int (sI (M 258 7))) C (obj_Ref G) (ci := 7) rfl inX7 (slot := 7) (by decide) qw_889 rfl rfl dX7_callerKinds_19 ?_
            have hb2 : _ ≤ M 258 7 ∧ M 258 7 ≤ _ := tv hT (k := 258) (j := 7) rfl
            refine at_ve (b := (((qm M) : Nat) : Int)) (hqm.2) ?_
            refine at_imul C dX7_callerKinds_22 ?_
            refine at_icmp_ge C 92 dX7_callerKinds_23 (by decide) (⟨by omega, by omega⟩) (⟨by omega, by omega⟩) (fun h3 => ?_) (fun h3 => ?_)
            · have hfin : qkfP M i r k ↔ qkfP M i (qm M) k := by rw [show r = qm M by omega]
              refine at_iload_n C 2 dX7_callerKinds_92 rfl ?_
              refine at_iload C 4 dX7_callerKinds_93 rfl ?_
              refine at_if_eqB C 104 dX7_callerKinds_95 (by decide) (fun h4 => ?_) (fun h4 => ?_)
              · have hno : ¬ qkfP M i (qm M) k := fun z => absurd (hfin.mpr z) (by assumption)
                refine at_iconst C dX7_callerKinds_104 ?_
                refine at_ior C ((((bits (fun k => qkfP M i (qm M) k) k) : Nat) : Int)) dX7_callerKinds_105 (zb_or0 _) ?_
                refine at_istore_n C [(2, .int (sI ((((bits (fun k => qkfP M i (qm M) k) k) : Nat) : Int)))), (0, .ref (G.1 (258))), (1, .int (sI ((i : Int)))), (3, .int (sI ((k : Int)))), (4, .int (sB (qkfP M i r k))), (5, .int (sI ((((3 * r) : Nat) : Int))))] dX7_callerKinds_106 (by decide) rfl ?_
                refine at_iinc C 3 [(3, .int (sI ((k : Int) + 1))), (2, .int (sI ((((bits (fun k => qkfP M i (qm M) k) k) : Nat) : Int)))), (0, .ref (G.1 (258))), (1, .int (sI ((i : Int)))), (4, .int (sB (qkfP M i r k))), (5, .int (sI ((((3 * r) : Nat) : Int))))] dX7_callerKinds_107 rfl (by decide) rfl ?_
                refine at_goto C 4 dX7_callerKinds_110 (by decide) ?_
                refine at_lv [2, 3, 1, 0] rfl ?_
                exact at_eq (ih4 (k + 1) (by omega) (by omega)) (lvc_s (lvc_s (lvc_i (by rw [bits_n (p := fun k => qkfP M i (qm M) k) hno]) (lvc_i (by omega) rfl)))) rfl (rfl) (rfl)
              · have hyes : qkfP M i (qm M) k := hfin.mp (by assumption)
                refine at_iconst C dX7_callerKinds_98 ?_
                refine at_iload_n C 3 dX7_callerKinds_99 rfl ?_
                refine at_ishl C ((((2 ^ k) : Nat) : Int)) dX7_callerKinds_100 (zb_shl (by omega)) ?_
                refine at_goto C 105 dX7_callerKinds_101 (by decide) ?_
                refine at_ior C ((((bits (fun k => qkfP M i (qm M) k) k ||| 2 ^ k) : Nat) : Int)) dX7_callerKinds_105 (zb_or _ _) ?_
                refine at_istore_n C [(2, .int (sI ((((bits (fun k => qkfP M i (qm M) k) k ||| 2 ^ k) : Nat) : Int)))), (0, .ref (G.1 (258))), (1, .int (sI ((i : Int)))), (3, .int (sI ((k : Int)))), (4, .int (sB (qkfP M i r k))), (5, .int (sI ((((3 * r) : Nat) : Int))))] dX7_callerKinds_106 (by decide) rfl ?_
                refine at_iinc C 3 [(3, .int (sI ((k : Int) + 1))), (2, .int (sI ((((bits (fun k => qkfP M i (qm M) k) k ||| 2 ^ k) : Nat) : Int)))), (0, .ref (G.1 (258))), (1, .int (sI ((i : Int)))), (4, .int (sB (qkfP M i r k))), (5, .int (sI ((((3 * r) : Nat) : Int))))] dX7_callerKinds_107 rfl (by decide) rfl ?_
                refine at_goto C 4 dX7_callerKinds_110 (by decide) ?_
                refine at_lv [2, 3, 1, 0] rfl ?_
                exact at_eq (ih4 (k + 1) (by omega) (by omega)) (lvc_s (lvc_s (lvc_i (by rw [bits_y (p := fun k => qkfP M i (qm M) k) hyes]) (lvc_i (by omega) rfl)))) rfl (rfl) (rfl)
            · refine at_iload_n C 3 dX7_callerKinds_26 rfl ?_
              refine at_aload_n C 0 dX7_callerKinds_27 rfl ?_
              refine at_getf (v := .ref (G.1 (269))) C (obj_Ref G) (ci := 7) rfl inX7 (slot := 17) (by decide) qw_899 rfl rfl dX7_callerKinds_28 ?_
              refine at_iload C 5 dX7_callerKinds_31 rfl ?_
              refine at_iconst C dX7_callerKinds_33 ?_
              refine at_iadd C dX7_callerKinds_34 ?_
              refine at_iald C ((3 * r) + 1) (ar_269 G) (by omega) (by omega) dX7_callerKinds_35 ?_
              have hb5 : _ ≤ M 269 ((3 * r) + 1) ∧ M 269 ((3 * r) + 1) ≤ _ := tv hT (k := 269) (j := ((3 * r) + 1)) rfl
              refine at_stat_i C (c_X7_feelsBy l D G (k : Int) (M 269 ((3 * r) + 1)) ⟨by omega, by omega⟩ ⟨by omega, by omega⟩) (As := [.int (sI ((k : Int))), .int (sI (M 269 ((3 * r) + 1)))]) qw_1169 qw_1167 qw_8 qw_1168 ⟨by decide, by decide, show (parseMethodDescriptor yX7_feelsBy.desc).map (fun d => d.parameters.length) = some 2 by decide +kernel⟩ ⟨by decide, by decide⟩ ⟨Nat.zero_le _, Nat.zero_le _⟩ (Nat.le_of_ble_eq_true rfl) dX7_callerKinds_36 rfl (fun r M' L' hp7 => ?_)
              obtain ⟨rfl, rfl, rfl⟩ := hp7
              have hb6 := hvy_b (k := (k : Int)) (x := M 269 ((3 * r) + 1)) (by omega)
              refine at_aload_n C 0 dX7_callerKinds_39 rfl ?_
              refine at_getf (v := .ref (G.1 (269))) C (obj_Ref G) (ci := 7) rfl inX7 (slot := 17) (by decide) qw_899 rfl rfl dX7_callerKinds_40 ?_
              refine at_iload C 5 dX7_callerKinds_43 rfl ?_
              refine at_iconst C dX7_callerKinds_45 ?_
              refine at_iadd C dX7_callerKinds_46 ?_
              refine at_iald C ((3 * r) + 2) (ar_269 G) (by omega) (by omega) dX7_callerKinds_47 ?_
              have hb8 : _ ≤ M 269 ((3 * r) + 2) ∧ M 269 ((3 * r) + 2) ≤ _ := tv hT (k := 269) (j := ((3 * r) + 2)) rfl
              refine at_icmp_ne C 55 dX7_callerKinds_48 (by decide) (⟨by omega, by omega⟩) (⟨by omega, by omega⟩) (fun h9 => ?_) (fun h9 => ?_)
              · refine at_iconst C dX7_callerKinds_55 ?_
                refine at_istore C [(6, .int (sI (0))), (0, .ref (G.1 (258))), (1, .int (sI ((i : Int)))), (2, .int (sI ((((bits (fun k => qkfP M i (qm M) k) k) : Nat) : Int)))), (3, .int (sI ((k : Int)))), (4, .int (sB (qkfP M i r k))), (5, .int (sI ((((3 * r) : Nat) : Int))))] dX7_callerKinds_56 (by decide) rfl ?_
                refine at_iload C 5 dX7_callerKinds_58 rfl ?_
                refine at_if_eqB C 83 dX7_callerKinds_60 (by decide) (fun h10 => ?_) (fun h10 => ?_)
                · refine at_iconst C dX7_callerKinds_83 ?_
                  refine at_vi (y := (sB (qkfP M i (r + 1) k))) (sB_f (by first | exact qkf_c (by assumption) | exact qkf_d (by assumption) (by assumption))) ?_
                  refine at_istore C [(4, .int (sB (qkfP M i (r + 1) k))), (6, .int (sI (0))), (0, .ref (G.1 (258))), (1, .int (sI ((i : Int)))), (2, .int (sI ((((bits (fun k => qkfP M i (qm M) k) k) : Nat) : Int)))), (3, .int (sI ((k : Int)))), (5, .int (sI ((((3 * r) : Nat) : Int))))] dX7_callerKinds_84 (by decide) rfl ?_
                  refine at_iinc C 6 [(5, .int (sI ((((3 * r) : Nat) : Int) + 3))), (4, .int (sB (qkfP M i (r + 1) k))), (6, .int (sI (0))), (0, .ref (G.1 (258))), (1, .int (sI ((i : Int)))), (2, .int (sI ((((bits (fun k => qkfP M i (qm M) k) k) : Nat) : Int)))), (3, .int (sI ((k : Int))))] dX7_callerKinds_86 rfl (by decide) rfl ?_
                  refine at_goto C 15 dX7_callerKinds_89 (by decide) ?_
                  refine at_lv [3, 4, 5, 6, 1, 0] rfl ?_
                  exact at_eq (ih15 (r + 1) (by omega) (by omega)) (lvc_s (lvc_s (lvc_s (lvc_s (lvc_s (lvc_i (by omega) rfl)))))) rfl (rfl) (rfl)
                · refine at_aload_n C 1 dX7_callerKinds_63 rfl ?_
                  refine at_getf (v := .ref (G.1 (269))) C (obj_Ref G) (ci := 7) rfl inX7 (slot := 17) (by decide) qw_899 rfl rfl dX7_callerKinds_64 ?_
                  refine at_iload C 6 dX7_callerKinds_67 rfl ?_
                  refine at_iald C (3 * r) (ar_269 G) (by omega) (by omega) dX7_callerKinds_69 ?_
                  have hb11 : _ ≤ M 269 (3 * r) ∧ M 269 (3 * r) ≤ _ := tv hT (k := 269) (j := (3 * r)) rfl
                  refine at_iload_n C 2 dX7_callerKinds_70 rfl ?_
                  refine at_icmp_ne C 79 dX7_callerKinds_71 (by decide) (⟨by omega, by omega⟩) (⟨by omega, by omega⟩) (fun h12 => ?_) (fun h12 => ?_)
                  · refine at_iconst C dX7_callerKinds_79 ?_
                    refine at_goto C 84 dX7_callerKinds_80 (by decide) ?_
                    refine at_vi (y := (sB (qkfP M i (r + 1) k))) (sB_t (by first | exact qkf_a (by assumption) (by assumption) | exact qkf_b (by assumption) (by assumption))) ?_
                    refine at_istore C [(4, .int (sB (qkfP M i (r + 1) k))), (6, .int (sI (0))), (0, .ref (G.1 (258))), (1, .int (sI ((i : Int)))), (2, .int (sI ((((bits (fun k => qkfP M i (qm M) k) k) : Nat) : Int)))), (3, .int (sI ((k : Int)))), (5, .int (sI ((((3 * r) : Nat) : Int))))] dX7_callerKinds_84 (by decide) rfl ?_
                    refine at_iinc C 6 [(5, .int (sI ((((3 * r) : Nat) : Int) + 3))), (4, .int (sB (qkfP M i (r + 1) k))), (6, .int (sI (0))), (0, .ref (G.1 (258))), (1, .int (sI ((i : Int)))), (2, .int (sI ((((bits (fun k => qkfP M i (qm M) k) k) : Nat) : Int)))), (3, .int (sI ((k : Int))))] dX7_callerKinds_86 rfl (by decide) rfl ?_
                    refine at_goto C 15 dX7_callerKinds_89 (by decide) ?_
                    refine at_lv [3, 4, 5, 6, 1, 0] rfl ?_
                    exact at_eq (ih15 (r + 1) (by omega) (by omega)) (lvc_s (lvc_s (lvc_s (lvc_s (lvc_s (lvc_i (by omega) rfl)))))) rfl (rfl) (rfl)
                  · refine at_iload C 0 dX7_callerKinds_74 rfl ?_
                    refine at_if_eq C 83 dX7_callerKinds_76 (by decide) (⟨by omega, by omega⟩) (fun h13 => ?_) (fun h13 => absurd h13 (by omega))
                    refine at_iconst C dX7_callerKinds_83 ?_
                    refine at_vi (y := (sB (qkfP M i (r + 1) k))) (sB_f (by first | exact qkf_c (by assumption) | exact qkf_d (by assumption) (by assumption))) ?_
                    refine at_istore C [(4, .int (sB (qkfP M i (r + 1) k))), (6, .int (sI (0))), (0, .ref (G.1 (258))), (1, .int (sI ((i : Int)))), (2, .int (sI ((((bits (fun k => qkfP M i (qm M) k) k) : Nat) : Int)))), (3, .int (sI ((k : Int)))), (5, .int (sI ((((3 * r) : Nat) : Int))))] dX7_callerKinds_84 (by decide) rfl ?_
                    refine at_iinc C 6 [(5, .int (sI ((((3 * r) : Nat) : Int) + 3))), (4, .int (sB (qkfP M i (r + 1) k))), (6, .int (sI (0))), (0, .ref (G.1 (258))), (1, .int (sI ((i : Int)))), (2, .int (sI ((((bits (fun k => qkfP M i (qm M) k) k) : Nat) : Int)))), (3, .int (sI ((k : Int))))] dX7_callerKinds_86 rfl (by decide) rfl ?_
                    refine at_goto C 15 dX7_callerKinds_89 (by decide) ?_
                    refine at_lv [3, 4, 5, 6, 1, 0] rfl ?_
                    exact at_eq (ih15 (r + 1) (by omega) (by omega)) (lvc_s (lvc_s (lvc_s (lvc_s (lvc_s (lvc_i (by omega) rfl)))))) rfl (rfl) (rfl)
              · refine at_iconst C dX7_callerKinds_51 ?_
                refine at_goto C 56 dX7_callerKinds_52 (by decide) ?_
                refine at_istore C [(6, .int (sI (1))), (0, .ref (G.1 (258))), (1, .int (sI ((i : Int)))), (2, .int (sI ((((bits (fun k => qkfP M i (qm M) k) k) : Nat) : Int)))), (3, .int (sI ((k : Int)))), (4, .int (sB (qkfP M i r k))), (5, .int (sI ((((3 * r) : Nat) : Int))))] dX7_callerKinds_56 (by decide) rfl ?_
                refine at_iload C 5 dX7_callerKinds_58 rfl ?_
                refine at_if_eqB C 83 dX7_callerKinds_60 (by decide) (fun h14 => ?_) (fun h14 => ?_)
                · refine at_iconst C dX7_callerKinds_83 ?_
                  refine at_vi (y := (sB (qkfP M i (r + 1) k))) (sB_f (by first | exact qkf_c (by assumption) | exact qkf_d (by assumption) (by assumption))) ?_
                  refine at_istore C [(4, .int (sB (qkfP M i (r + 1) k))), (6, .int (sI (1))), (0, .ref (G.1 (258))), (1, .int (sI ((i : Int)))), (2, .int (sI ((((bits (fun k => qkfP M i (qm M) k) k) : Nat) : Int)))), (3, .int (sI ((k : Int)))), (5, .int (sI ((((3 * r) : Nat) : Int))))] dX7_callerKinds_84 (by decide) rfl ?_
                  refine at_iinc C 6 [(5, .int (sI ((((3 * r) : Nat) : Int) + 3))), (4, .int (sB (qkfP M i (r + 1) k))), (6, .int (sI (1))), (0, .ref (G.1 (258))), (1, .int (sI ((i : Int)))), (2, .int (sI ((((bits (fun k => qkfP M i (qm M) k) k) : Nat) : Int)))), (3, .int (sI ((k : Int))))] dX7_callerKinds_86 rfl (by decide) rfl ?_
                  refine at_goto C 15 dX7_callerKinds_89 (by decide) ?_
                  refine at_lv [3, 4, 5, 6, 1, 0] rfl ?_
                  exact at_eq (ih15 (r + 1) (by omega) (by omega)) (lvc_s (lvc_s (lvc_s (lvc_s (lvc_s (lvc_i (by omega) rfl)))))) rfl (rfl) (rfl)
                · refine at_aload_n C 1 dX7_callerKinds_63 rfl ?_
                  refine at_getf (v := .ref (G.1 (269))) C (obj_Ref G) (ci := 7) rfl inX7 (slot := 17) (by decide) qw_899 rfl rfl dX7_callerKinds_64 ?_
                  refine at_iload C 6 dX7_callerKinds_67 rfl ?_
                  refine at_iald C (3 * r) (ar_269 G) (by omega) (by omega) dX7_callerKinds_69 ?_
                  have hb15 : _ ≤ M 269 (3 * r) ∧ M 269 (3 * r) ≤ _ := tv hT (k := 269) (j := (3 * r)) rfl
                  refine at_iload_n C 2 dX7_callerKinds_70 rfl ?_
                  refine at_icmp_ne C 79 dX7_callerKinds_71 (by decide) (⟨by omega, by omega⟩) (⟨by omega, by omega⟩) (fun h16 => ?_) (fun h16 => ?_)
                  · refine at_iconst C dX7_callerKinds_79 ?_
                    refine at_goto C 84 dX7_callerKinds_80 (by decide) ?_
                    refine at_vi (y := (sB (qkfP M i (r + 1) k))) (sB_t (by first | exact qkf_a (by assumption) (by assumption) | exact qkf_b (by assumption) (by assumption))) ?_
                    refine at_istore C [(4, .int (sB (qkfP M i (r + 1) k))), (6, .int (sI (1))), (0, .ref (G.1 (258))), (1, .int (sI ((i : Int)))), (2, .int (sI ((((bits (fun k => qkfP M i (qm M) k) k) : Nat) : Int)))), (3, .int (sI ((k : Int)))), (5, .int (sI ((((3 * r) : Nat) : Int))))] dX7_callerKinds_84 (by decide) rfl ?_
                    refine at_iinc C 6 [(5, .int (sI ((((3 * r) : Nat) : Int) + 3))), (4, .int (sB (qkfP M i (r + 1) k))), (6, .int (sI (1))), (0, .ref (G.1 (258))), (1, .int (sI ((i : Int)))), (2, .int (sI ((((bits (fun k => qkfP M i (qm M) k) k) : Nat) : Int)))), (3, .int (sI ((k : Int))))] dX7_callerKinds_86 rfl (by decide) rfl ?_
                    refine at_goto C 15 dX7_callerKinds_89 (by decide) ?_
                    refine at_lv [3, 4, 5, 6, 1, 0] rfl ?_
                    exact at_eq (ih15 (r + 1) (by omega) (by omega)) (lvc_s (lvc_s (lvc_s (lvc_s (lvc_s (lvc_i (by omega) rfl)))))) rfl (rfl) (rfl)
                  · refine at_iload C 0 dX7_callerKinds_74 rfl ?_
                    refine at_if_eq C 83 dX7_callerKinds_76 (by decide) (⟨by omega, by omega⟩) (fun h17 => absurd h17 (by omega)) (fun h17 => ?_)
                    refine at_iconst C dX7_callerKinds_79 ?_
                    refine at_goto C 84 dX7_callerKinds_80 (by decide) ?_
                    refine at_vi (y := (sB (qkfP M i (r + 1) k))) (sB_t (by first | exact qkf_a (by assumption) (by assumption) | exact qkf_b (by assumption) (by assumption))) ?_
                    refine at_istore C [(4, .int (sB (qkfP M i (r + 1) k))), (6, .int (sI (1))), (0, .ref (G.1 (258))), (1, .int (sI ((i : Int)))), (2, .int (sI ((((bits (fun k => qkfP M i (qm M) k) k) : Nat) : Int)))), (3, .int (sI ((k : Int)))), (5, .int (sI ((((3 * r) : Nat) : Int))))] dX7_callerKinds_84 (by decide) rfl ?_
                    refine at_iinc C 6 [(5, .int (sI ((((3 * r) : Nat) : Int) + 3))), (4, .int (sB (qkfP M i (r + 1) k))), (6, .int (sI (1))), (0, .ref (G.1 (258))), (1, .int (sI ((i : Int)))), (2, .int (sI ((((bits (fun k => qkfP M i (qm M) k) k) : Nat) : Int)))), (3, .int (sI ((k : Int))))] dX7_callerKinds_86 rfl (by decide) rfl ?_
                    refine at_goto C 15 dX7_callerKinds_89 (by decide) ?_
                    refine at_lv [3, 4, 5, 6, 1, 0] rfl ?_
                    exact at_eq (ih15 (r + 1) (by omega) (by omega)) (lvc_s (lvc_s (lvc_s (lvc_s (lvc_s (lvc_i (by omega) rfl)))))) rfl (rfl) (rfl)
        refine at_lv [2, 3, 4, 5, 1, 0] rfl ?_
        exact at_eq (H15 _ 0 (Nat.lt_succ_self _) (by omega)) (lvc_s (lvc_s (lvc_s (lvc_s (lvc_s (lvc_i (rfl) rfl)))))) rfl (rfl) (rfl)
  refine at_lv [2, 3, 1, 0] rfl ?_
  exact at_eq (H4 _ 0 (Nat.lt_succ_self _) (by omega)) (lvc_s (lvc_s (lvc_i (rfl) (lvc_i (rfl) rfl)))) rfl (rfl) (rfl)

set_option maxHeartbeats 4000000 in
set_option maxRecDepth 100000 in
theorem c_X7_is (l : Launch) (D : va_G) (G : sG) {M : sM} {L : sL} (s : Int) (hsr : InR s) (hT : TInv M) (hc : qCt M) : sKi l D G yX7_is cX7_is 2 .int 3 70 [.ref (G.1 (258)), .int (sI (s))] M L (fun r M' L' => r = sI (qrIs M s) ∧ M' = qB M (isQS M s) ∧ TInv M' ∧ L = L') := by
  refine sKi_go (by decide) (Nat.le_of_ble_eq_true rfl) ?_
  intro zp ze zs zm za zb zt zc Q C hret
  refine at_eq (lv' := [(0, .ref (G.1 (258))), (1, .int (sI (s)))]) (st' := []) (M' := M) (L' := L) ?_ rfl rfl rfl rfl
  have hqn := qn_r hT
  have hqc := qc_r hT
  have hqu := qu_r hT
  have hqt := qt_r hT
  have hqs := qs_r hT
  have hqo := qo_r hT
  have hqm := qm_r hT
  refine at_aload_n C 0 dX7_is_0 rfl ?_
  refine at_iload_n C 1 dX7_is_1 rfl ?_
  refine at_call_i C (c_X7_isSoul l D G s ⟨by omega, by omega⟩ hT) (As := [.int (sI (s))]) (obj_Ref G) (ci := 7) rfl qw_1177 qw_1174 qw_8 qw_1176 qp_65 ⟨by decide, by decide, show (parseMethodDescriptor yX7_isSoul.desc).map (fun d => d.parameters.length) = some 1 by decide +kernel⟩ ⟨by decide, by decide⟩ ⟨Nat.zero_le _, Nat.zero_le _⟩ (Nat.le_of_ble_eq_true rfl) dX7_is_2 rfl (fun r M' L' hp1 => ?_)
  obtain ⟨rfl, rfl, rfl⟩ := hp1
  refine at_if_eqB C 16 dX7_is_5 (by decide) (fun h2 => ?_) (fun h2 => ?_)
  · refine at_aload_n C 0 dX7_is_16 rfl ?_
    refine at_call_i C (c_X7_bad l D G hT ⟨by omega, by omega, by omega⟩) (As := []) (obj_Ref G) (ci := 7) rfl qw_1012 qw_1009 qw_8 qw_1011 qp_34 ⟨by decide, by decide, show (parseMethodDescriptor yX7_bad.desc).map (fun d => d.parameters.length) = some 0 by decide +kernel⟩ ⟨by decide, by decide⟩ ⟨Nat.zero_le _, Nat.zero_le _⟩ (Nat.le_of_ble_eq_true rfl) dX7_is_17 rfl (fun r M' L' hp4 => ?_)
    obtain ⟨rfl, rfl, hT3, rfl⟩ := hp4
    exact hret _ _ _ _ _ dX7_is_20 (⟨congrArg sI (if_neg (by first | omega | (simp only [Int.toNat_natCast]; omega))).symm, (if_neg (by omega)).symm, hT3, rfl⟩)
  · obtain ⟨sn, rfl⟩ : ∃ sn : Nat, s = (sn : Int) := ⟨s.toNat, by omega⟩
    have hsc : sn < 6 := by omega
    refine at_aload_n C 0 dX7_is_8 rfl ?_
    refine at_iload_n C 1 dX7_is_9 rfl ?_
    refine at_call_i C (c_X7_soulKinds l D G sn (by omega) hT) (As := [.int (sI ((sn : Int)))]) (obj_Ref G) (ci := 7) rfl qw_1348 qw_1345 qw_8 qw_1347 qp_85 ⟨by decide, by decide, show (parseMethodDescriptor yX7_soulKinds.desc).map (fun d => d.parameters.length) = some 1 by decide +kernel⟩ ⟨by decide, by decide⟩ ⟨Nat.zero_le _, Nat.zero_le _⟩ (Nat.le_of_ble_eq_true rfl) dX7_is_10 rfl (fun r M' L' hp6 => ?_)
    obtain ⟨rfl, rfl, rfl⟩ := hp6
    have hb5 := qkdB_lt M sn
    refine at_goto C 20 dX7_is_13 (by decide) ?_
    exact hret _ _ _ _ _ dX7_is_20 (⟨congrArg sI (if_pos (by first | omega | (simp only [Int.toNat_natCast]; omega))).symm, (if_pos (by omega)).symm, hT, rfl⟩)

set_option maxHeartbeats 4000000 in
set_option maxRecDepth 100000 in
theorem c_X7_kinds (l : Launch) (D : va_G) (G : sG) {M : sM} {L : sL} (i : Int) (hir : InR i) (hT : TInv M) (hc : qCt M) : sKi l D G yX7_kinds cX7_kinds 2 .int 3 70 [.ref (G.1 (258)), .int (sI (i))] M L (fun r M' L' => r = sI (qrKinds M i) ∧ M' = qB M (isQC M i) ∧ TInv M' ∧ L = L') := by
  refine sKi_go (by decide) (Nat.le_of_ble_eq_true rfl) ?_
  intro zp ze zs zm za zb zt zc Q C hret
  refine at_eq (lv' := [(0, .ref (G.1 (258))), (1, .int (sI (i)))]) (st' := []) (M' := M) (L' := L) ?_ rfl rfl rfl rfl
  have hqn := qn_r hT
  have hqc := qc_r hT
  have hqu := qu_r hT
  have hqt := qt_r hT
  have hqs := qs_r hT
  have hqo := qo_r hT
  have hqm := qm_r hT
  refine at_aload_n C 0 dX7_kinds_0 rfl ?_
  refine at_iload_n C 1 dX7_kinds_1 rfl ?_
  refine at_call_i C (c_X7_isCaller l D G i ⟨by omega, by omega⟩ hT) (As := [.int (sI (i))]) (obj_Ref G) (ci := 7) rfl qw_1224 qw_1221 qw_8 qw_1223 qp_73 ⟨by decide, by decide, show (parseMethodDescriptor yX7_isCaller.desc).map (fun d => d.parameters.length) = some 1 by decide +kernel⟩ ⟨by decide, by decide⟩ ⟨Nat.zero_le _, Nat.zero_le _⟩ (Nat.le_of_ble_eq_true rfl) dX7_kinds_2 rfl (fun r M' L' hp1 => ?_)
  obtain ⟨rfl, rfl, rfl⟩ := hp1
  refine at_if_eqB C 16 dX7_kinds_5 (by decide) (fun h2 => ?_) (fun h2 => ?_)
  · refine at_aload_n C 0 dX7_kinds_16 rfl ?_
    refine at_call_i C (c_X7_bad l D G hT ⟨by omega, by omega, by omega⟩) (As := []) (obj_Ref G) (ci := 7) rfl qw_1012 qw_1009 qw_8 qw_1011 qp_34 ⟨by decide, by decide, show (parseMethodDescriptor yX7_bad.desc).map (fun d => d.parameters.length) = some 0 by decide +kernel⟩ ⟨by decide, by decide⟩ ⟨Nat.zero_le _, Nat.zero_le _⟩ (Nat.le_of_ble_eq_true rfl) dX7_kinds_17 rfl (fun r M' L' hp4 => ?_)
    obtain ⟨rfl, rfl, hT3, rfl⟩ := hp4
    exact hret _ _ _ _ _ dX7_kinds_20 (⟨congrArg sI (if_neg (by first | omega | (simp only [Int.toNat_natCast]; omega))).symm, (if_neg (by omega)).symm, hT3, rfl⟩)
  · obtain ⟨n, rfl⟩ : ∃ n : Nat, i = (n : Int) := ⟨i.toNat, by omega⟩
    have hic : n < 6 := by omega
    refine at_aload_n C 0 dX7_kinds_8 rfl ?_
    refine at_iload_n C 1 dX7_kinds_9 rfl ?_
    refine at_call_i C (c_X7_callerKinds l D G n (by omega) hT) (As := [.int (sI ((n : Int)))]) (obj_Ref G) (ci := 7) rfl qw_1356 qw_1353 qw_8 qw_1355 qp_86 ⟨by decide, by decide, show (parseMethodDescriptor yX7_callerKinds.desc).map (fun d => d.parameters.length) = some 1 by decide +kernel⟩ ⟨by decide, by decide⟩ ⟨Nat.zero_le _, Nat.zero_le _⟩ (Nat.le_of_ble_eq_true rfl) dX7_kinds_10 rfl (fun r M' L' hp6 => ?_)
    obtain ⟨rfl, rfl, rfl⟩ := hp6
    have hb5 := qkfB_lt M n
    refine at_goto C 20 dX7_kinds_13 (by decide) ?_
    exact hret _ _ _ _ _ dX7_kinds_20 (⟨congrArg sI (if_pos (by first | omega | (simp only [Int.toNat_natCast]; omega))).symm, (if_pos (by omega)).symm, hT, rfl⟩)

set_option maxHeartbeats 4000000 in
set_option maxRecDepth 100000 in
theorem c_X7_look (l : Launch) (D : va_G) (G : sG) {M : sM} {L : sL} (s : Int) (hsr : InR s) (hT : TInv M) (hc : qCt M) : sKi l D G yX7_look cX7_look 10 .int 3 70 [.ref (G.1 (258)), .int (sI (s))] M L (fun r M' L' => r = sI (qrLook M s) ∧ M' = qB M (isQS M s) ∧ TInv M' ∧ L = L') := by
  refine sKi_go (by decide) (Nat.le_of_ble_eq_true rfl) ?_
  intro zp ze zs zm za zb zt zc Q C hret
  refine at_eq (lv' := [(0, .ref (G.1 (258))), (1, .int (sI (s)))]) (st' := []) (M' := M) (L' := L) ?_ rfl rfl rfl rfl
  have hqn := qn_r hT
  have hqc := qc_r hT
  have hqu := qu_r hT
  have hqt := qt_r hT
  have hqs := qs_r hT
  have hqo := qo_r hT
  have hqm := qm_r hT
  refine at_aload_n C 0 dX7_look_0 rfl ?_
  refine at_iload_n C 1 dX7_look_1 rfl ?_
  refine at_call_i C (c_X7_isSoul l D G s ⟨by omega, by omega⟩ hT) (As := [.int (sI (s))]) (obj_Ref G) (ci := 7) rfl qw_1177 qw_1174 qw_8 qw_1176 qp_65 ⟨by decide, by decide, show (parseMethodDescriptor yX7_isSoul.desc).map (fun d => d.parameters.length) = some 1 by decide +kernel⟩ ⟨by decide, by decide⟩ ⟨Nat.zero_le _, Nat.zero_le _⟩ (Nat.le_of_ble_eq_true rfl) dX7_look_2 rfl (fun r M' L' hp1 => ?_)
  obtain ⟨rfl, rfl, rfl⟩ := hp1
  refine at_if_neB C 13 dX7_look_5 (by decide) (fun h2 => ?_) (fun h2 => ?_)
  · obtain ⟨sn, rfl⟩ : ∃ sn : Nat, s = (sn : Int) := ⟨s.toNat, by omega⟩
    have hsc : sn < 6 := by omega
    refine at_aload_n C 0 dX7_look_13 rfl ?_
    refine at_iload_n C 1 dX7_look_14 rfl ?_
    refine at_call_i C (c_X7_soulKinds l D G sn (by omega) hT) (As := [.int (sI ((sn : Int)))]) (obj_Ref G) (ci := 7) rfl qw_1348 qw_1345 qw_8 qw_1347 qp_85 ⟨by decide, by decide, show (parseMethodDescriptor yX7_soulKinds.desc).map (fun d => d.parameters.length) = some 1 by decide +kernel⟩ ⟨by decide, by decide⟩ ⟨Nat.zero_le _, Nat.zero_le _⟩ (Nat.le_of_ble_eq_true rfl) dX7_look_15 rfl (fun r M' L' hp4 => ?_)
    obtain ⟨rfl, rfl, rfl⟩ := hp4
    have hb3 := qkdB_lt M sn
    refine at_istore_n C [(2, .int (sI ((((qkdB M sn) : Nat) : Int)))), (0, .ref (G.1 (258))), (1, .int (sI ((sn : Int))))] dX7_look_18 (by decide) rfl ?_
    refine at_iconst C dX7_look_19 ?_
    refine at_istore_n C [(3, .int (sI (-1))), (2, .int (sI ((((qkdB M sn) : Nat) : Int)))), (0, .ref (G.1 (258))), (1, .int (sI ((sn : Int))))] dX7_look_20 (by decide) rfl ?_
    refine at_ldcw (n := 1048576) C qw_1328 dX7_look_21 (by decide +kernel) ?_
    refine at_istore C [(4, .int (sI (1048576))), (3, .int (sI (-1))), (2, .int (sI ((((qkdB M sn) : Nat) : Int)))), (0, .ref (G.1 (258))), (1, .int (sI ((sn : Int))))] dX7_look_24 (by decide) rfl ?_
    refine at_iconst C dX7_look_26 ?_
    refine at_istore C [(5, .int (sI (0))), (4, .int (sI (1048576))), (3, .int (sI (-1))), (2, .int (sI ((((qkdB M sn) : Nat) : Int)))), (0, .ref (G.1 (258))), (1, .int (sI ((sn : Int))))] dX7_look_27 (by decide) rfl ?_
    have H29 : ∀ (fu : Nat) (d : Nat), 10 - d < fu → (d ≤ 10) → (qkdB M sn ≠ 0 ∨ d = 0) → sAt zp l ze (sRm 3 70) zs zm za zb zt zc D G 10 0 0 Q 29 [(0, .ref (G.1 (258))), (1, .int (sI ((sn : Int)))), (2, .int (sI ((((qkdB M sn) : Nat) : Int)))), (3, .int (sI (qsB (qlkF (qkdB M sn) (M 262 sn)) d))), (4, .int (sI (qsF (qlkF (qkdB M sn) (M 262 sn)) d))), (5, .int (sI ((d : Int))))] [] M L := by
      intro fu
      induction fu with
      | zero => intro d hd hk hz; exact absurd hd (Nat.not_lt_zero _)
      | succ fu ih29 =>
        intro d hd29 hk hz
        have hfr := qlkF_r (qkdB M sn) (M 262 sn)
        have hF := qsF_r (f := qlkF (qkdB M sn) (M 262 sn)) (fun n => (hfr n).1) d
        have hB := qsB_r (qlkF (qkdB M sn) (M 262 sn)) d
        refine at_iload C 5 dX7_look_29 rfl ?_
        refine at_bipush C dX7_look_31 (by decide) (by decide) ?_
        refine at_icmp_ge C 171 dX7_look_33 (by decide) (⟨by omega, by omega⟩) (⟨by omega, by omega⟩) (fun h5 => ?_) (fun h5 => ?_)
        · refine at_iload_n C 3 dX7_look_171 rfl ?_
          exact hret _ _ _ _ _ dX7_look_172 (⟨congrArg sI (by unfold qrLook; rw [if_pos (by omega), Int.toNat_natCast]; first | (rw [qsA_n (by omega), show d = 10 by omega]) | (rw [qsA_y (by omega), show d = 0 by omega]; rfl)), (if_pos (by omega)).symm, hT, rfl⟩)
        · refine at_iload_n C 2 dX7_look_36 rfl ?_
          refine at_if_eq C 171 dX7_look_37 (by decide) (⟨by omega, by omega⟩) (fun h6 => ?_) (fun h6 => ?_)
          · refine at_iload_n C 3 dX7_look_171 rfl ?_
            exact hret _ _ _ _ _ dX7_look_172 (⟨congrArg sI (by unfold qrLook; rw [if_pos (by omega), Int.toNat_natCast]; first | (rw [qsA_n (by omega), show d = 10 by omega]) | (rw [qsA_y (by omega), show d = 0 by omega]; rfl)), (if_pos (by omega)).symm, hT, rfl⟩)
          · refine at_iconst C dX7_look_40 ?_
            refine at_istore C [(6, .int (sI (0))), (0, .ref (G.1 (258))), (1, .int (sI ((sn : Int)))), (2, .int (sI ((((qkdB M sn) : Nat) : Int)))), (3, .int (sI (qsB (qlkF (qkdB M sn) (M 262 sn)) d))), (4, .int (sI (qsF (qlkF (qkdB M sn) (M 262 sn)) d))), (5, .int (sI ((d : Int))))] dX7_look_41 (by decide) rfl ?_
            refine at_iconst C dX7_look_43 ?_
            refine at_istore C [(7, .int (sI (0))), (6, .int (sI (0))), (0, .ref (G.1 (258))), (1, .int (sI ((sn : Int)))), (2, .int (sI ((((qkdB M sn) : Nat) : Int)))), (3, .int (sI (qsB (qlkF (qkdB M sn) (M 262 sn)) d))), (4, .int (sI (qsF (qlkF (qkdB M sn) (M 262 sn)) d))), (5, .int (sI ((d : Int))))] dX7_look_44 (by decide) rfl ?_
            have H46 : ∀ (fu : Nat) (a : Nat), 6 - a < fu → (a ≤ 6) → sAt zp l ze (sRm 3 70) zs zm za zb zt zc D G 10 0 0 Q 46 [(0, .ref (G.1 (258))), (1, .int (sI ((sn : Int)))), (2, .int (sI ((((qkdB M sn) : Nat) : Int)))), (3, .int (sI (qsB (qlkF (qkdB M sn) (M 262 sn)) d))), (4, .int (sI (qsF (qlkF (qkdB M sn) (M 262 sn)) d))), (5, .int (sI ((d : Int)))), (6, .int (sI (mxc (fun a b => qlkP (qkdB M sn) (M 262 sn) d a b) 6 a))), (7, .int (sI ((a : Int))))] [] M L := by
              intro fu
              induction fu with
              | zero => intro a hd ha; exact absurd hd (Nat.not_lt_zero _)
              | succ fu ih46 =>
                intro a hd46 ha
                have hm := mxc_r (fun a b => qlkP (qkdB M sn) (M 262 sn) d a b) 6 a
                refine at_iload C 7 dX7_look_46 rfl ?_
                refine at_iconst C dX7_look_48 ?_
                refine at_icmp_gt C 142 dX7_look_49 (by decide) (⟨by omega, by omega⟩) (⟨by omega, by omega⟩) (fun h7 => ?_) (fun h7 => ?_)
                · have hMF : mxc (fun a b => qlkP (qkdB M sn) (M 262 sn) d a b) 6 a = qlkF (qkdB M sn) (M 262 sn) d := by unfold qlkF; rw [show a = 6 by omega]
                  refine at_iload C 6 dX7_look_142 rfl ?_
                  refine at_ve (b := qlkF (qkdB M sn) (M 262 sn) d) (hMF) ?_
                  refine at_iload C 4 dX7_look_144 rfl ?_
                  refine at_icmp_ge C 154 dX7_look_146 (by decide) (⟨by omega, by omega⟩) (⟨by omega, by omega⟩) (fun h8 => ?_) (fun h8 => ?_)
                  · refine at_iload_n C 3 dX7_look_154 rfl ?_
                    refine at_istore_n C [(3, .int (sI (qsB (qlkF (qkdB M sn) (M 262 sn)) d))), (0, .ref (G.1 (258))), (1, .int (sI ((sn : Int)))), (2, .int (sI ((((qkdB M sn) : Nat) : Int)))), (4, .int (sI (qsF (qlkF (qkdB M sn) (M 262 sn)) d))), (5, .int (sI ((d : Int)))), (6, .int (sI (mxc (fun a b => qlkP (qkdB M sn) (M 262 sn) d a b) 6 a))), (7, .int (sI ((a : Int))))] dX7_look_155 (by decide) rfl ?_
                    refine at_iload C 4 dX7_look_156 rfl ?_
                    refine at_iload C 6 dX7_look_158 rfl ?_
                    refine at_ve (b := qlkF (qkdB M sn) (M 262 sn) d) (hMF) ?_
                    refine at_stat_i C (c_X7_lesser l D G (qsF (qlkF (qkdB M sn) (M 262 sn)) d) (qlkF (qkdB M sn) (M 262 sn) d) ⟨by omega, by omega⟩ ⟨by omega, by omega⟩) (As := [.int (sI (qsF (qlkF (qkdB M sn) (M 262 sn)) d)), .int (sI (qlkF (qkdB M sn) (M 262 sn) d))]) qw_1132 qw_1130 qw_8 qw_1131 ⟨by decide, by decide, show (parseMethodDescriptor yX7_lesser.desc).map (fun d => d.parameters.length) = some 2 by decide +kernel⟩ ⟨by decide, by decide⟩ ⟨Nat.zero_le _, Nat.zero_le _⟩ (Nat.le_of_ble_eq_true rfl) dX7_look_160 rfl (fun r M' L' hp9 => ?_)
                    obtain ⟨rfl, rfl, rfl⟩ := hp9
                    refine at_istore C [(4, .int (sI (min (qsF (qlkF (qkdB M sn) (M 262 sn)) d) (qlkF (qkdB M sn) (M 262 sn) d)))), (3, .int (sI (qsB (qlkF (qkdB M sn) (M 262 sn)) d))), (0, .ref (G.1 (258))), (1, .int (sI ((sn : Int)))), (2, .int (sI ((((qkdB M sn) : Nat) : Int)))), (5, .int (sI ((d : Int)))), (6, .int (sI (mxc (fun a b => qlkP (qkdB M sn) (M 262 sn) d a b) 6 a))), (7, .int (sI ((a : Int))))] dX7_look_163 (by decide) rfl ?_
                    refine at_iinc C 5 [(5, .int (sI ((d : Int) + 1))), (4, .int (sI (min (qsF (qlkF (qkdB M sn) (M 262 sn)) d) (qlkF (qkdB M sn) (M 262 sn) d)))), (3, .int (sI (qsB (qlkF (qkdB M sn) (M 262 sn)) d))), (0, .ref (G.1 (258))), (1, .int (sI ((sn : Int)))), (2, .int (sI ((((qkdB M sn) : Nat) : Int)))), (6, .int (sI (mxc (fun a b => qlkP (qkdB M sn) (M 262 sn) d a b) 6 a))), (7, .int (sI ((a : Int))))] dX7_look_165 rfl (by decide) rfl ?_
                    refine at_goto C 29 dX7_look_168 (by decide) ?_
                    refine at_lv [3, 4, 5, 2, 1, 0] rfl ?_
                    exact at_eq (ih29 (d + 1) (by omega) (by omega) (Or.inl (by omega))) (lvc_s (lvc_s (lvc_s (lvc_i (by rw [qsB_n (by omega)]) (lvc_i (rfl) (lvc_i (by omega) rfl)))))) rfl (rfl) (rfl)
                  · refine at_iload C 5 dX7_look_149 rfl ?_
                    refine at_goto C 155 dX7_look_151 (by decide) ?_
                    refine at_istore_n C [(3, .int (sI ((d : Int)))), (0, .ref (G.1 (258))), (1, .int (sI ((sn : Int)))), (2, .int (sI ((((qkdB M sn) : Nat) : Int)))), (4, .int (sI (qsF (qlkF (qkdB M sn) (M 262 sn)) d))), (5, .int (sI ((d : Int)))), (6, .int (sI (mxc (fun a b => qlkP (qkdB M sn) (M 262 sn) d a b) 6 a))), (7, .int (sI ((a : Int))))] dX7_look_155 (by decide) rfl ?_
                    refine at_iload C 4 dX7_look_156 rfl ?_
                    refine at_iload C 6 dX7_look_158 rfl ?_
                    refine at_ve (b := qlkF (qkdB M sn) (M 262 sn) d) (hMF) ?_
                    refine at_stat_i C (c_X7_lesser l D G (qsF (qlkF (qkdB M sn) (M 262 sn)) d) (qlkF (qkdB M sn) (M 262 sn) d) ⟨by omega, by omega⟩ ⟨by omega, by omega⟩) (As := [.int (sI (qsF (qlkF (qkdB M sn) (M 262 sn)) d)), .int (sI (qlkF (qkdB M sn) (M 262 sn) d))]) qw_1132 qw_1130 qw_8 qw_1131 ⟨by decide, by decide, show (parseMethodDescriptor yX7_lesser.desc).map (fun d => d.parameters.length) = some 2 by decide +kernel⟩ ⟨by decide, by decide⟩ ⟨Nat.zero_le _, Nat.zero_le _⟩ (Nat.le_of_ble_eq_true rfl) dX7_look_160 rfl (fun r M' L' hp10 => ?_)
                    obtain ⟨rfl, rfl, rfl⟩ := hp10
                    refine at_istore C [(4, .int (sI (min (qsF (qlkF (qkdB M sn) (M 262 sn)) d) (qlkF (qkdB M sn) (M 262 sn) d)))), (3, .int (sI ((d : Int)))), (0, .ref (G.1 (258))), (1, .int (sI ((sn : Int)))), (2, .int (sI ((((qkdB M sn) : Nat) : Int)))), (5, .int (sI ((d : Int)))), (6, .int (sI (mxc (fun a b => qlkP (qkdB M sn) (M 262 sn) d a b) 6 a))), (7, .int (sI ((a : Int))))] dX7_look_163 (by decide) rfl ?_
                    refine at_iinc C 5 [(5, .int (sI ((d : Int) + 1))), (4, .int (sI (min (qsF (qlkF (qkdB M sn) (M 262 sn)) d) (qlkF (qkdB M sn) (M 262 sn) d)))), (3, .int (sI ((d : Int)))), (0, .ref (G.1 (258))), (1, .int (sI ((sn : Int)))), (2, .int (sI ((((qkdB M sn) : Nat) : Int)))), (6, .int (sI (mxc (fun a b => qlkP (qkdB M sn) (M 262 sn) d a b) 6 a))), (7, .int (sI ((a : Int))))] dX7_look_165 rfl (by decide) rfl ?_
                    refine at_goto C 29 dX7_look_168 (by decide) ?_
                    refine at_lv [3, 4, 5, 2, 1, 0] rfl ?_
                    exact at_eq (ih29 (d + 1) (by omega) (by omega) (Or.inl (by omega))) (lvc_s (lvc_s (lvc_s (lvc_i (by rw [qsB_y (by omega)]) (lvc_i (rfl) (lvc_i (by omega) rfl)))))) rfl (rfl) (rfl)
                · refine at_iconst C dX7_look_52 ?_
                  refine at_istore C [(8, .int (sI (0))), (0, .ref (G.1 (258))), (1, .int (sI ((sn : Int)))), (2, .int (sI ((((qkdB M sn) : Nat) : Int)))), (3, .int (sI (qsB (qlkF (qkdB M sn) (M 262 sn)) d))), (4, .int (sI (qsF (qlkF (qkdB M sn) (M 262 sn)) d))), (5, .int (sI ((d : Int)))), (6, .int (sI (mxc (fun a b => qlkP (qkdB M sn) (M 262 sn) d a b) 6 a))), (7, .int (sI ((a : Int))))] dX7_look_53 (by decide) rfl ?_
                  refine at_iconst C dX7_look_55 ?_
                  refine at_istore C [(9, .int (sI (0))), (8, .int (sI (0))), (0, .ref (G.1 (258))), (1, .int (sI ((sn : Int)))), (2, .int (sI ((((qkdB M sn) : Nat) : Int)))), (3, .int (sI (qsB (qlkF (qkdB M sn) (M 262 sn)) d))), (4, .int (sI (qsF (qlkF (qkdB M sn) (M 262 sn)) d))), (5, .int (sI ((d : Int)))), (6, .int (sI (mxc (fun a b => qlkP (qkdB M sn) (M 262 sn) d a b) 6 a))), (7, .int (sI ((a : Int))))] dX7_look_56 (by decide) rfl ?_
                  have H58 : ∀ (fu : Nat) (b : Nat), 6 - b < fu → (b ≤ 6) → sAt zp l ze (sRm 3 70) zs zm za zb zt zc D G 10 0 0 Q 58 [(0, .ref (G.1 (258))), (1, .int (sI ((sn : Int)))), (2, .int (sI ((((qkdB M sn) : Nat) : Int)))), (3, .int (sI (qsB (qlkF (qkdB M sn) (M 262 sn)) d))), (4, .int (sI (qsF (qlkF (qkdB M sn) (M 262 sn)) d))), (5, .int (sI ((d : Int)))), (6, .int (sI (mxc (fun a b => qlkP (qkdB M sn) (M 262 sn) d a b) 6 a))), (7, .int (sI ((a : Int)))), (8, .int (sI (cnt (fun b => qlkP (qkdB M sn) (M 262 sn) d a b) b))), (9, .int (sI ((b : Int))))] [] M L := by
                    intro fu
                    induction fu with
                    | zero => intro b hd hbn; exact absurd hd (Nat.not_lt_zero _)
                    | succ fu ih58 =>
                      intro b hd58 hbn
                      have hcr := cnt_r (fun b => qlkP (qkdB M sn) (M 262 sn) d a b) b
                      refine at_iload C 9 dX7_look_58 rfl ?_
                      refine at_iconst C dX7_look_60 ?_
                      refine at_icmp_gt C 127 dX7_look_61 (by decide) (⟨by omega, by omega⟩) (⟨by omega, by omega⟩) (fun h11 => ?_) (fun h11 => ?_)
                      · refine at_iload C 6 dX7_look_127 rfl ?_
                        refine at_iload C 8 dX7_look_129 rfl ?_
                        have hcr := cnt_r (fun b => qlkP (qkdB M sn) (M 262 sn) d a b) 6
                        refine at_ve (b := cnt (fun b => qlkP (qkdB M sn) (M 262 sn) d a b) 6) (by rw [show b = 6 by omega]) ?_
                        refine at_stat_i C (c_X7_greater l D G (mxc (fun a b => qlkP (qkdB M sn) (M 262 sn) d a b) 6 a) (cnt (fun b => qlkP (qkdB M sn) (M 262 sn) d a b) 6) ⟨by omega, by omega⟩ ⟨by omega, by omega⟩) (As := [.int (sI (mxc (fun a b => qlkP (qkdB M sn) (M 262 sn) d a b) 6 a)), .int (sI (cnt (fun b => qlkP (qkdB M sn) (M 262 sn) d a b) 6))]) qw_1166 qw_1164 qw_8 qw_1165 ⟨by decide, by decide, show (parseMethodDescriptor yX7_greater.desc).map (fun d => d.parameters.length) = some 2 by decide +kernel⟩ ⟨by decide, by decide⟩ ⟨Nat.zero_le _, Nat.zero_le _⟩ (Nat.le_of_ble_eq_true rfl) dX7_look_131 rfl (fun r M' L' hp12 => ?_)
                        obtain ⟨rfl, rfl, rfl⟩ := hp12
                        refine at_istore C [(6, .int (sI (max (mxc (fun a b => qlkP (qkdB M sn) (M 262 sn) d a b) 6 a) (cnt (fun b => qlkP (qkdB M sn) (M 262 sn) d a b) 6)))), (0, .ref (G.1 (258))), (1, .int (sI ((sn : Int)))), (2, .int (sI ((((qkdB M sn) : Nat) : Int)))), (3, .int (sI (qsB (qlkF (qkdB M sn) (M 262 sn)) d))), (4, .int (sI (qsF (qlkF (qkdB M sn) (M 262 sn)) d))), (5, .int (sI ((d : Int)))), (7, .int (sI ((a : Int)))), (8, .int (sI (cnt (fun b => qlkP (qkdB M sn) (M 262 sn) d a b) b))), (9, .int (sI ((b : Int))))] dX7_look_134 (by decide) rfl ?_
                        refine at_iinc C 7 [(7, .int (sI ((a : Int) + 1))), (6, .int (sI (max (mxc (fun a b => qlkP (qkdB M sn) (M 262 sn) d a b) 6 a) (cnt (fun b => qlkP (qkdB M sn) (M 262 sn) d a b) 6)))), (0, .ref (G.1 (258))), (1, .int (sI ((sn : Int)))), (2, .int (sI ((((qkdB M sn) : Nat) : Int)))), (3, .int (sI (qsB (qlkF (qkdB M sn) (M 262 sn)) d))), (4, .int (sI (qsF (qlkF (qkdB M sn) (M 262 sn)) d))), (5, .int (sI ((d : Int)))), (8, .int (sI (cnt (fun b => qlkP (qkdB M sn) (M 262 sn) d a b) b))), (9, .int (sI ((b : Int))))] dX7_look_136 rfl (by decide) rfl ?_
                        refine at_goto C 46 dX7_look_139 (by decide) ?_
                        refine at_lv [2, 3, 4, 5, 6, 7, 1, 0] rfl ?_
                        exact at_eq (ih46 (a + 1) (by omega) (by omega)) (lvc_s (lvc_s (lvc_s (lvc_s (lvc_s (lvc_s (lvc_i (rfl) (lvc_i (by omega) rfl)))))))) rfl (rfl) (rfl)
                      · refine at_iload C 8 dX7_look_64 rfl ?_
                        refine at_iload_n C 2 dX7_look_66 rfl ?_
                        refine at_iload C 7 dX7_look_67 rfl ?_
                        refine at_stat_i C (c_X7_has l D G (qkdB M sn) a (by omega) (by omega)) (As := [.int (sI ((((qkdB M sn) : Nat) : Int))), .int (sI ((a : Int)))]) qw_1267 qw_1265 qw_8 qw_1266 ⟨by decide, by decide, show (parseMethodDescriptor yX7_has.desc).map (fun d => d.parameters.length) = some 2 by decide +kernel⟩ ⟨by decide, by decide⟩ ⟨Nat.zero_le _, Nat.zero_le _⟩ (Nat.le_of_ble_eq_true rfl) dX7_look_69 rfl (fun r M' L' hp13 => ?_)
                        obtain ⟨rfl, rfl, rfl⟩ := hp13
                        refine at_if_eqB C 117 dX7_look_72 (by decide) (fun h14 => ?_) (fun h14 => ?_)
                        · refine at_iconst C dX7_look_117 ?_
                          refine at_iadd C dX7_look_118 ?_
                          refine at_istore C [(8, .int (sI ((cnt (fun b => qlkP (qkdB M sn) (M 262 sn) d a b) b) + 0))), (0, .ref (G.1 (258))), (1, .int (sI ((sn : Int)))), (2, .int (sI ((((qkdB M sn) : Nat) : Int)))), (3, .int (sI (qsB (qlkF (qkdB M sn) (M 262 sn)) d))), (4, .int (sI (qsF (qlkF (qkdB M sn) (M 262 sn)) d))), (5, .int (sI ((d : Int)))), (6, .int (sI (mxc (fun a b => qlkP (qkdB M sn) (M 262 sn) d a b) 6 a))), (7, .int (sI ((a : Int)))), (9, .int (sI ((b : Int))))] dX7_look_119 (by decide) rfl ?_
                          refine at_iinc C 9 [(9, .int (sI ((b : Int) + 1))), (8, .int (sI ((cnt (fun b => qlkP (qkdB M sn) (M 262 sn) d a b) b) + 0))), (0, .ref (G.1 (258))), (1, .int (sI ((sn : Int)))), (2, .int (sI ((((qkdB M sn) : Nat) : Int)))), (3, .int (sI (qsB (qlkF (qkdB M sn) (M 262 sn)) d))), (4, .int (sI (qsF (qlkF (qkdB M sn) (M 262 sn)) d))), (5, .int (sI ((d : Int)))), (6, .int (sI (mxc (fun a b => qlkP (qkdB M sn) (M 262 sn) d a b) 6 a))), (7, .int (sI ((a : Int))))] dX7_look_121 rfl (by decide) rfl ?_
                          refine at_goto C 58 dX7_look_124 (by decide) ?_
                          refine at_lv [2, 3, 4, 5, 6, 7, 8, 9, 1, 0] rfl ?_
                          exact at_eq (ih58 (b + 1) (by omega) (by omega)) (lvc_s (lvc_s (lvc_s (lvc_s (lvc_s (lvc_s (lvc_s (lvc_s (lvc_i (by rw [cnt_n (p := (fun b => qlkP (qkdB M sn) (M 262 sn) d a b)) (fun z => by first | exact absurd z.1 (by assumption) | exact absurd z.2.1 (by assumption) | exact absurd z.2.2 (by assumption)), Int.add_zero]) (lvc_i (by omega) rfl)))))))))) rfl (rfl) (rfl)
                        · refine at_iload_n C 2 dX7_look_75 rfl ?_
                          refine at_iload C 9 dX7_look_76 rfl ?_
                          refine at_stat_i C (c_X7_has l D G (qkdB M sn) b (by omega) (by omega)) (As := [.int (sI ((((qkdB M sn) : Nat) : Int))), .int (sI ((b : Int)))]) qw_1267 qw_1265 qw_8 qw_1266 ⟨by decide, by decide, show (parseMethodDescriptor yX7_has.desc).map (fun d => d.parameters.length) = some 2 by decide +kernel⟩ ⟨by decide, by decide⟩ ⟨Nat.zero_le _, Nat.zero_le _⟩ (Nat.le_of_ble_eq_true rfl) dX7_look_78 rfl (fun r M' L' hp15 => ?_)
                          obtain ⟨rfl, rfl, rfl⟩ := hp15
                          refine at_if_eqB C 117 dX7_look_81 (by decide) (fun h16 => ?_) (fun h16 => ?_)
                          · refine at_iconst C dX7_look_117 ?_
                            refine at_iadd C dX7_look_118 ?_
                            refine at_istore C [(8, .int (sI ((cnt (fun b => qlkP (qkdB M sn) (M 262 sn) d a b) b) + 0))), (0, .ref (G.1 (258))), (1, .int (sI ((sn : Int)))), (2, .int (sI ((((qkdB M sn) : Nat) : Int)))), (3, .int (sI (qsB (qlkF (qkdB M sn) (M 262 sn)) d))), (4, .int (sI (qsF (qlkF (qkdB M sn) (M 262 sn)) d))), (5, .int (sI ((d : Int)))), (6, .int (sI (mxc (fun a b => qlkP (qkdB M sn) (M 262 sn) d a b) 6 a))), (7, .int (sI ((a : Int)))), (9, .int (sI ((b : Int))))] dX7_look_119 (by decide) rfl ?_
                            refine at_iinc C 9 [(9, .int (sI ((b : Int) + 1))), (8, .int (sI ((cnt (fun b => qlkP (qkdB M sn) (M 262 sn) d a b) b) + 0))), (0, .ref (G.1 (258))), (1, .int (sI ((sn : Int)))), (2, .int (sI ((((qkdB M sn) : Nat) : Int)))), (3, .int (sI (qsB (qlkF (qkdB M sn) (M 262 sn)) d))), (4, .int (sI (qsF (qlkF (qkdB M sn) (M 262 sn)) d))), (5, .int (sI ((d : Int)))), (6, .int (sI (mxc (fun a b => qlkP (qkdB M sn) (M 262 sn) d a b) 6 a))), (7, .int (sI ((a : Int))))] dX7_look_121 rfl (by decide) rfl ?_
                            refine at_goto C 58 dX7_look_124 (by decide) ?_
                            refine at_lv [2, 3, 4, 5, 6, 7, 8, 9, 1, 0] rfl ?_
                            exact at_eq (ih58 (b + 1) (by omega) (by omega)) (lvc_s (lvc_s (lvc_s (lvc_s (lvc_s (lvc_s (lvc_s (lvc_s (lvc_i (by rw [cnt_n (p := (fun b => qlkP (qkdB M sn) (M 262 sn) d a b)) (fun z => by first | exact absurd z.1 (by assumption) | exact absurd z.2.1 (by assumption) | exact absurd z.2.2 (by assumption)), Int.add_zero]) (lvc_i (by omega) rfl)))))))))) rfl (rfl) (rfl)
                          · refine at_iload C 7 dX7_look_84 rfl ?_
                            refine at_aload_n C 0 dX7_look_86 rfl ?_
                            refine at_getf (v := .ref (G.1 (262))) C (obj_Ref G) (ci := 7) rfl inX7 (slot := 10) (by decide) qw_892 rfl rfl dX7_look_87 ?_
                            refine at_iload_n C 1 dX7_look_90 rfl ?_
                            refine at_iald C sn (ar_262 G) (rfl) (by omega) dX7_look_91 ?_
                            have hb17 : _ ≤ M 262 sn ∧ M 262 sn ≤ _ := tv hT (k := 262) (j := sn) rfl
                            refine at_iload C 5 dX7_look_92 rfl ?_
                            refine at_stat_i C (c_X7_weighsBy l D G (a : Int) (M 262 sn) (d : Int) ⟨by omega, by omega⟩ ⟨by omega, by omega⟩ ⟨by omega, by omega⟩) (As := [.int (sI ((a : Int))), .int (sI (M 262 sn)), .int (sI ((d : Int)))]) qw_1163 qw_1161 qw_8 qw_1162 ⟨by decide, by decide, show (parseMethodDescriptor yX7_weighsBy.desc).map (fun d => d.parameters.length) = some 3 by decide +kernel⟩ ⟨by decide, by decide⟩ ⟨Nat.zero_le _, Nat.zero_le _⟩ (Nat.le_of_ble_eq_true rfl) dX7_look_94 rfl (fun r M' L' hp19 => ?_)
                            obtain ⟨rfl, rfl, rfl⟩ := hp19
                            have hb18 := wgh_b (k := (a : Int)) (w := M 262 sn) (d := (d : Int)) (by omega) (by omega)
                            refine at_iload C 9 dX7_look_97 rfl ?_
                            refine at_aload_n C 0 dX7_look_99 rfl ?_
                            refine at_getf (v := .ref (G.1 (262))) C (obj_Ref G) (ci := 7) rfl inX7 (slot := 10) (by decide) qw_892 rfl rfl dX7_look_100 ?_
                            refine at_iload_n C 1 dX7_look_103 rfl ?_
                            refine at_iald C sn (ar_262 G) (rfl) (by omega) dX7_look_104 ?_
                            have hb20 : _ ≤ M 262 sn ∧ M 262 sn ≤ _ := tv hT (k := 262) (j := sn) rfl
                            refine at_iload C 5 dX7_look_105 rfl ?_
                            refine at_stat_i C (c_X7_weighsBy l D G (b : Int) (M 262 sn) (d : Int) ⟨by omega, by omega⟩ ⟨by omega, by omega⟩ ⟨by omega, by omega⟩) (As := [.int (sI ((b : Int))), .int (sI (M 262 sn)), .int (sI ((d : Int)))]) qw_1163 qw_1161 qw_8 qw_1162 ⟨by decide, by decide, show (parseMethodDescriptor yX7_weighsBy.desc).map (fun d => d.parameters.length) = some 3 by decide +kernel⟩ ⟨by decide, by decide⟩ ⟨Nat.zero_le _, Nat.zero_le _⟩ (Nat.le_of_ble_eq_true rfl) dX7_look_107 rfl (fun r M' L' hp22 => ?_)
                            obtain ⟨rfl, rfl, rfl⟩ := hp22
                            have hb21 := wgh_b (k := (b : Int)) (w := M 262 sn) (d := (d : Int)) (by omega) (by omega)
                            refine at_icmp_ne C 117 dX7_look_110 (by decide) (⟨by omega, by omega⟩) (⟨by omega, by omega⟩) (fun h23 => ?_) (fun h23 => ?_)
                            · refine at_iconst C dX7_look_117 ?_
                              refine at_iadd C dX7_look_118 ?_
                              refine at_istore C [(8, .int (sI ((cnt (fun b => qlkP (qkdB M sn) (M 262 sn) d a b) b) + 0))), (0, .ref (G.1 (258))), (1, .int (sI ((sn : Int)))), (2, .int (sI ((((qkdB M sn) : Nat) : Int)))), (3, .int (sI (qsB (qlkF (qkdB M sn) (M 262 sn)) d))), (4, .int (sI (qsF (qlkF (qkdB M sn) (M 262 sn)) d))), (5, .int (sI ((d : Int)))), (6, .int (sI (mxc (fun a b => qlkP (qkdB M sn) (M 262 sn) d a b) 6 a))), (7, .int (sI ((a : Int)))), (9, .int (sI ((b : Int))))] dX7_look_119 (by decide) rfl ?_
                              refine at_iinc C 9 [(9, .int (sI ((b : Int) + 1))), (8, .int (sI ((cnt (fun b => qlkP (qkdB M sn) (M 262 sn) d a b) b) + 0))), (0, .ref (G.1 (258))), (1, .int (sI ((sn : Int)))), (2, .int (sI ((((qkdB M sn) : Nat) : Int)))), (3, .int (sI (qsB (qlkF (qkdB M sn) (M 262 sn)) d))), (4, .int (sI (qsF (qlkF (qkdB M sn) (M 262 sn)) d))), (5, .int (sI ((d : Int)))), (6, .int (sI (mxc (fun a b => qlkP (qkdB M sn) (M 262 sn) d a b) 6 a))), (7, .int (sI ((a : Int))))] dX7_look_121 rfl (by decide) rfl ?_
                              refine at_goto C 58 dX7_look_124 (by decide) ?_
                              refine at_lv [2, 3, 4, 5, 6, 7, 8, 9, 1, 0] rfl ?_
                              exact at_eq (ih58 (b + 1) (by omega) (by omega)) (lvc_s (lvc_s (lvc_s (lvc_s (lvc_s (lvc_s (lvc_s (lvc_s (lvc_i (by rw [cnt_n (p := (fun b => qlkP (qkdB M sn) (M 262 sn) d a b)) (fun z => by first | exact absurd z.1 (by assumption) | exact absurd z.2.1 (by assumption) | exact absurd z.2.2 (by assumption)), Int.add_zero]) (lvc_i (by omega) rfl)))))))))) rfl (rfl) (rfl)
                            · refine at_iconst C dX7_look_113 ?_
                              refine at_goto C 118 dX7_look_114 (by decide) ?_
                              refine at_iadd C dX7_look_118 ?_
                              refine at_istore C [(8, .int (sI ((cnt (fun b => qlkP (qkdB M sn) (M 262 sn) d a b) b) + 1))), (0, .ref (G.1 (258))), (1, .int (sI ((sn : Int)))), (2, .int (sI ((((qkdB M sn) : Nat) : Int)))), (3, .int (sI (qsB (qlkF (qkdB M sn) (M 262 sn)) d))), (4, .int (sI (qsF (qlkF (qkdB M sn) (M 262 sn)) d))), (5, .int (sI ((d : Int)))), (6, .int (sI (mxc (fun a b => qlkP (qkdB M sn) (M 262 sn) d a b) 6 a))), (7, .int (sI ((a : Int)))), (9, .int (sI ((b : Int))))] dX7_look_119 (by decide) rfl ?_
                              refine at_iinc C 9 [(9, .int (sI ((b : Int) + 1))), (8, .int (sI ((cnt (fun b => qlkP (qkdB M sn) (M 262 sn) d a b) b) + 1))), (0, .ref (G.1 (258))), (1, .int (sI ((sn : Int)))), (2, .int (sI ((((qkdB M sn) : Nat) : Int)))), (3, .int (sI (qsB (qlkF (qkdB M sn) (M 262 sn)) d))), (4, .int (sI (qsF (qlkF (qkdB M sn) (M 262 sn)) d))), (5, .int (sI ((d : Int)))), (6, .int (sI (mxc (fun a b => qlkP (qkdB M sn) (M 262 sn) d a b) 6 a))), (7, .int (sI ((a : Int))))] dX7_look_121 rfl (by decide) rfl ?_
                              refine at_goto C 58 dX7_look_124 (by decide) ?_
                              refine at_lv [2, 3, 4, 5, 6, 7, 8, 9, 1, 0] rfl ?_
                              exact at_eq (ih58 (b + 1) (by omega) (by omega)) (lvc_s (lvc_s (lvc_s (lvc_s (lvc_s (lvc_s (lvc_s (lvc_s (lvc_i (by rw [cnt_y (p := (fun b => qlkP (qkdB M sn) (M 262 sn) d a b)) ⟨by assumption, by assumption, by assumption⟩]) (lvc_i (by omega) rfl)))))))))) rfl (rfl) (rfl)
                  refine at_lv [2, 3, 4, 5, 6, 7, 8, 9, 1, 0] rfl ?_
                  exact at_eq (H58 _ 0 (Nat.lt_succ_self _) (by omega)) (lvc_s (lvc_s (lvc_s (lvc_s (lvc_s (lvc_s (lvc_s (lvc_s (lvc_i (rfl) (lvc_i (rfl) rfl)))))))))) rfl (rfl) (rfl)
            refine at_lv [2, 3, 4, 5, 6, 7, 1, 0] rfl ?_
            exact at_eq (H46 _ 0 (Nat.lt_succ_self _) (by omega)) (lvc_s (lvc_s (lvc_s (lvc_s (lvc_s (lvc_s (lvc_i (rfl) (lvc_i (rfl) rfl)))))))) rfl (rfl) (rfl)
    refine at_lv [4, 5, 3, 2, 1, 0] rfl ?_
    exact at_eq (H29 _ 0 (Nat.lt_succ_self _) (by omega) (Or.inr rfl)) (lvc_s (lvc_s (lvc_s (lvc_i (rfl) (lvc_i (rfl) (lvc_i (rfl) rfl)))))) rfl (rfl) (rfl)
  · refine at_aload_n C 0 dX7_look_8 rfl ?_
    refine at_call_i C (c_X7_bad l D G hT ⟨by omega, by omega, by omega⟩) (As := []) (obj_Ref G) (ci := 7) rfl qw_1012 qw_1009 qw_8 qw_1011 qp_34 ⟨by decide, by decide, show (parseMethodDescriptor yX7_bad.desc).map (fun d => d.parameters.length) = some 0 by decide +kernel⟩ ⟨by decide, by decide⟩ ⟨Nat.zero_le _, Nat.zero_le _⟩ (Nat.le_of_ble_eq_true rfl) dX7_look_9 rfl (fun r M' L' hp25 => ?_)
    obtain ⟨rfl, rfl, hT24, rfl⟩ := hp25
    exact hret _ _ _ _ _ dX7_look_12 (⟨congrArg sI (if_neg (by first | omega | (simp only [Int.toNat_natCast]; omega))).symm, (if_neg (by omega)).symm, hT24, rfl⟩)

set_option maxHeartbeats 4000000 in
set_option maxRecDepth 100000 in
theorem c_X7_ask (l : Launch) (D : va_G) (G : sG) {M : sM} {L : sL} (i : Int) (hir : InR i) (hT : TInv M) (hc : qCt M) : sKi l D G yX7_ask cX7_ask 10 .int 3 70 [.ref (G.1 (258)), .int (sI (i))] M L (fun r M' L' => r = sI (qrAsk M i) ∧ M' = qB M (isQC M i) ∧ TInv M' ∧ L = L') := by
  refine sKi_go (by decide) (Nat.le_of_ble_eq_true rfl) ?_
  intro zp ze zs zm za zb zt zc Q C hret
  refine at_eq (lv' := [(0, .ref (G.1 (258))), (1, .int (sI (i)))]) (st' := []) (M' := M) (L' := L) ?_ rfl rfl rfl rfl
  have hqn := qn_r hT
  have hqc := qc_r hT
  have hqu := qu_r hT
  have hqt := qt_r hT
  have hqs := qs_r hT
  have hqo := qo_r hT
  have hqm := qm_r hT
  refine at_aload_n C 0 dX7_ask_0 rfl ?_
  refine at_iload_n C 1 dX7_ask_1 rfl ?_
  refine at_call_i C (c_X7_isCaller l D G i ⟨by omega, by omega⟩ hT) (As := [.int (sI (i))]) (obj_Ref G) (ci := 7) rfl qw_1224 qw_1221 qw_8 qw_1223 qp_73 ⟨by decide, by decide, show (parseMethodDescriptor yX7_isCaller.desc).map (fun d => d.parameters.length) = some 1 by decide +kernel⟩ ⟨by decide, by decide⟩ ⟨Nat.zero_le _, Nat.zero_le _⟩ (Nat.le_of_ble_eq_true rfl) dX7_ask_2 rfl (fun r M' L' hp1 => ?_)
  obtain ⟨rfl, rfl, rfl⟩ := hp1
  refine at_if_neB C 13 dX7_ask_5 (by decide) (fun h2 => ?_) (fun h2 => ?_)
  · obtain ⟨n, rfl⟩ : ∃ n : Nat, i = (n : Int) := ⟨i.toNat, by omega⟩
    have hic : n < 6 := by omega
    refine at_aload_n C 0 dX7_ask_13 rfl ?_
    refine at_iload_n C 1 dX7_ask_14 rfl ?_
    refine at_call_i C (c_X7_callerKinds l D G n (by omega) hT) (As := [.int (sI ((n : Int)))]) (obj_Ref G) (ci := 7) rfl qw_1356 qw_1353 qw_8 qw_1355 qp_86 ⟨by decide, by decide, show (parseMethodDescriptor yX7_callerKinds.desc).map (fun d => d.parameters.length) = some 1 by decide +kernel⟩ ⟨by decide, by decide⟩ ⟨Nat.zero_le _, Nat.zero_le _⟩ (Nat.le_of_ble_eq_true rfl) dX7_ask_15 rfl (fun r M' L' hp4 => ?_)
    obtain ⟨rfl, rfl, rfl⟩ := hp4
    have hb3 := qkfB_lt M n
    refine at_istore_n C [(2, .int (sI ((((qkfB M n) : Nat) : Int)))), (0, .ref (G.1 (258))), (1, .int (sI ((n : Int))))] dX7_ask_18 (by decide) rfl ?_
    refine at_iconst C dX7_ask_19 ?_
    refine at_istore_n C [(3, .int (sI (-1))), (2, .int (sI ((((qkfB M n) : Nat) : Int)))), (0, .ref (G.1 (258))), (1, .int (sI ((n : Int))))] dX7_ask_20 (by decide) rfl ?_
    refine at_ldcw (n := 1048576) C qw_1328 dX7_ask_21 (by decide +kernel) ?_
    refine at_istore C [(4, .int (sI (1048576))), (3, .int (sI (-1))), (2, .int (sI ((((qkfB M n) : Nat) : Int)))), (0, .ref (G.1 (258))), (1, .int (sI ((n : Int))))] dX7_ask_24 (by decide) rfl ?_
    refine at_iconst C dX7_ask_26 ?_
    refine at_istore C [(5, .int (sI (0))), (4, .int (sI (1048576))), (3, .int (sI (-1))), (2, .int (sI ((((qkfB M n) : Nat) : Int)))), (0, .ref (G.1 (258))), (1, .int (sI ((n : Int))))] dX7_ask_27 (by decide) rfl ?_
    have H29 : ∀ (fu : Nat) (x : Nat), 31 - x < fu → (x ≤ 31) → (qkfB M n ≠ 0 ∨ x = 0) → sAt zp l ze (sRm 3 70) zs zm za zb zt zc D G 10 0 0 Q 29 [(0, .ref (G.1 (258))), (1, .int (sI ((n : Int)))), (2, .int (sI ((((qkfB M n) : Nat) : Int)))), (3, .int (sI (qsB (qakF (qkfB M n)) x))), (4, .int (sI (qsF (qakF (qkfB M n)) x))), (5, .int (sI ((x : Int))))] [] M L := by
      intro fu
      induction fu with
      | zero => intro x hd hk hz; exact absurd hd (Nat.not_lt_zero _)
      | succ fu ih29 =>
        intro x hd29 hk hz
        have hfr := qakF_r (qkfB M n)
        have hF := qsF_r (f := qakF (qkfB M n)) (fun n => (hfr n).1) x
        have hB := qsB_r (qakF (qkfB M n)) x
        refine at_iload C 5 dX7_ask_29 rfl ?_
        refine at_bipush C dX7_ask_31 (by decide) (by decide) ?_
        refine at_icmp_gt C 159 dX7_ask_33 (by decide) (⟨by omega, by omega⟩) (⟨by omega, by omega⟩) (fun h5 => ?_) (fun h5 => ?_)
        · refine at_iload_n C 3 dX7_ask_159 rfl ?_
          exact hret _ _ _ _ _ dX7_ask_160 (⟨congrArg sI (by unfold qrAsk; rw [if_pos (by omega), Int.toNat_natCast]; first | (rw [qsA_n (by omega), show x = 31 by omega]) | (rw [qsA_y (by omega), show x = 0 by omega]; rfl)), (if_pos (by omega)).symm, hT, rfl⟩)
        · refine at_iload_n C 2 dX7_ask_36 rfl ?_
          refine at_if_eq C 159 dX7_ask_37 (by decide) (⟨by omega, by omega⟩) (fun h6 => ?_) (fun h6 => ?_)
          · refine at_iload_n C 3 dX7_ask_159 rfl ?_
            exact hret _ _ _ _ _ dX7_ask_160 (⟨congrArg sI (by unfold qrAsk; rw [if_pos (by omega), Int.toNat_natCast]; first | (rw [qsA_n (by omega), show x = 31 by omega]) | (rw [qsA_y (by omega), show x = 0 by omega]; rfl)), (if_pos (by omega)).symm, hT, rfl⟩)
          · refine at_iconst C dX7_ask_40 ?_
            refine at_istore C [(6, .int (sI (0))), (0, .ref (G.1 (258))), (1, .int (sI ((n : Int)))), (2, .int (sI ((((qkfB M n) : Nat) : Int)))), (3, .int (sI (qsB (qakF (qkfB M n)) x))), (4, .int (sI (qsF (qakF (qkfB M n)) x))), (5, .int (sI ((x : Int))))] dX7_ask_41 (by decide) rfl ?_
            refine at_iconst C dX7_ask_43 ?_
            refine at_istore C [(7, .int (sI (0))), (6, .int (sI (0))), (0, .ref (G.1 (258))), (1, .int (sI ((n : Int)))), (2, .int (sI ((((qkfB M n) : Nat) : Int)))), (3, .int (sI (qsB (qakF (qkfB M n)) x))), (4, .int (sI (qsF (qakF (qkfB M n)) x))), (5, .int (sI ((x : Int))))] dX7_ask_44 (by decide) rfl ?_
            have H46 : ∀ (fu : Nat) (a : Nat), 6 - a < fu → (a ≤ 6) → sAt zp l ze (sRm 3 70) zs zm za zb zt zc D G 10 0 0 Q 46 [(0, .ref (G.1 (258))), (1, .int (sI ((n : Int)))), (2, .int (sI ((((qkfB M n) : Nat) : Int)))), (3, .int (sI (qsB (qakF (qkfB M n)) x))), (4, .int (sI (qsF (qakF (qkfB M n)) x))), (5, .int (sI ((x : Int)))), (6, .int (sI (mxc (fun a b => qakP (qkfB M n) x a b) 6 a))), (7, .int (sI ((a : Int))))] [] M L := by
              intro fu
              induction fu with
              | zero => intro a hd ha; exact absurd hd (Nat.not_lt_zero _)
              | succ fu ih46 =>
                intro a hd46 ha
                have hm := mxc_r (fun a b => qakP (qkfB M n) x a b) 6 a
                refine at_iload C 7 dX7_ask_46 rfl ?_
                refine at_iconst C dX7_ask_48 ?_
                refine at_icmp_gt C 130 dX7_ask_49 (by decide) (⟨by omega, by omega⟩) (⟨by omega, by omega⟩) (fun h7 => ?_) (fun h7 => ?_)
                · have hMF : mxc (fun a b => qakP (qkfB M n) x a b) 6 a = qakF (qkfB M n) x := by unfold qakF; rw [show a = 6 by omega]
                  refine at_iload C 6 dX7_ask_130 rfl ?_
                  refine at_ve (b := qakF (qkfB M n) x) (hMF) ?_
                  refine at_iload C 4 dX7_ask_132 rfl ?_
                  refine at_icmp_ge C 142 dX7_ask_134 (by decide) (⟨by omega, by omega⟩) (⟨by omega, by omega⟩) (fun h8 => ?_) (fun h8 => ?_)
                  · refine at_iload_n C 3 dX7_ask_142 rfl ?_
                    refine at_istore_n C [(3, .int (sI (qsB (qakF (qkfB M n)) x))), (0, .ref (G.1 (258))), (1, .int (sI ((n : Int)))), (2, .int (sI ((((qkfB M n) : Nat) : Int)))), (4, .int (sI (qsF (qakF (qkfB M n)) x))), (5, .int (sI ((x : Int)))), (6, .int (sI (mxc (fun a b => qakP (qkfB M n) x a b) 6 a))), (7, .int (sI ((a : Int))))] dX7_ask_143 (by decide) rfl ?_
                    refine at_iload C 4 dX7_ask_144 rfl ?_
                    refine at_iload C 6 dX7_ask_146 rfl ?_
                    refine at_ve (b := qakF (qkfB M n) x) (hMF) ?_
                    refine at_stat_i C (c_X7_lesser l D G (qsF (qakF (qkfB M n)) x) (qakF (qkfB M n) x) ⟨by omega, by omega⟩ ⟨by omega, by omega⟩) (As := [.int (sI (qsF (qakF (qkfB M n)) x)), .int (sI (qakF (qkfB M n) x))]) qw_1132 qw_1130 qw_8 qw_1131 ⟨by decide, by decide, show (parseMethodDescriptor yX7_lesser.desc).map (fun d => d.parameters.length) = some 2 by decide +kernel⟩ ⟨by decide, by decide⟩ ⟨Nat.zero_le _, Nat.zero_le _⟩ (Nat.le_of_ble_eq_true rfl) dX7_ask_148 rfl (fun r M' L' hp9 => ?_)
                    obtain ⟨rfl, rfl, rfl⟩ := hp9
                    refine at_istore C [(4, .int (sI (min (qsF (qakF (qkfB M n)) x) (qakF (qkfB M n) x)))), (3, .int (sI (qsB (qakF (qkfB M n)) x))), (0, .ref (G.1 (258))), (1, .int (sI ((n : Int)))), (2, .int (sI ((((qkfB M n) : Nat) : Int)))), (5, .int (sI ((x : Int)))), (6, .int (sI (mxc (fun a b => qakP (qkfB M n) x a b) 6 a))), (7, .int (sI ((a : Int))))] dX7_ask_151 (by decide) rfl ?_
                    refine at_iinc C 5 [(5, .int (sI ((x : Int) + 1))), (4, .int (sI (min (qsF (qakF (qkfB M n)) x) (qakF (qkfB M n) x)))), (3, .int (sI (qsB (qakF (qkfB M n)) x))), (0, .ref (G.1 (258))), (1, .int (sI ((n : Int)))), (2, .int (sI ((((qkfB M n) : Nat) : Int)))), (6, .int (sI (mxc (fun a b => qakP (qkfB M n) x a b) 6 a))), (7, .int (sI ((a : Int))))] dX7_ask_153 rfl (by decide) rfl ?_
                    refine at_goto C 29 dX7_ask_156 (by decide) ?_
                    refine at_lv [3, 4, 5, 2, 1, 0] rfl ?_
                    exact at_eq (ih29 (x + 1) (by omega) (by omega) (Or.inl (by omega))) (lvc_s (lvc_s (lvc_s (lvc_i (by rw [qsB_n (by omega)]) (lvc_i (rfl) (lvc_i (by omega) rfl)))))) rfl (rfl) (rfl)
                  · refine at_iload C 5 dX7_ask_137 rfl ?_
                    refine at_goto C 143 dX7_ask_139 (by decide) ?_
                    refine at_istore_n C [(3, .int (sI ((x : Int)))), (0, .ref (G.1 (258))), (1, .int (sI ((n : Int)))), (2, .int (sI ((((qkfB M n) : Nat) : Int)))), (4, .int (sI (qsF (qakF (qkfB M n)) x))), (5, .int (sI ((x : Int)))), (6, .int (sI (mxc (fun a b => qakP (qkfB M n) x a b) 6 a))), (7, .int (sI ((a : Int))))] dX7_ask_143 (by decide) rfl ?_
                    refine at_iload C 4 dX7_ask_144 rfl ?_
                    refine at_iload C 6 dX7_ask_146 rfl ?_
                    refine at_ve (b := qakF (qkfB M n) x) (hMF) ?_
                    refine at_stat_i C (c_X7_lesser l D G (qsF (qakF (qkfB M n)) x) (qakF (qkfB M n) x) ⟨by omega, by omega⟩ ⟨by omega, by omega⟩) (As := [.int (sI (qsF (qakF (qkfB M n)) x)), .int (sI (qakF (qkfB M n) x))]) qw_1132 qw_1130 qw_8 qw_1131 ⟨by decide, by decide, show (parseMethodDescriptor yX7_lesser.desc).map (fun d => d.parameters.length) = some 2 by decide +kernel⟩ ⟨by decide, by decide⟩ ⟨Nat.zero_le _, Nat.zero_le _⟩ (Nat.le_of_ble_eq_true rfl) dX7_ask_148 rfl (fun r M' L' hp10 => ?_)
                    obtain ⟨rfl, rfl, rfl⟩ := hp10
                    refine at_istore C [(4, .int (sI (min (qsF (qakF (qkfB M n)) x) (qakF (qkfB M n) x)))), (3, .int (sI ((x : Int)))), (0, .ref (G.1 (258))), (1, .int (sI ((n : Int)))), (2, .int (sI ((((qkfB M n) : Nat) : Int)))), (5, .int (sI ((x : Int)))), (6, .int (sI (mxc (fun a b => qakP (qkfB M n) x a b) 6 a))), (7, .int (sI ((a : Int))))] dX7_ask_151 (by decide) rfl ?_
                    refine at_iinc C 5 [(5, .int (sI ((x : Int) + 1))), (4, .int (sI (min (qsF (qakF (qkfB M n)) x) (qakF (qkfB M n) x)))), (3, .int (sI ((x : Int)))), (0, .ref (G.1 (258))), (1, .int (sI ((n : Int)))), (2, .int (sI ((((qkfB M n) : Nat) : Int)))), (6, .int (sI (mxc (fun a b => qakP (qkfB M n) x a b) 6 a))), (7, .int (sI ((a : Int))))] dX7_ask_153 rfl (by decide) rfl ?_
                    refine at_goto C 29 dX7_ask_156 (by decide) ?_
                    refine at_lv [3, 4, 5, 2, 1, 0] rfl ?_
                    exact at_eq (ih29 (x + 1) (by omega) (by omega) (Or.inl (by omega))) (lvc_s (lvc_s (lvc_s (lvc_i (by rw [qsB_y (by omega)]) (lvc_i (rfl) (lvc_i (by omega) rfl)))))) rfl (rfl) (rfl)
                · refine at_iconst C dX7_ask_52 ?_
                  refine at_istore C [(8, .int (sI (0))), (0, .ref (G.1 (258))), (1, .int (sI ((n : Int)))), (2, .int (sI ((((qkfB M n) : Nat) : Int)))), (3, .int (sI (qsB (qakF (qkfB M n)) x))), (4, .int (sI (qsF (qakF (qkfB M n)) x))), (5, .int (sI ((x : Int)))), (6, .int (sI (mxc (fun a b => qakP (qkfB M n) x a b) 6 a))), (7, .int (sI ((a : Int))))] dX7_ask_53 (by decide) rfl ?_
                  refine at_iconst C dX7_ask_55 ?_
                  refine at_istore C [(9, .int (sI (0))), (8, .int (sI (0))), (0, .ref (G.1 (258))), (1, .int (sI ((n : Int)))), (2, .int (sI ((((qkfB M n) : Nat) : Int)))), (3, .int (sI (qsB (qakF (qkfB M n)) x))), (4, .int (sI (qsF (qakF (qkfB M n)) x))), (5, .int (sI ((x : Int)))), (6, .int (sI (mxc (fun a b => qakP (qkfB M n) x a b) 6 a))), (7, .int (sI ((a : Int))))] dX7_ask_56 (by decide) rfl ?_
                  have H58 : ∀ (fu : Nat) (b : Nat), 6 - b < fu → (b ≤ 6) → sAt zp l ze (sRm 3 70) zs zm za zb zt zc D G 10 0 0 Q 58 [(0, .ref (G.1 (258))), (1, .int (sI ((n : Int)))), (2, .int (sI ((((qkfB M n) : Nat) : Int)))), (3, .int (sI (qsB (qakF (qkfB M n)) x))), (4, .int (sI (qsF (qakF (qkfB M n)) x))), (5, .int (sI ((x : Int)))), (6, .int (sI (mxc (fun a b => qakP (qkfB M n) x a b) 6 a))), (7, .int (sI ((a : Int)))), (8, .int (sI (cnt (fun b => qakP (qkfB M n) x a b) b))), (9, .int (sI ((b : Int))))] [] M L := by
                    intro fu
                    induction fu with
                    | zero => intro b hd hbn; exact absurd hd (Nat.not_lt_zero _)
                    | succ fu ih58 =>
                      intro b hd58 hbn
                      have hcr := cnt_r (fun b => qakP (qkfB M n) x a b) b
                      refine at_iload C 9 dX7_ask_58 rfl ?_
                      refine at_iconst C dX7_ask_60 ?_
                      refine at_icmp_gt C 115 dX7_ask_61 (by decide) (⟨by omega, by omega⟩) (⟨by omega, by omega⟩) (fun h11 => ?_) (fun h11 => ?_)
                      · refine at_iload C 6 dX7_ask_115 rfl ?_
                        refine at_iload C 8 dX7_ask_117 rfl ?_
                        have hcr := cnt_r (fun b => qakP (qkfB M n) x a b) 6
                        refine at_ve (b := cnt (fun b => qakP (qkfB M n) x a b) 6) (by rw [show b = 6 by omega]) ?_
                        refine at_stat_i C (c_X7_greater l D G (mxc (fun a b => qakP (qkfB M n) x a b) 6 a) (cnt (fun b => qakP (qkfB M n) x a b) 6) ⟨by omega, by omega⟩ ⟨by omega, by omega⟩) (As := [.int (sI (mxc (fun a b => qakP (qkfB M n) x a b) 6 a)), .int (sI (cnt (fun b => qakP (qkfB M n) x a b) 6))]) qw_1166 qw_1164 qw_8 qw_1165 ⟨by decide, by decide, show (parseMethodDescriptor yX7_greater.desc).map (fun d => d.parameters.length) = some 2 by decide +kernel⟩ ⟨by decide, by decide⟩ ⟨Nat.zero_le _, Nat.zero_le _⟩ (Nat.le_of_ble_eq_true rfl) dX7_ask_119 rfl (fun r M' L' hp12 => ?_)
                        obtain ⟨rfl, rfl, rfl⟩ := hp12
                        refine at_istore C [(6, .int (sI (max (mxc (fun a b => qakP (qkfB M n) x a b) 6 a) (cnt (fun b => qakP (qkfB M n) x a b) 6)))), (0, .ref (G.1 (258))), (1, .int (sI ((n : Int)))), (2, .int (sI ((((qkfB M n) : Nat) : Int)))), (3, .int (sI (qsB (qakF (qkfB M n)) x))), (4, .int (sI (qsF (qakF (qkfB M n)) x))), (5, .int (sI ((x : Int)))), (7, .int (sI ((a : Int)))), (8, .int (sI (cnt (fun b => qakP (qkfB M n) x a b) b))), (9, .int (sI ((b : Int))))] dX7_ask_122 (by decide) rfl ?_
                        refine at_iinc C 7 [(7, .int (sI ((a : Int) + 1))), (6, .int (sI (max (mxc (fun a b => qakP (qkfB M n) x a b) 6 a) (cnt (fun b => qakP (qkfB M n) x a b) 6)))), (0, .ref (G.1 (258))), (1, .int (sI ((n : Int)))), (2, .int (sI ((((qkfB M n) : Nat) : Int)))), (3, .int (sI (qsB (qakF (qkfB M n)) x))), (4, .int (sI (qsF (qakF (qkfB M n)) x))), (5, .int (sI ((x : Int)))), (8, .int (sI (cnt (fun b => qakP (qkfB M n) x a b) b))), (9, .int (sI ((b : Int))))] dX7_ask_124 rfl (by decide) rfl ?_
                        refine at_goto C 46 dX7_ask_127 (by decide) ?_
                        refine at_lv [2, 3, 4, 5, 6, 7, 1, 0] rfl ?_
                        exact at_eq (ih46 (a + 1) (by omega) (by omega)) (lvc_s (lvc_s (lvc_s (lvc_s (lvc_s (lvc_s (lvc_i (rfl) (lvc_i (by omega) rfl)))))))) rfl (rfl) (rfl)
                      · refine at_iload C 8 dX7_ask_64 rfl ?_
                        refine at_iload_n C 2 dX7_ask_66 rfl ?_
                        refine at_iload C 7 dX7_ask_67 rfl ?_
                        refine at_stat_i C (c_X7_has l D G (qkfB M n) a (by omega) (by omega)) (As := [.int (sI ((((qkfB M n) : Nat) : Int))), .int (sI ((a : Int)))]) qw_1267 qw_1265 qw_8 qw_1266 ⟨by decide, by decide, show (parseMethodDescriptor yX7_has.desc).map (fun d => d.parameters.length) = some 2 by decide +kernel⟩ ⟨by decide, by decide⟩ ⟨Nat.zero_le _, Nat.zero_le _⟩ (Nat.le_of_ble_eq_true rfl) dX7_ask_69 rfl (fun r M' L' hp13 => ?_)
                        obtain ⟨rfl, rfl, rfl⟩ := hp13
                        refine at_if_eqB C 105 dX7_ask_72 (by decide) (fun h14 => ?_) (fun h14 => ?_)
                        · refine at_iconst C dX7_ask_105 ?_
                          refine at_iadd C dX7_ask_106 ?_
                          refine at_istore C [(8, .int (sI ((cnt (fun b => qakP (qkfB M n) x a b) b) + 0))), (0, .ref (G.1 (258))), (1, .int (sI ((n : Int)))), (2, .int (sI ((((qkfB M n) : Nat) : Int)))), (3, .int (sI (qsB (qakF (qkfB M n)) x))), (4, .int (sI (qsF (qakF (qkfB M n)) x))), (5, .int (sI ((x : Int)))), (6, .int (sI (mxc (fun a b => qakP (qkfB M n) x a b) 6 a))), (7, .int (sI ((a : Int)))), (9, .int (sI ((b : Int))))] dX7_ask_107 (by decide) rfl ?_
                          refine at_iinc C 9 [(9, .int (sI ((b : Int) + 1))), (8, .int (sI ((cnt (fun b => qakP (qkfB M n) x a b) b) + 0))), (0, .ref (G.1 (258))), (1, .int (sI ((n : Int)))), (2, .int (sI ((((qkfB M n) : Nat) : Int)))), (3, .int (sI (qsB (qakF (qkfB M n)) x))), (4, .int (sI (qsF (qakF (qkfB M n)) x))), (5, .int (sI ((x : Int)))), (6, .int (sI (mxc (fun a b => qakP (qkfB M n) x a b) 6 a))), (7, .int (sI ((a : Int))))] dX7_ask_109 rfl (by decide) rfl ?_
                          refine at_goto C 58 dX7_ask_112 (by decide) ?_
                          refine at_lv [2, 3, 4, 5, 6, 7, 8, 9, 1, 0] rfl ?_
                          exact at_eq (ih58 (b + 1) (by omega) (by omega)) (lvc_s (lvc_s (lvc_s (lvc_s (lvc_s (lvc_s (lvc_s (lvc_s (lvc_i (by rw [cnt_n (p := (fun b => qakP (qkfB M n) x a b)) (fun z => by first | exact absurd z.1 (by assumption) | exact absurd z.2.1 (by assumption) | exact absurd z.2.2 (by assumption)), Int.add_zero]) (lvc_i (by omega) rfl)))))))))) rfl (rfl) (rfl)
                        · refine at_iload_n C 2 dX7_ask_75 rfl ?_
                          refine at_iload C 9 dX7_ask_76 rfl ?_
                          refine at_stat_i C (c_X7_has l D G (qkfB M n) b (by omega) (by omega)) (As := [.int (sI ((((qkfB M n) : Nat) : Int))), .int (sI ((b : Int)))]) qw_1267 qw_1265 qw_8 qw_1266 ⟨by decide, by decide, show (parseMethodDescriptor yX7_has.desc).map (fun d => d.parameters.length) = some 2 by decide +kernel⟩ ⟨by decide, by decide⟩ ⟨Nat.zero_le _, Nat.zero_le _⟩ (Nat.le_of_ble_eq_true rfl) dX7_ask_78 rfl (fun r M' L' hp15 => ?_)
                          obtain ⟨rfl, rfl, rfl⟩ := hp15
                          refine at_if_eqB C 105 dX7_ask_81 (by decide) (fun h16 => ?_) (fun h16 => ?_)
                          · refine at_iconst C dX7_ask_105 ?_
                            refine at_iadd C dX7_ask_106 ?_
                            refine at_istore C [(8, .int (sI ((cnt (fun b => qakP (qkfB M n) x a b) b) + 0))), (0, .ref (G.1 (258))), (1, .int (sI ((n : Int)))), (2, .int (sI ((((qkfB M n) : Nat) : Int)))), (3, .int (sI (qsB (qakF (qkfB M n)) x))), (4, .int (sI (qsF (qakF (qkfB M n)) x))), (5, .int (sI ((x : Int)))), (6, .int (sI (mxc (fun a b => qakP (qkfB M n) x a b) 6 a))), (7, .int (sI ((a : Int)))), (9, .int (sI ((b : Int))))] dX7_ask_107 (by decide) rfl ?_
                            refine at_iinc C 9 [(9, .int (sI ((b : Int) + 1))), (8, .int (sI ((cnt (fun b => qakP (qkfB M n) x a b) b) + 0))), (0, .ref (G.1 (258))), (1, .int (sI ((n : Int)))), (2, .int (sI ((((qkfB M n) : Nat) : Int)))), (3, .int (sI (qsB (qakF (qkfB M n)) x))), (4, .int (sI (qsF (qakF (qkfB M n)) x))), (5, .int (sI ((x : Int)))), (6, .int (sI (mxc (fun a b => qakP (qkfB M n) x a b) 6 a))), (7, .int (sI ((a : Int))))] dX7_ask_109 rfl (by decide) rfl ?_
                            refine at_goto C 58 dX7_ask_112 (by decide) ?_
                            refine at_lv [2, 3, 4, 5, 6, 7, 8, 9, 1, 0] rfl ?_
                            exact at_eq (ih58 (b + 1) (by omega) (by omega)) (lvc_s (lvc_s (lvc_s (lvc_s (lvc_s (lvc_s (lvc_s (lvc_s (lvc_i (by rw [cnt_n (p := (fun b => qakP (qkfB M n) x a b)) (fun z => by first | exact absurd z.1 (by assumption) | exact absurd z.2.1 (by assumption) | exact absurd z.2.2 (by assumption)), Int.add_zero]) (lvc_i (by omega) rfl)))))))))) rfl (rfl) (rfl)
                          · refine at_iload C 7 dX7_ask_84 rfl ?_
                            refine at_iload C 5 dX7_ask_86 rfl ?_
                            refine at_stat_i C (c_X7_feelsBy l D G (a : Int) (x : Int) ⟨by omega, by omega⟩ ⟨by omega, by omega⟩) (As := [.int (sI ((a : Int))), .int (sI ((x : Int)))]) qw_1169 qw_1167 qw_8 qw_1168 ⟨by decide, by decide, show (parseMethodDescriptor yX7_feelsBy.desc).map (fun d => d.parameters.length) = some 2 by decide +kernel⟩ ⟨by decide, by decide⟩ ⟨Nat.zero_le _, Nat.zero_le _⟩ (Nat.le_of_ble_eq_true rfl) dX7_ask_88 rfl (fun r M' L' hp18 => ?_)
                            obtain ⟨rfl, rfl, rfl⟩ := hp18
                            have hb17 := hvy_b (k := (a : Int)) (x := (x : Int)) (by omega)
                            refine at_iload C 9 dX7_ask_91 rfl ?_
                            refine at_iload C 5 dX7_ask_93 rfl ?_
                            refine at_stat_i C (c_X7_feelsBy l D G (b : Int) (x : Int) ⟨by omega, by omega⟩ ⟨by omega, by omega⟩) (As := [.int (sI ((b : Int))), .int (sI ((x : Int)))]) qw_1169 qw_1167 qw_8 qw_1168 ⟨by decide, by decide, show (parseMethodDescriptor yX7_feelsBy.desc).map (fun d => d.parameters.length) = some 2 by decide +kernel⟩ ⟨by decide, by decide⟩ ⟨Nat.zero_le _, Nat.zero_le _⟩ (Nat.le_of_ble_eq_true rfl) dX7_ask_95 rfl (fun r M' L' hp20 => ?_)
                            obtain ⟨rfl, rfl, rfl⟩ := hp20
                            have hb19 := hvy_b (k := (b : Int)) (x := (x : Int)) (by omega)
                            refine at_icmp_ne C 105 dX7_ask_98 (by decide) (⟨by omega, by omega⟩) (⟨by omega, by omega⟩) (fun h21 => ?_) (fun h21 => ?_)
                            · refine at_iconst C dX7_ask_105 ?_
                              refine at_iadd C dX7_ask_106 ?_
                              refine at_istore C [(8, .int (sI ((cnt (fun b => qakP (qkfB M n) x a b) b) + 0))), (0, .ref (G.1 (258))), (1, .int (sI ((n : Int)))), (2, .int (sI ((((qkfB M n) : Nat) : Int)))), (3, .int (sI (qsB (qakF (qkfB M n)) x))), (4, .int (sI (qsF (qakF (qkfB M n)) x))), (5, .int (sI ((x : Int)))), (6, .int (sI (mxc (fun a b => qakP (qkfB M n) x a b) 6 a))), (7, .int (sI ((a : Int)))), (9, .int (sI ((b : Int))))] dX7_ask_107 (by decide) rfl ?_
                              refine at_iinc C 9 [(9, .int (sI ((b : Int) + 1))), (8, .int (sI ((cnt (fun b => qakP (qkfB M n) x a b) b) + 0))), (0, .ref (G.1 (258))), (1, .int (sI ((n : Int)))), (2, .int (sI ((((qkfB M n) : Nat) : Int)))), (3, .int (sI (qsB (qakF (qkfB M n)) x))), (4, .int (sI (qsF (qakF (qkfB M n)) x))), (5, .int (sI ((x : Int)))), (6, .int (sI (mxc (fun a b => qakP (qkfB M n) x a b) 6 a))), (7, .int (sI ((a : Int))))] dX7_ask_109 rfl (by decide) rfl ?_
                              refine at_goto C 58 dX7_ask_112 (by decide) ?_
                              refine at_lv [2, 3, 4, 5, 6, 7, 8, 9, 1, 0] rfl ?_
                              exact at_eq (ih58 (b + 1) (by omega) (by omega)) (lvc_s (lvc_s (lvc_s (lvc_s (lvc_s (lvc_s (lvc_s (lvc_s (lvc_i (by rw [cnt_n (p := (fun b => qakP (qkfB M n) x a b)) (fun z => by first | exact absurd z.1 (by assumption) | exact absurd z.2.1 (by assumption) | exact absurd z.2.2 (by assumption)), Int.add_zero]) (lvc_i (by omega) rfl)))))))))) rfl (rfl) (rfl)
                            · refine at_iconst C dX7_ask_101 ?_
                              refine at_goto C 106 dX7_ask_102 (by decide) ?_
                              refine at_iadd C dX7_ask_106 ?_
                              refine at_istore C [(8, .int (sI ((cnt (fun b => qakP (qkfB M n) x a b) b) + 1))), (0, .ref (G.1 (258))), (1, .int (sI ((n : Int)))), (2, .int (sI ((((qkfB M n) : Nat) : Int)))), (3, .int (sI (qsB (qakF (qkfB M n)) x))), (4, .int (sI (qsF (qakF (qkfB M n)) x))), (5, .int (sI ((x : Int)))), (6, .int (sI (mxc (fun a b => qakP (qkfB M n) x a b) 6 a))), (7, .int (sI ((a : Int)))), (9, .int (sI ((b : Int))))] dX7_ask_107 (by decide) rfl ?_
                              refine at_iinc C 9 [(9, .int (sI ((b : Int) + 1))), (8, .int (sI ((cnt (fun b => qakP (qkfB M n) x a b) b) + 1))), (0, .ref (G.1 (258))), (1, .int (sI ((n : Int)))), (2, .int (sI ((((qkfB M n) : Nat) : Int)))), (3, .int (sI (qsB (qakF (qkfB M n)) x))), (4, .int (sI (qsF (qakF (qkfB M n)) x))), (5, .int (sI ((x : Int)))), (6, .int (sI (mxc (fun a b => qakP (qkfB M n) x a b) 6 a))), (7, .int (sI ((a : Int))))] dX7_ask_109 rfl (by decide) rfl ?_
                              refine at_goto C 58 dX7_ask_112 (by decide) ?_
                              refine at_lv [2, 3, 4, 5, 6, 7, 8, 9, 1, 0] rfl ?_
                              exact at_eq (ih58 (b + 1) (by omega) (by omega)) (lvc_s (lvc_s (lvc_s (lvc_s (lvc_s (lvc_s (lvc_s (lvc_s (lvc_i (by rw [cnt_y (p := (fun b => qakP (qkfB M n) x a b)) ⟨by assumption, by assumption, by assumption⟩]) (lvc_i (by omega) rfl)))))))))) rfl (rfl) (rfl)
                  refine at_lv [2, 3, 4, 5, 6, 7, 8, 9, 1, 0] rfl ?_
                  exact at_eq (H58 _ 0 (Nat.lt_succ_self _) (by omega)) (lvc_s (lvc_s (lvc_s (lvc_s (lvc_s (lvc_s (lvc_s (lvc_s (lvc_i (rfl) (lvc_i (rfl) rfl)))))))))) rfl (rfl) (rfl)
            refine at_lv [2, 3, 4, 5, 6, 7, 1, 0] rfl ?_
            exact at_eq (H46 _ 0 (Nat.lt_succ_self _) (by omega)) (lvc_s (lvc_s (lvc_s (lvc_s (lvc_s (lvc_s (lvc_i (rfl) (lvc_i (rfl) rfl)))))))) rfl (rfl) (rfl)
    refine at_lv [4, 5, 3, 2, 1, 0] rfl ?_
    exact at_eq (H29 _ 0 (Nat.lt_succ_self _) (by omega) (Or.inr rfl)) (lvc_s (lvc_s (lvc_s (lvc_i (rfl) (lvc_i (rfl) (lvc_i (rfl) rfl)))))) rfl (rfl) (rfl)
  · refine at_aload_n C 0 dX7_ask_8 rfl ?_
    refine at_call_i C (c_X7_bad l D G hT ⟨by omega, by omega, by omega⟩) (As := []) (obj_Ref G) (ci := 7) rfl qw_1012 qw_1009 qw_8 qw_1011 qp_34 ⟨by decide, by decide, show (parseMethodDescriptor yX7_bad.desc).map (fun d => d.parameters.length) = some 0 by decide +kernel⟩ ⟨by decide, by decide⟩ ⟨Nat.zero_le _, Nat.zero_le _⟩ (Nat.le_of_ble_eq_true rfl) dX7_ask_9 rfl (fun r M' L' hp23 => ?_)
    obtain ⟨rfl, rfl, hT22, rfl⟩ := hp23
    exact hret _ _ _ _ _ dX7_ask_12 (⟨congrArg sI (if_neg (by first | omega | (simp only [Int.toNat_natCast]; omega))).symm, (if_neg (by omega)).symm, hT22, rfl⟩)

set_option maxHeartbeats 4000000 in
set_option maxRecDepth 100000 in
theorem c_X7_winBy (l : Launch) (D : va_G) (G : sG) {M : sM} {L : sL} (i : Nat) (o : Int) (hi : i < 100) (ho : 0 ≤ o ∧ o ≤ 100) : sKi l D G yX7_winBy cX7_winBy 2 .int 0 0 [.int (sI ((i : Int))), .int (sI (o))] M L (fun r M' L' => r = sI (9 - o + ((i / 2 : Nat) : Int)) ∧ M = M' ∧ L = L') := by
  refine sKi_go (by decide) (Nat.le_of_ble_eq_true rfl) ?_
  intro zp ze zs zm za zb zt zc Q C hret
  refine at_eq (lv' := [(0, .int (sI ((i : Int)))), (1, .int (sI (o)))]) (st' := []) (M' := M) (L' := L) ?_ rfl rfl rfl rfl
  refine at_bipush C dX7_winBy_0 (by decide) (by decide) ?_
  refine at_iload_n C 0 dX7_winBy_2 rfl ?_
  refine at_iconst C dX7_winBy_3 ?_
  refine at_idiv C dX7_winBy_4 (by omega) (by omega) (by omega) (by omega) ?_
  refine at_iadd C dX7_winBy_5 ?_
  refine at_iload_n C 1 dX7_winBy_6 rfl ?_
  refine at_isub C dX7_winBy_7 ?_
  exact hret _ _ _ _ _ dX7_winBy_8 (⟨congrArg sI (by omega), rfl, rfl⟩)

set_option maxHeartbeats 4000000 in
set_option maxRecDepth 100000 in
theorem c_X7_rests (l : Launch) (D : va_G) (G : sG) {M : sM} {L : sL} (i j : Nat) (oA oB : Int) (hi : i < 10) (hj : j < 10) (hA : 0 ≤ oA ∧ oA ≤ 100) (hB : 0 ≤ oB ∧ oB ≤ 100) : sKi l D G yX7_rests cX7_rests 8 .boolean 1 21 [.int (sI ((i : Int))), .int (sI ((j : Int))), .int (sI (oA)), .int (sI (oB))] M L (fun r M' L' => r = sB (rst i j (9 - oA) (9 - oB) 10) ∧ (M = M' ∧ L = L')) := by
  refine sKz_go (by decide) (Nat.le_of_ble_eq_true rfl) ?_
  intro zp ze zs zm za zb zt zc Q C hret
  refine at_eq (lv' := [(0, .int (sI ((i : Int)))), (1, .int (sI ((j : Int)))), (2, .int (sI (oA))), (3, .int (sI (oB)))]) (st' := []) (M' := M) (L' := L) ?_ rfl rfl rfl rfl
  have hgF := gF_r (i := i) (j := j) (w := (9 - oA)) (by omega) (by omega)
  have hgS := gS_r (i := i) (j := j) (w := (9 - oB)) (by omega) (by omega)
  refine at_iload_n C 0 dX7_rests_0 rfl ?_
  refine at_iload_n C 1 dX7_rests_1 rfl ?_
  refine at_icmp_gt C 13 dX7_rests_2 (by decide) (⟨by omega, by omega⟩) (⟨by omega, by omega⟩) (fun h1 => ?_) (fun h1 => ?_)
  · refine at_iconst C dX7_rests_13 ?_
    refine at_ve (b := gF i j (9 - oA)) (by unfold gF; first | (rw [if_pos (by omega)]; done) | (rw [if_neg (by omega)]; done) | omega) ?_
    refine at_istore C [(4, .int (sI (gF i j (9 - oA)))), (0, .int (sI ((i : Int)))), (1, .int (sI ((j : Int)))), (2, .int (sI (oA))), (3, .int (sI (oB)))] dX7_rests_14 (by decide) rfl ?_
    refine at_iload_n C 1 dX7_rests_16 rfl ?_
    refine at_iload_n C 2 dX7_rests_17 rfl ?_
    refine at_icmp_gt C 25 dX7_rests_18 (by decide) (⟨by omega, by omega⟩) (⟨by omega, by omega⟩) (fun h2 => ?_) (fun h2 => absurd h2 (by omega))
    refine at_iload_n C 2 dX7_rests_25 rfl ?_
    refine at_iload_n C 4 dX7_rests_26 rfl ?_
    refine at_stat_i C (c_X7_winBy l D G j oB (by omega) ⟨by omega, by omega⟩) (As := [.int (sI ((j : Int))), .int (sI (oB))]) qw_1374 qw_1372 qw_8 qw_1373 ⟨by decide, by decide, show (parseMethodDescriptor yX7_winBy.desc).map (fun d => d.parameters.length) = some 2 by decide +kernel⟩ ⟨by decide, by decide⟩ ⟨Nat.zero_le _, Nat.zero_le _⟩ (Nat.le_of_ble_eq_true rfl) dX7_rests_27 rfl (fun r M' L' hp3 => ?_)
    obtain ⟨rfl, rfl, rfl⟩ := hp3
    refine at_ve (b := gS i j (9 - oB)) (by unfold gS; first | (rw [if_pos (by omega)]; done) | (rw [if_neg (by omega)]; done) | omega) ?_
    refine at_istore C [(5, .int (sI (gS i j (9 - oB)))), (4, .int (sI (gF i j (9 - oA)))), (0, .int (sI ((i : Int)))), (1, .int (sI ((j : Int)))), (2, .int (sI (oA))), (3, .int (sI (oB)))] dX7_rests_30 (by decide) rfl ?_
    refine at_iconst C dX7_rests_32 ?_
    refine at_vi (y := (sB (rst i j (9 - oA) (9 - oB) 0))) (sB_t (fun r hr => absurd hr (Nat.not_lt_zero r))) ?_
    refine at_istore C [(6, .int (sB (rst i j (9 - oA) (9 - oB) 0))), (5, .int (sI (gS i j (9 - oB)))), (4, .int (sI (gF i j (9 - oA)))), (0, .int (sI ((i : Int)))), (1, .int (sI ((j : Int)))), (2, .int (sI (oA))), (3, .int (sI (oB)))] dX7_rests_33 (by decide) rfl ?_
    refine at_iconst C dX7_rests_35 ?_
    refine at_istore C [(7, .int (sI (0))), (6, .int (sB (rst i j (9 - oA) (9 - oB) 0))), (5, .int (sI (gS i j (9 - oB)))), (4, .int (sI (gF i j (9 - oA)))), (0, .int (sI ((i : Int)))), (1, .int (sI ((j : Int)))), (2, .int (sI (oA))), (3, .int (sI (oB)))] dX7_rests_36 (by decide) rfl ?_
    have H38 : ∀ (fu : Nat) (k : Nat), 10 - k < fu → (k ≤ 10) → sAt zp l ze (sRm 1 21) zs zm za zb zt zc D G 8 0 0 Q 38 [(0, .int (sI ((i : Int)))), (1, .int (sI ((j : Int)))), (2, .int (sI (oA))), (3, .int (sI (oB))), (4, .int (sI (gF i j (9 - oA)))), (5, .int (sI (gS i j (9 - oB)))), (6, .int (sB (rst i j (9 - oA) (9 - oB) k))), (7, .int (sI ((k : Int))))] [] M L := by
      intro fu
      induction fu with
      | zero => intro k hd hk; exact absurd hd (Nat.not_lt_zero _)
      | succ fu ih38 =>
        intro k hd38 hk
        have hgF2 := gF_r (i := k) (j := j) (w := (9 - oA)) (by omega) (by omega)
        have hgS2 := gS_r (i := i) (j := k) (w := (9 - oB)) (by omega) (by omega)
        refine at_iload C 7 dX7_rests_38 rfl ?_
        refine at_bipush C dX7_rests_40 (by decide) (by decide) ?_
        refine at_icmp_gt C 105 dX7_rests_42 (by decide) (⟨by omega, by omega⟩) (⟨by omega, by omega⟩) (fun h4 => ?_) (fun h4 => ?_)
        · refine at_iload C 6 dX7_rests_105 rfl ?_
          exact hret _ _ _ _ _ dX7_rests_107 (sB_c (by rw [show k = 10 by omega])) ⟨rfl, rfl⟩
        · refine at_iload C 6 dX7_rests_45 rfl ?_
          refine at_if_eqB C 96 dX7_rests_47 (by decide) (fun h5 => ?_) (fun h5 => ?_)
          · refine at_iconst C dX7_rests_96 ?_
            refine at_vi (y := (sB (rst i j (9 - oA) (9 - oB) (k + 1)))) (sB_f (by first | exact rst_c (by assumption) | exact rst_d (by omega) | exact rst_e (by omega))) ?_
            refine at_istore C [(6, .int (sB (rst i j (9 - oA) (9 - oB) (k + 1)))), (0, .int (sI ((i : Int)))), (1, .int (sI ((j : Int)))), (2, .int (sI (oA))), (3, .int (sI (oB))), (4, .int (sI (gF i j (9 - oA)))), (5, .int (sI (gS i j (9 - oB)))), (7, .int (sI ((k : Int))))] dX7_rests_97 (by decide) rfl ?_
            refine at_iinc C 7 [(7, .int (sI ((k : Int) + 1))), (6, .int (sB (rst i j (9 - oA) (9 - oB) (k + 1)))), (0, .int (sI ((i : Int)))), (1, .int (sI ((j : Int)))), (2, .int (sI (oA))), (3, .int (sI (oB))), (4, .int (sI (gF i j (9 - oA)))), (5, .int (sI (gS i j (9 - oB))))] dX7_rests_99 rfl (by decide) rfl ?_
            refine at_goto C 38 dX7_rests_102 (by decide) ?_
            refine at_lv [2, 3, 4, 5, 6, 7, 1, 0] rfl ?_
            exact at_eq (ih38 (k + 1) (by omega) (by omega)) (lvc_s (lvc_s (lvc_s (lvc_s (lvc_s (lvc_s (lvc_s (lvc_i (by omega) rfl)))))))) rfl (rfl) (rfl)
          · refine at_iload C 4 dX7_rests_50 rfl ?_
            refine at_iload C 7 dX7_rests_52 rfl ?_
            refine at_iload_n C 1 dX7_rests_54 rfl ?_
            refine at_icmp_gt C 67 dX7_rests_55 (by decide) (⟨by omega, by omega⟩) (⟨by omega, by omega⟩) (fun h6 => ?_) (fun h6 => ?_)
            · refine at_iconst C dX7_rests_67 ?_
              refine at_ve (b := gF k j (9 - oA)) (by unfold gF; first | (rw [if_pos (by omega)]; done) | (rw [if_neg (by omega)]; done) | omega) ?_
              refine at_icmp_lt C 96 dX7_rests_68 (by decide) (⟨by omega, by omega⟩) (⟨by omega, by omega⟩) (fun h7 => ?_) (fun h7 => ?_)
              · refine at_iconst C dX7_rests_96 ?_
                refine at_vi (y := (sB (rst i j (9 - oA) (9 - oB) (k + 1)))) (sB_f (by first | exact rst_c (by assumption) | exact rst_d (by omega) | exact rst_e (by omega))) ?_
                refine at_istore C [(6, .int (sB (rst i j (9 - oA) (9 - oB) (k + 1)))), (0, .int (sI ((i : Int)))), (1, .int (sI ((j : Int)))), (2, .int (sI (oA))), (3, .int (sI (oB))), (4, .int (sI (gF i j (9 - oA)))), (5, .int (sI (gS i j (9 - oB)))), (7, .int (sI ((k : Int))))] dX7_rests_97 (by decide) rfl ?_
                refine at_iinc C 7 [(7, .int (sI ((k : Int) + 1))), (6, .int (sB (rst i j (9 - oA) (9 - oB) (k + 1)))), (0, .int (sI ((i : Int)))), (1, .int (sI ((j : Int)))), (2, .int (sI (oA))), (3, .int (sI (oB))), (4, .int (sI (gF i j (9 - oA)))), (5, .int (sI (gS i j (9 - oB))))] dX7_rests_99 rfl (by decide) rfl ?_
                refine at_goto C 38 dX7_rests_102 (by decide) ?_
                refine at_lv [2, 3, 4, 5, 6, 7, 1, 0] rfl ?_
                exact at_eq (ih38 (k + 1) (by omega) (by omega)) (lvc_s (lvc_s (lvc_s (lvc_s (lvc_s (lvc_s (lvc_s (lvc_i (by omega) rfl)))))))) rfl (rfl) (rfl)
              · refine at_iload C 5 dX7_rests_71 rfl ?_
                refine at_iload_n C 0 dX7_rests_73 rfl ?_
                refine at_iload C 7 dX7_rests_74 rfl ?_
                refine at_icmp_gt C 83 dX7_rests_76 (by decide) (⟨by omega, by omega⟩) (⟨by omega, by omega⟩) (fun h8 => ?_) (fun h8 => ?_)
                · refine at_iload C 7 dX7_rests_83 rfl ?_
                  refine at_iload_n C 3 dX7_rests_85 rfl ?_
                  refine at_stat_i C (c_X7_winBy l D G k oB (by omega) ⟨by omega, by omega⟩) (As := [.int (sI ((k : Int))), .int (sI (oB))]) qw_1374 qw_1372 qw_8 qw_1373 ⟨by decide, by decide, show (parseMethodDescriptor yX7_winBy.desc).map (fun d => d.parameters.length) = some 2 by decide +kernel⟩ ⟨by decide, by decide⟩ ⟨Nat.zero_le _, Nat.zero_le _⟩ (Nat.le_of_ble_eq_true rfl) dX7_rests_86 rfl (fun r M' L' hp9 => ?_)
                  obtain ⟨rfl, rfl, rfl⟩ := hp9
                  refine at_ve (b := gS i k (9 - oB)) (by unfold gS; first | (rw [if_pos (by omega)]; done) | (rw [if_neg (by omega)]; done) | omega) ?_
                  refine at_icmp_lt C 96 dX7_rests_89 (by decide) (⟨by omega, by omega⟩) (⟨by omega, by omega⟩) (fun h10 => ?_) (fun h10 => ?_)
                  · refine at_iconst C dX7_rests_96 ?_
                    refine at_vi (y := (sB (rst i j (9 - oA) (9 - oB) (k + 1)))) (sB_f (by first | exact rst_c (by assumption) | exact rst_d (by omega) | exact rst_e (by omega))) ?_
                    refine at_istore C [(6, .int (sB (rst i j (9 - oA) (9 - oB) (k + 1)))), (0, .int (sI ((i : Int)))), (1, .int (sI ((j : Int)))), (2, .int (sI (oA))), (3, .int (sI (oB))), (4, .int (sI (gF i j (9 - oA)))), (5, .int (sI (gS i j (9 - oB)))), (7, .int (sI ((k : Int))))] dX7_rests_97 (by decide) rfl ?_
                    refine at_iinc C 7 [(7, .int (sI ((k : Int) + 1))), (6, .int (sB (rst i j (9 - oA) (9 - oB) (k + 1)))), (0, .int (sI ((i : Int)))), (1, .int (sI ((j : Int)))), (2, .int (sI (oA))), (3, .int (sI (oB))), (4, .int (sI (gF i j (9 - oA)))), (5, .int (sI (gS i j (9 - oB))))] dX7_rests_99 rfl (by decide) rfl ?_
                    refine at_goto C 38 dX7_rests_102 (by decide) ?_
                    refine at_lv [2, 3, 4, 5, 6, 7, 1, 0] rfl ?_
                    exact at_eq (ih38 (k + 1) (by omega) (by omega)) (lvc_s (lvc_s (lvc_s (lvc_s (lvc_s (lvc_s (lvc_s (lvc_i (by omega) rfl)))))))) rfl (rfl) (rfl)
                  · refine at_iconst C dX7_rests_92 ?_
                    refine at_goto C 97 dX7_rests_93 (by decide) ?_
                    refine at_vi (y := (sB (rst i j (9 - oA) (9 - oB) (k + 1)))) (sB_t (rst_y (by assumption) (by omega) (by omega))) ?_
                    refine at_istore C [(6, .int (sB (rst i j (9 - oA) (9 - oB) (k + 1)))), (0, .int (sI ((i : Int)))), (1, .int (sI ((j : Int)))), (2, .int (sI (oA))), (3, .int (sI (oB))), (4, .int (sI (gF i j (9 - oA)))), (5, .int (sI (gS i j (9 - oB)))), (7, .int (sI ((k : Int))))] dX7_rests_97 (by decide) rfl ?_
                    refine at_iinc C 7 [(7, .int (sI ((k : Int) + 1))), (6, .int (sB (rst i j (9 - oA) (9 - oB) (k + 1)))), (0, .int (sI ((i : Int)))), (1, .int (sI ((j : Int)))), (2, .int (sI (oA))), (3, .int (sI (oB))), (4, .int (sI (gF i j (9 - oA)))), (5, .int (sI (gS i j (9 - oB))))] dX7_rests_99 rfl (by decide) rfl ?_
                    refine at_goto C 38 dX7_rests_102 (by decide) ?_
                    refine at_lv [2, 3, 4, 5, 6, 7, 1, 0] rfl ?_
                    exact at_eq (ih38 (k + 1) (by omega) (by omega)) (lvc_s (lvc_s (lvc_s (lvc_s (lvc_s (lvc_s (lvc_s (lvc_i (by omega) rfl)))))))) rfl (rfl) (rfl)
                · refine at_iconst C dX7_rests_79 ?_
                  refine at_goto C 89 dX7_rests_80 (by decide) ?_
                  refine at_ve (b := gS i k (9 - oB)) (by unfold gS; first | (rw [if_pos (by omega)]; done) | (rw [if_neg (by omega)]; done) | omega) ?_
                  refine at_icmp_lt C 96 dX7_rests_89 (by decide) (⟨by omega, by omega⟩) (⟨by omega, by omega⟩) (fun h11 => ?_) (fun h11 => ?_)
                  · refine at_iconst C dX7_rests_96 ?_
                    refine at_vi (y := (sB (rst i j (9 - oA) (9 - oB) (k + 1)))) (sB_f (by first | exact rst_c (by assumption) | exact rst_d (by omega) | exact rst_e (by omega))) ?_
                    refine at_istore C [(6, .int (sB (rst i j (9 - oA) (9 - oB) (k + 1)))), (0, .int (sI ((i : Int)))), (1, .int (sI ((j : Int)))), (2, .int (sI (oA))), (3, .int (sI (oB))), (4, .int (sI (gF i j (9 - oA)))), (5, .int (sI (gS i j (9 - oB)))), (7, .int (sI ((k : Int))))] dX7_rests_97 (by decide) rfl ?_
                    refine at_iinc C 7 [(7, .int (sI ((k : Int) + 1))), (6, .int (sB (rst i j (9 - oA) (9 - oB) (k + 1)))), (0, .int (sI ((i : Int)))), (1, .int (sI ((j : Int)))), (2, .int (sI (oA))), (3, .int (sI (oB))), (4, .int (sI (gF i j (9 - oA)))), (5, .int (sI (gS i j (9 - oB))))] dX7_rests_99 rfl (by decide) rfl ?_
                    refine at_goto C 38 dX7_rests_102 (by decide) ?_
                    refine at_lv [2, 3, 4, 5, 6, 7, 1, 0] rfl ?_
                    exact at_eq (ih38 (k + 1) (by omega) (by omega)) (lvc_s (lvc_s (lvc_s (lvc_s (lvc_s (lvc_s (lvc_s (lvc_i (by omega) rfl)))))))) rfl (rfl) (rfl)
                  · refine at_iconst C dX7_rests_92 ?_
                    refine at_goto C 97 dX7_rests_93 (by decide) ?_
                    refine at_vi (y := (sB (rst i j (9 - oA) (9 - oB) (k + 1)))) (sB_t (rst_y (by assumption) (by omega) (by omega))) ?_
                    refine at_istore C [(6, .int (sB (rst i j (9 - oA) (9 - oB) (k + 1)))), (0, .int (sI ((i : Int)))), (1, .int (sI ((j : Int)))), (2, .int (sI (oA))), (3, .int (sI (oB))), (4, .int (sI (gF i j (9 - oA)))), (5, .int (sI (gS i j (9 - oB)))), (7, .int (sI ((k : Int))))] dX7_rests_97 (by decide) rfl ?_
                    refine at_iinc C 7 [(7, .int (sI ((k : Int) + 1))), (6, .int (sB (rst i j (9 - oA) (9 - oB) (k + 1)))), (0, .int (sI ((i : Int)))), (1, .int (sI ((j : Int)))), (2, .int (sI (oA))), (3, .int (sI (oB))), (4, .int (sI (gF i j (9 - oA)))), (5, .int (sI (gS i j (9 - oB))))] dX7_rests_99 rfl (by decide) rfl ?_
                    refine at_goto C 38 dX7_rests_102 (by decide) ?_
                    refine at_lv [2, 3, 4, 5, 6, 7, 1, 0] rfl ?_
                    exact at_eq (ih38 (k + 1) (by omega) (by omega)) (lvc_s (lvc_s (lvc_s (lvc_s (lvc_s (lvc_s (lvc_s (lvc_i (by omega) rfl)))))))) rfl (rfl) (rfl)
            · refine at_iload C 7 dX7_rests_58 rfl ?_
              refine at_iload_n C 2 dX7_rests_60 rfl ?_
              refine at_stat_i C (c_X7_winBy l D G k oA (by omega) ⟨by omega, by omega⟩) (As := [.int (sI ((k : Int))), .int (sI (oA))]) qw_1374 qw_1372 qw_8 qw_1373 ⟨by decide, by decide, show (parseMethodDescriptor yX7_winBy.desc).map (fun d => d.parameters.length) = some 2 by decide +kernel⟩ ⟨by decide, by decide⟩ ⟨Nat.zero_le _, Nat.zero_le _⟩ (Nat.le_of_ble_eq_true rfl) dX7_rests_61 rfl (fun r M' L' hp12 => ?_)
              obtain ⟨rfl, rfl, rfl⟩ := hp12
              refine at_goto C 68 dX7_rests_64 (by decide) ?_
              refine at_ve (b := gF k j (9 - oA)) (by unfold gF; first | (rw [if_pos (by omega)]; done) | (rw [if_neg (by omega)]; done) | omega) ?_
              refine at_icmp_lt C 96 dX7_rests_68 (by decide) (⟨by omega, by omega⟩) (⟨by omega, by omega⟩) (fun h13 => ?_) (fun h13 => ?_)
              · refine at_iconst C dX7_rests_96 ?_
                refine at_vi (y := (sB (rst i j (9 - oA) (9 - oB) (k + 1)))) (sB_f (by first | exact rst_c (by assumption) | exact rst_d (by omega) | exact rst_e (by omega))) ?_
                refine at_istore C [(6, .int (sB (rst i j (9 - oA) (9 - oB) (k + 1)))), (0, .int (sI ((i : Int)))), (1, .int (sI ((j : Int)))), (2, .int (sI (oA))), (3, .int (sI (oB))), (4, .int (sI (gF i j (9 - oA)))), (5, .int (sI (gS i j (9 - oB)))), (7, .int (sI ((k : Int))))] dX7_rests_97 (by decide) rfl ?_
                refine at_iinc C 7 [(7, .int (sI ((k : Int) + 1))), (6, .int (sB (rst i j (9 - oA) (9 - oB) (k + 1)))), (0, .int (sI ((i : Int)))), (1, .int (sI ((j : Int)))), (2, .int (sI (oA))), (3, .int (sI (oB))), (4, .int (sI (gF i j (9 - oA)))), (5, .int (sI (gS i j (9 - oB))))] dX7_rests_99 rfl (by decide) rfl ?_
                refine at_goto C 38 dX7_rests_102 (by decide) ?_
                refine at_lv [2, 3, 4, 5, 6, 7, 1, 0] rfl ?_
                exact at_eq (ih38 (k + 1) (by omega) (by omega)) (lvc_s (lvc_s (lvc_s (lvc_s (lvc_s (lvc_s (lvc_s (lvc_i (by omega) rfl)))))))) rfl (rfl) (rfl)
              · refine at_iload C 5 dX7_rests_71 rfl ?_
                refine at_iload_n C 0 dX7_rests_73 rfl ?_
                refine at_iload C 7 dX7_rests_74 rfl ?_
                refine at_icmp_gt C 83 dX7_rests_76 (by decide) (⟨by omega, by omega⟩) (⟨by omega, by omega⟩) (fun h14 => ?_) (fun h14 => ?_)
                · refine at_iload C 7 dX7_rests_83 rfl ?_
                  refine at_iload_n C 3 dX7_rests_85 rfl ?_
                  refine at_stat_i C (c_X7_winBy l D G k oB (by omega) ⟨by omega, by omega⟩) (As := [.int (sI ((k : Int))), .int (sI (oB))]) qw_1374 qw_1372 qw_8 qw_1373 ⟨by decide, by decide, show (parseMethodDescriptor yX7_winBy.desc).map (fun d => d.parameters.length) = some 2 by decide +kernel⟩ ⟨by decide, by decide⟩ ⟨Nat.zero_le _, Nat.zero_le _⟩ (Nat.le_of_ble_eq_true rfl) dX7_rests_86 rfl (fun r M' L' hp15 => ?_)
                  obtain ⟨rfl, rfl, rfl⟩ := hp15
                  refine at_ve (b := gS i k (9 - oB)) (by unfold gS; first | (rw [if_pos (by omega)]; done) | (rw [if_neg (by omega)]; done) | omega) ?_
                  refine at_icmp_lt C 96 dX7_rests_89 (by decide) (⟨by omega, by omega⟩) (⟨by omega, by omega⟩) (fun h16 => ?_) (fun h16 => ?_)
                  · refine at_iconst C dX7_rests_96 ?_
                    refine at_vi (y := (sB (rst i j (9 - oA) (9 - oB) (k + 1)))) (sB_f (by first | exact rst_c (by assumption) | exact rst_d (by omega) | exact rst_e (by omega))) ?_
                    refine at_istore C [(6, .int (sB (rst i j (9 - oA) (9 - oB) (k + 1)))), (0, .int (sI ((i : Int)))), (1, .int (sI ((j : Int)))), (2, .int (sI (oA))), (3, .int (sI (oB))), (4, .int (sI (gF i j (9 - oA)))), (5, .int (sI (gS i j (9 - oB)))), (7, .int (sI ((k : Int))))] dX7_rests_97 (by decide) rfl ?_
                    refine at_iinc C 7 [(7, .int (sI ((k : Int) + 1))), (6, .int (sB (rst i j (9 - oA) (9 - oB) (k + 1)))), (0, .int (sI ((i : Int)))), (1, .int (sI ((j : Int)))), (2, .int (sI (oA))), (3, .int (sI (oB))), (4, .int (sI (gF i j (9 - oA)))), (5, .int (sI (gS i j (9 - oB))))] dX7_rests_99 rfl (by decide) rfl ?_
                    refine at_goto C 38 dX7_rests_102 (by decide) ?_
                    refine at_lv [2, 3, 4, 5, 6, 7, 1, 0] rfl ?_
                    exact at_eq (ih38 (k + 1) (by omega) (by omega)) (lvc_s (lvc_s (lvc_s (lvc_s (lvc_s (lvc_s (lvc_s (lvc_i (by omega) rfl)))))))) rfl (rfl) (rfl)
                  · refine at_iconst C dX7_rests_92 ?_
                    refine at_goto C 97 dX7_rests_93 (by decide) ?_
                    refine at_vi (y := (sB (rst i j (9 - oA) (9 - oB) (k + 1)))) (sB_t (rst_y (by assumption) (by omega) (by omega))) ?_
                    refine at_istore C [(6, .int (sB (rst i j (9 - oA) (9 - oB) (k + 1)))), (0, .int (sI ((i : Int)))), (1, .int (sI ((j : Int)))), (2, .int (sI (oA))), (3, .int (sI (oB))), (4, .int (sI (gF i j (9 - oA)))), (5, .int (sI (gS i j (9 - oB)))), (7, .int (sI ((k : Int))))] dX7_rests_97 (by decide) rfl ?_
                    refine at_iinc C 7 [(7, .int (sI ((k : Int) + 1))), (6, .int (sB (rst i j (9 - oA) (9 - oB) (k + 1)))), (0, .int (sI ((i : Int)))), (1, .int (sI ((j : Int)))), (2, .int (sI (oA))), (3, .int (sI (oB))), (4, .int (sI (gF i j (9 - oA)))), (5, .int (sI (gS i j (9 - oB))))] dX7_rests_99 rfl (by decide) rfl ?_
                    refine at_goto C 38 dX7_rests_102 (by decide) ?_
                    refine at_lv [2, 3, 4, 5, 6, 7, 1, 0] rfl ?_
                    exact at_eq (ih38 (k + 1) (by omega) (by omega)) (lvc_s (lvc_s (lvc_s (lvc_s (lvc_s (lvc_s (lvc_s (lvc_i (by omega) rfl)))))))) rfl (rfl) (rfl)
                · refine at_iconst C dX7_rests_79 ?_
                  refine at_goto C 89 dX7_rests_80 (by decide) ?_
                  refine at_ve (b := gS i k (9 - oB)) (by unfold gS; first | (rw [if_pos (by omega)]; done) | (rw [if_neg (by omega)]; done) | omega) ?_
                  refine at_icmp_lt C 96 dX7_rests_89 (by decide) (⟨by omega, by omega⟩) (⟨by omega, by omega⟩) (fun h17 => ?_) (fun h17 => ?_)
                  · refine at_iconst C dX7_rests_96 ?_
                    refine at_vi (y := (sB (rst i j (9 - oA) (9 - oB) (k + 1)))) (sB_f (by first | exact rst_c (by assumption) | exact rst_d (by omega) | exact rst_e (by omega))) ?_
                    refine at_istore C [(6, .int (sB (rst i j (9 - oA) (9 - oB) (k + 1)))), (0, .int (sI ((i : Int)))), (1, .int (sI ((j : Int)))), (2, .int (sI (oA))), (3, .int (sI (oB))), (4, .int (sI (gF i j (9 - oA)))), (5, .int (sI (gS i j (9 - oB)))), (7, .int (sI ((k : Int))))] dX7_rests_97 (by decide) rfl ?_
                    refine at_iinc C 7 [(7, .int (sI ((k : Int) + 1))), (6, .int (sB (rst i j (9 - oA) (9 - oB) (k + 1)))), (0, .int (sI ((i : Int)))), (1, .int (sI ((j : Int)))), (2, .int (sI (oA))), (3, .int (sI (oB))), (4, .int (sI (gF i j (9 - oA)))), (5, .int (sI (gS i j (9 - oB))))] dX7_rests_99 rfl (by decide) rfl ?_
                    refine at_goto C 38 dX7_rests_102 (by decide) ?_
                    refine at_lv [2, 3, 4, 5, 6, 7, 1, 0] rfl ?_
                    exact at_eq (ih38 (k + 1) (by omega) (by omega)) (lvc_s (lvc_s (lvc_s (lvc_s (lvc_s (lvc_s (lvc_s (lvc_i (by omega) rfl)))))))) rfl (rfl) (rfl)
                  · refine at_iconst C dX7_rests_92 ?_
                    refine at_goto C 97 dX7_rests_93 (by decide) ?_
                    refine at_vi (y := (sB (rst i j (9 - oA) (9 - oB) (k + 1)))) (sB_t (rst_y (by assumption) (by omega) (by omega))) ?_
                    refine at_istore C [(6, .int (sB (rst i j (9 - oA) (9 - oB) (k + 1)))), (0, .int (sI ((i : Int)))), (1, .int (sI ((j : Int)))), (2, .int (sI (oA))), (3, .int (sI (oB))), (4, .int (sI (gF i j (9 - oA)))), (5, .int (sI (gS i j (9 - oB)))), (7, .int (sI ((k : Int))))] dX7_rests_97 (by decide) rfl ?_
                    refine at_iinc C 7 [(7, .int (sI ((k : Int) + 1))), (6, .int (sB (rst i j (9 - oA) (9 - oB) (k + 1)))), (0, .int (sI ((i : Int)))), (1, .int (sI ((j : Int)))), (2, .int (sI (oA))), (3, .int (sI (oB))), (4, .int (sI (gF i j (9 - oA)))), (5, .int (sI (gS i j (9 - oB))))] dX7_rests_99 rfl (by decide) rfl ?_
                    refine at_goto C 38 dX7_rests_102 (by decide) ?_
                    refine at_lv [2, 3, 4, 5, 6, 7, 1, 0] rfl ?_
                    exact at_eq (ih38 (k + 1) (by omega) (by omega)) (lvc_s (lvc_s (lvc_s (lvc_s (lvc_s (lvc_s (lvc_s (lvc_i (by omega) rfl)))))))) rfl (rfl) (rfl)
    refine at_lv [4, 5, 6, 7, 3, 2, 1, 0] rfl ?_
    exact at_eq (H38 _ 0 (Nat.lt_succ_self _) (by omega)) (lvc_s (lvc_s (lvc_s (lvc_s (lvc_s (lvc_s (lvc_s (lvc_i (rfl) rfl)))))))) rfl (rfl) (rfl)
  · refine at_iload_n C 0 dX7_rests_5 rfl ?_
    refine at_iload_n C 2 dX7_rests_6 rfl ?_
    refine at_stat_i C (c_X7_winBy l D G i oA (by omega) ⟨by omega, by omega⟩) (As := [.int (sI ((i : Int))), .int (sI (oA))]) qw_1374 qw_1372 qw_8 qw_1373 ⟨by decide, by decide, show (parseMethodDescriptor yX7_winBy.desc).map (fun d => d.parameters.length) = some 2 by decide +kernel⟩ ⟨by decide, by decide⟩ ⟨Nat.zero_le _, Nat.zero_le _⟩ (Nat.le_of_ble_eq_true rfl) dX7_rests_7 rfl (fun r M' L' hp18 => ?_)
    obtain ⟨rfl, rfl, rfl⟩ := hp18
    refine at_goto C 14 dX7_rests_10 (by decide) ?_
    refine at_ve (b := gF i j (9 - oA)) (by unfold gF; first | (rw [if_pos (by omega)]; done) | (rw [if_neg (by omega)]; done) | omega) ?_
    refine at_istore C [(4, .int (sI (gF i j (9 - oA)))), (0, .int (sI ((i : Int)))), (1, .int (sI ((j : Int)))), (2, .int (sI (oA))), (3, .int (sI (oB)))] dX7_rests_14 (by decide) rfl ?_
    refine at_iload_n C 1 dX7_rests_16 rfl ?_
    refine at_iload_n C 2 dX7_rests_17 rfl ?_
    refine at_icmp_gt C 25 dX7_rests_18 (by decide) (⟨by omega, by omega⟩) (⟨by omega, by omega⟩) (fun h19 => absurd h19 (by omega)) (fun h19 => ?_)
    refine at_iconst C dX7_rests_21 ?_
    refine at_goto C 30 dX7_rests_22 (by decide) ?_
    refine at_ve (b := gS i j (9 - oB)) (by unfold gS; first | (rw [if_pos (by omega)]; done) | (rw [if_neg (by omega)]; done) | omega) ?_
    refine at_istore C [(5, .int (sI (gS i j (9 - oB)))), (4, .int (sI (gF i j (9 - oA)))), (0, .int (sI ((i : Int)))), (1, .int (sI ((j : Int)))), (2, .int (sI (oA))), (3, .int (sI (oB)))] dX7_rests_30 (by decide) rfl ?_
    refine at_iconst C dX7_rests_32 ?_
    refine at_vi (y := (sB (rst i j (9 - oA) (9 - oB) 0))) (sB_t (fun r hr => absurd hr (Nat.not_lt_zero r))) ?_
    refine at_istore C [(6, .int (sB (rst i j (9 - oA) (9 - oB) 0))), (5, .int (sI (gS i j (9 - oB)))), (4, .int (sI (gF i j (9 - oA)))), (0, .int (sI ((i : Int)))), (1, .int (sI ((j : Int)))), (2, .int (sI (oA))), (3, .int (sI (oB)))] dX7_rests_33 (by decide) rfl ?_
    refine at_iconst C dX7_rests_35 ?_
    refine at_istore C [(7, .int (sI (0))), (6, .int (sB (rst i j (9 - oA) (9 - oB) 0))), (5, .int (sI (gS i j (9 - oB)))), (4, .int (sI (gF i j (9 - oA)))), (0, .int (sI ((i : Int)))), (1, .int (sI ((j : Int)))), (2, .int (sI (oA))), (3, .int (sI (oB)))] dX7_rests_36 (by decide) rfl ?_
    have H38 : ∀ (fu : Nat) (k : Nat), 10 - k < fu → (k ≤ 10) → sAt zp l ze (sRm 1 21) zs zm za zb zt zc D G 8 0 0 Q 38 [(0, .int (sI ((i : Int)))), (1, .int (sI ((j : Int)))), (2, .int (sI (oA))), (3, .int (sI (oB))), (4, .int (sI (gF i j (9 - oA)))), (5, .int (sI (gS i j (9 - oB)))), (6, .int (sB (rst i j (9 - oA) (9 - oB) k))), (7, .int (sI ((k : Int))))] [] M L := by
      intro fu
      induction fu with
      | zero => intro k hd hk; exact absurd hd (Nat.not_lt_zero _)
      | succ fu ih38 =>
        intro k hd38 hk
        have hgF2 := gF_r (i := k) (j := j) (w := (9 - oA)) (by omega) (by omega)
        have hgS2 := gS_r (i := i) (j := k) (w := (9 - oB)) (by omega) (by omega)
        refine at_iload C 7 dX7_rests_38 rfl ?_
        refine at_bipush C dX7_rests_40 (by decide) (by decide) ?_
        refine at_icmp_gt C 105 dX7_rests_42 (by decide) (⟨by omega, by omega⟩) (⟨by omega, by omega⟩) (fun h20 => ?_) (fun h20 => ?_)
        · refine at_iload C 6 dX7_rests_105 rfl ?_
          exact hret _ _ _ _ _ dX7_rests_107 (sB_c (by rw [show k = 10 by omega])) ⟨rfl, rfl⟩
        · refine at_iload C 6 dX7_rests_45 rfl ?_
          refine at_if_eqB C 96 dX7_rests_47 (by decide) (fun h21 => ?_) (fun h21 => ?_)
          · refine at_iconst C dX7_rests_96 ?_
            refine at_vi (y := (sB (rst i j (9 - oA) (9 - oB) (k + 1)))) (sB_f (by first | exact rst_c (by assumption) | exact rst_d (by omega) | exact rst_e (by omega))) ?_
            refine at_istore C [(6, .int (sB (rst i j (9 - oA) (9 - oB) (k + 1)))), (0, .int (sI ((i : Int)))), (1, .int (sI ((j : Int)))), (2, .int (sI (oA))), (3, .int (sI (oB))), (4, .int (sI (gF i j (9 - oA)))), (5, .int (sI (gS i j (9 - oB)))), (7, .int (sI ((k : Int))))] dX7_rests_97 (by decide) rfl ?_
            refine at_iinc C 7 [(7, .int (sI ((k : Int) + 1))), (6, .int (sB (rst i j (9 - oA) (9 - oB) (k + 1)))), (0, .int (sI ((i : Int)))), (1, .int (sI ((j : Int)))), (2, .int (sI (oA))), (3, .int (sI (oB))), (4, .int (sI (gF i j (9 - oA)))), (5, .int (sI (gS i j (9 - oB))))] dX7_rests_99 rfl (by decide) rfl ?_
            refine at_goto C 38 dX7_rests_102 (by decide) ?_
            refine at_lv [2, 3, 4, 5, 6, 7, 1, 0] rfl ?_
            exact at_eq (ih38 (k + 1) (by omega) (by omega)) (lvc_s (lvc_s (lvc_s (lvc_s (lvc_s (lvc_s (lvc_s (lvc_i (by omega) rfl)))))))) rfl (rfl) (rfl)
          · refine at_iload C 4 dX7_rests_50 rfl ?_
            refine at_iload C 7 dX7_rests_52 rfl ?_
            refine at_iload_n C 1 dX7_rests_54 rfl ?_
            refine at_icmp_gt C 67 dX7_rests_55 (by decide) (⟨by omega, by omega⟩) (⟨by omega, by omega⟩) (fun h22 => ?_) (fun h22 => ?_)
            · refine at_iconst C dX7_rests_67 ?_
              refine at_ve (b := gF k j (9 - oA)) (by unfold gF; first | (rw [if_pos (by omega)]; done) | (rw [if_neg (by omega)]; done) | omega) ?_
              refine at_icmp_lt C 96 dX7_rests_68 (by decide) (⟨by omega, by omega⟩) (⟨by omega, by omega⟩) (fun h23 => ?_) (fun h23 => ?_)
              · refine at_iconst C dX7_rests_96 ?_
                refine at_vi (y := (sB (rst i j (9 - oA) (9 - oB) (k + 1)))) (sB_f (by first | exact rst_c (by assumption) | exact rst_d (by omega) | exact rst_e (by omega))) ?_
                refine at_istore C [(6, .int (sB (rst i j (9 - oA) (9 - oB) (k + 1)))), (0, .int (sI ((i : Int)))), (1, .int (sI ((j : Int)))), (2, .int (sI (oA))), (3, .int (sI (oB))), (4, .int (sI (gF i j (9 - oA)))), (5, .int (sI (gS i j (9 - oB)))), (7, .int (sI ((k : Int))))] dX7_rests_97 (by decide) rfl ?_
                refine at_iinc C 7 [(7, .int (sI ((k : Int) + 1))), (6, .int (sB (rst i j (9 - oA) (9 - oB) (k + 1)))), (0, .int (sI ((i : Int)))), (1, .int (sI ((j : Int)))), (2, .int (sI (oA))), (3, .int (sI (oB))), (4, .int (sI (gF i j (9 - oA)))), (5, .int (sI (gS i j (9 - oB))))] dX7_rests_99 rfl (by decide) rfl ?_
                refine at_goto C 38 dX7_rests_102 (by decide) ?_
                refine at_lv [2, 3, 4, 5, 6, 7, 1, 0] rfl ?_
                exact at_eq (ih38 (k + 1) (by omega) (by omega)) (lvc_s (lvc_s (lvc_s (lvc_s (lvc_s (lvc_s (lvc_s (lvc_i (by omega) rfl)))))))) rfl (rfl) (rfl)
              · refine at_iload C 5 dX7_rests_71 rfl ?_
                refine at_iload_n C 0 dX7_rests_73 rfl ?_
                refine at_iload C 7 dX7_rests_74 rfl ?_
                refine at_icmp_gt C 83 dX7_rests_76 (by decide) (⟨by omega, by omega⟩) (⟨by omega, by omega⟩) (fun h24 => ?_) (fun h24 => ?_)
                · refine at_iload C 7 dX7_rests_83 rfl ?_
                  refine at_iload_n C 3 dX7_rests_85 rfl ?_
                  refine at_stat_i C (c_X7_winBy l D G k oB (by omega) ⟨by omega, by omega⟩) (As := [.int (sI ((k : Int))), .int (sI (oB))]) qw_1374 qw_1372 qw_8 qw_1373 ⟨by decide, by decide, show (parseMethodDescriptor yX7_winBy.desc).map (fun d => d.parameters.length) = some 2 by decide +kernel⟩ ⟨by decide, by decide⟩ ⟨Nat.zero_le _, Nat.zero_le _⟩ (Nat.le_of_ble_eq_true rfl) dX7_rests_86 rfl (fun r M' L' hp25 => ?_)
                  obtain ⟨rfl, rfl, rfl⟩ := hp25
                  refine at_ve (b := gS i k (9 - oB)) (by unfold gS; first | (rw [if_pos (by omega)]; done) | (rw [if_neg (by omega)]; done) | omega) ?_
                  refine at_icmp_lt C 96 dX7_rests_89 (by decide) (⟨by omega, by omega⟩) (⟨by omega, by omega⟩) (fun h26 => ?_) (fun h26 => ?_)
                  · refine at_iconst C dX7_rests_96 ?_
                    refine at_vi (y := (sB (rst i j (9 - oA) (9 - oB) (k + 1)))) (sB_f (by first | exact rst_c (by assumption) | exact rst_d (by omega) | exact rst_e (by omega))) ?_
                    refine at_istore C [(6, .int (sB (rst i j (9 - oA) (9 - oB) (k + 1)))), (0, .int (sI ((i : Int)))), (1, .int (sI ((j : Int)))), (2, .int (sI (oA))), (3, .int (sI (oB))), (4, .int (sI (gF i j (9 - oA)))), (5, .int (sI (gS i j (9 - oB)))), (7, .int (sI ((k : Int))))] dX7_rests_97 (by decide) rfl ?_
                    refine at_iinc C 7 [(7, .int (sI ((k : Int) + 1))), (6, .int (sB (rst i j (9 - oA) (9 - oB) (k + 1)))), (0, .int (sI ((i : Int)))), (1, .int (sI ((j : Int)))), (2, .int (sI (oA))), (3, .int (sI (oB))), (4, .int (sI (gF i j (9 - oA)))), (5, .int (sI (gS i j (9 - oB))))] dX7_rests_99 rfl (by decide) rfl ?_
                    refine at_goto C 38 dX7_rests_102 (by decide) ?_
                    refine at_lv [2, 3, 4, 5, 6, 7, 1, 0] rfl ?_
                    exact at_eq (ih38 (k + 1) (by omega) (by omega)) (lvc_s (lvc_s (lvc_s (lvc_s (lvc_s (lvc_s (lvc_s (lvc_i (by omega) rfl)))))))) rfl (rfl) (rfl)
                  · refine at_iconst C dX7_rests_92 ?_
                    refine at_goto C 97 dX7_rests_93 (by decide) ?_
                    refine at_vi (y := (sB (rst i j (9 - oA) (9 - oB) (k + 1)))) (sB_t (rst_y (by assumption) (by omega) (by omega))) ?_
                    refine at_istore C [(6, .int (sB (rst i j (9 - oA) (9 - oB) (k + 1)))), (0, .int (sI ((i : Int)))), (1, .int (sI ((j : Int)))), (2, .int (sI (oA))), (3, .int (sI (oB))), (4, .int (sI (gF i j (9 - oA)))), (5, .int (sI (gS i j (9 - oB)))), (7, .int (sI ((k : Int))))] dX7_rests_97 (by decide) rfl ?_
                    refine at_iinc C 7 [(7, .int (sI ((k : Int) + 1))), (6, .int (sB (rst i j (9 - oA) (9 - oB) (k + 1)))), (0, .int (sI ((i : Int)))), (1, .int (sI ((j : Int)))), (2, .int (sI (oA))), (3, .int (sI (oB))), (4, .int (sI (gF i j (9 - oA)))), (5, .int (sI (gS i j (9 - oB))))] dX7_rests_99 rfl (by decide) rfl ?_
                    refine at_goto C 38 dX7_rests_102 (by decide) ?_
                    refine at_lv [2, 3, 4, 5, 6, 7, 1, 0] rfl ?_
                    exact at_eq (ih38 (k + 1) (by omega) (by omega)) (lvc_s (lvc_s (lvc_s (lvc_s (lvc_s (lvc_s (lvc_s (lvc_i (by omega) rfl)))))))) rfl (rfl) (rfl)
                · refine at_iconst C dX7_rests_79 ?_
                  refine at_goto C 89 dX7_rests_80 (by decide) ?_
                  refine at_ve (b := gS i k (9 - oB)) (by unfold gS; first | (rw [if_pos (by omega)]; done) | (rw [if_neg (by omega)]; done) | omega) ?_
                  refine at_icmp_lt C 96 dX7_rests_89 (by decide) (⟨by omega, by omega⟩) (⟨by omega, by omega⟩) (fun h27 => ?_) (fun h27 => ?_)
                  · refine at_iconst C dX7_rests_96 ?_
                    refine at_vi (y := (sB (rst i j (9 - oA) (9 - oB) (k + 1)))) (sB_f (by first | exact rst_c (by assumption) | exact rst_d (by omega) | exact rst_e (by omega))) ?_
                    refine at_istore C [(6, .int (sB (rst i j (9 - oA) (9 - oB) (k + 1)))), (0, .int (sI ((i : Int)))), (1, .int (sI ((j : Int)))), (2, .int (sI (oA))), (3, .int (sI (oB))), (4, .int (sI (gF i j (9 - oA)))), (5, .int (sI (gS i j (9 - oB)))), (7, .int (sI ((k : Int))))] dX7_rests_97 (by decide) rfl ?_
                    refine at_iinc C 7 [(7, .int (sI ((k : Int) + 1))), (6, .int (sB (rst i j (9 - oA) (9 - oB) (k + 1)))), (0, .int (sI ((i : Int)))), (1, .int (sI ((j : Int)))), (2, .int (sI (oA))), (3, .int (sI (oB))), (4, .int (sI (gF i j (9 - oA)))), (5, .int (sI (gS i j (9 - oB))))] dX7_rests_99 rfl (by decide) rfl ?_
                    refine at_goto C 38 dX7_rests_102 (by decide) ?_
                    refine at_lv [2, 3, 4, 5, 6, 7, 1, 0] rfl ?_
                    exact at_eq (ih38 (k + 1) (by omega) (by omega)) (lvc_s (lvc_s (lvc_s (lvc_s (lvc_s (lvc_s (lvc_s (lvc_i (by omega) rfl)))))))) rfl (rfl) (rfl)
                  · refine at_iconst C dX7_rests_92 ?_
                    refine at_goto C 97 dX7_rests_93 (by decide) ?_
                    refine at_vi (y := (sB (rst i j (9 - oA) (9 - oB) (k + 1)))) (sB_t (rst_y (by assumption) (by omega) (by omega))) ?_
                    refine at_istore C [(6, .int (sB (rst i j (9 - oA) (9 - oB) (k + 1)))), (0, .int (sI ((i : Int)))), (1, .int (sI ((j : Int)))), (2, .int (sI (oA))), (3, .int (sI (oB))), (4, .int (sI (gF i j (9 - oA)))), (5, .int (sI (gS i j (9 - oB)))), (7, .int (sI ((k : Int))))] dX7_rests_97 (by decide) rfl ?_
                    refine at_iinc C 7 [(7, .int (sI ((k : Int) + 1))), (6, .int (sB (rst i j (9 - oA) (9 - oB) (k + 1)))), (0, .int (sI ((i : Int)))), (1, .int (sI ((j : Int)))), (2, .int (sI (oA))), (3, .int (sI (oB))), (4, .int (sI (gF i j (9 - oA)))), (5, .int (sI (gS i j (9 - oB))))] dX7_rests_99 rfl (by decide) rfl ?_
                    refine at_goto C 38 dX7_rests_102 (by decide) ?_
                    refine at_lv [2, 3, 4, 5, 6, 7, 1, 0] rfl ?_
                    exact at_eq (ih38 (k + 1) (by omega) (by omega)) (lvc_s (lvc_s (lvc_s (lvc_s (lvc_s (lvc_s (lvc_s (lvc_i (by omega) rfl)))))))) rfl (rfl) (rfl)
            · refine at_iload C 7 dX7_rests_58 rfl ?_
              refine at_iload_n C 2 dX7_rests_60 rfl ?_
              refine at_stat_i C (c_X7_winBy l D G k oA (by omega) ⟨by omega, by omega⟩) (As := [.int (sI ((k : Int))), .int (sI (oA))]) qw_1374 qw_1372 qw_8 qw_1373 ⟨by decide, by decide, show (parseMethodDescriptor yX7_winBy.desc).map (fun d => d.parameters.length) = some 2 by decide +kernel⟩ ⟨by decide, by decide⟩ ⟨Nat.zero_le _, Nat.zero_le _⟩ (Nat.le_of_ble_eq_true rfl) dX7_rests_61 rfl (fun r M' L' hp28 => ?_)
              obtain ⟨rfl, rfl, rfl⟩ := hp28
              refine at_goto C 68 dX7_rests_64 (by decide) ?_
              refine at_ve (b := gF k j (9 - oA)) (by unfold gF; first | (rw [if_pos (by omega)]; done) | (rw [if_neg (by omega)]; done) | omega) ?_
              refine at_icmp_lt C 96 dX7_rests_68 (by decide) (⟨by omega, by omega⟩) (⟨by omega, by omega⟩) (fun h29 => ?_) (fun h29 => ?_)
              · refine at_iconst C dX7_rests_96 ?_
                refine at_vi (y := (sB (rst i j (9 - oA) (9 - oB) (k + 1)))) (sB_f (by first | exact rst_c (by assumption) | exact rst_d (by omega) | exact rst_e (by omega))) ?_
                refine at_istore C [(6, .int (sB (rst i j (9 - oA) (9 - oB) (k + 1)))), (0, .int (sI ((i : Int)))), (1, .int (sI ((j : Int)))), (2, .int (sI (oA))), (3, .int (sI (oB))), (4, .int (sI (gF i j (9 - oA)))), (5, .int (sI (gS i j (9 - oB)))), (7, .int (sI ((k : Int))))] dX7_rests_97 (by decide) rfl ?_
                refine at_iinc C 7 [(7, .int (sI ((k : Int) + 1))), (6, .int (sB (rst i j (9 - oA) (9 - oB) (k + 1)))), (0, .int (sI ((i : Int)))), (1, .int (sI ((j : Int)))), (2, .int (sI (oA))), (3, .int (sI (oB))), (4, .int (sI (gF i j (9 - oA)))), (5, .int (sI (gS i j (9 - oB))))] dX7_rests_99 rfl (by decide) rfl ?_
                refine at_goto C 38 dX7_rests_102 (by decide) ?_
                refine at_lv [2, 3, 4, 5, 6, 7, 1, 0] rfl ?_
                exact at_eq (ih38 (k + 1) (by omega) (by omega)) (lvc_s (lvc_s (lvc_s (lvc_s (lvc_s (lvc_s (lvc_s (lvc_i (by omega) rfl)))))))) rfl (rfl) (rfl)
              · refine at_iload C 5 dX7_rests_71 rfl ?_
                refine at_iload_n C 0 dX7_rests_73 rfl ?_
                refine at_iload C 7 dX7_rests_74 rfl ?_
                refine at_icmp_gt C 83 dX7_rests_76 (by decide) (⟨by omega, by omega⟩) (⟨by omega, by omega⟩) (fun h30 => ?_) (fun h30 => ?_)
                · refine at_iload C 7 dX7_rests_83 rfl ?_
                  refine at_iload_n C 3 dX7_rests_85 rfl ?_
                  refine at_stat_i C (c_X7_winBy l D G k oB (by omega) ⟨by omega, by omega⟩) (As := [.int (sI ((k : Int))), .int (sI (oB))]) qw_1374 qw_1372 qw_8 qw_1373 ⟨by decide, by decide, show (parseMethodDescriptor yX7_winBy.desc).map (fun d => d.parameters.length) = some 2 by decide +kernel⟩ ⟨by decide, by decide⟩ ⟨Nat.zero_le _, Nat.zero_le _⟩ (Nat.le_of_ble_eq_true rfl) dX7_rests_86 rfl (fun r M' L' hp31 => ?_)
                  obtain ⟨rfl, rfl, rfl⟩ := hp31
                  refine at_ve (b := gS i k (9 - oB)) (by unfold gS; first | (rw [if_pos (by omega)]; done) | (rw [if_neg (by omega)]; done) | omega) ?_
                  refine at_icmp_lt C 96 dX7_rests_89 (by decide) (⟨by omega, by omega⟩) (⟨by omega, by omega⟩) (fun h32 => ?_) (fun h32 => ?_)
                  · refine at_iconst C dX7_rests_96 ?_
                    refine at_vi (y := (sB (rst i j (9 - oA) (9 - oB) (k + 1)))) (sB_f (by first | exact rst_c (by assumption) | exact rst_d (by omega) | exact rst_e (by omega))) ?_
                    refine at_istore C [(6, .int (sB (rst i j (9 - oA) (9 - oB) (k + 1)))), (0, .int (sI ((i : Int)))), (1, .int (sI ((j : Int)))), (2, .int (sI (oA))), (3, .int (sI (oB))), (4, .int (sI (gF i j (9 - oA)))), (5, .int (sI (gS i j (9 - oB)))), (7, .int (sI ((k : Int))))] dX7_rests_97 (by decide) rfl ?_
                    refine at_iinc C 7 [(7, .int (sI ((k : Int) + 1))), (6, .int (sB (rst i j (9 - oA) (9 - oB) (k + 1)))), (0, .int (sI ((i : Int)))), (1, .int (sI ((j : Int)))), (2, .int (sI (oA))), (3, .int (sI (oB))), (4, .int (sI (gF i j (9 - oA)))), (5, .int (sI (gS i j (9 - oB))))] dX7_rests_99 rfl (by decide) rfl ?_
                    refine at_goto C 38 dX7_rests_102 (by decide) ?_
                    refine at_lv [2, 3, 4, 5, 6, 7, 1, 0] rfl ?_
                    exact at_eq (ih38 (k + 1) (by omega) (by omega)) (lvc_s (lvc_s (lvc_s (lvc_s (lvc_s (lvc_s (lvc_s (lvc_i (by omega) rfl)))))))) rfl (rfl) (rfl)
                  · refine at_iconst C dX7_rests_92 ?_
                    refine at_goto C 97 dX7_rests_93 (by decide) ?_
                    refine at_vi (y := (sB (rst i j (9 - oA) (9 - oB) (k + 1)))) (sB_t (rst_y (by assumption) (by omega) (by omega))) ?_
                    refine at_istore C [(6, .int (sB (rst i j (9 - oA) (9 - oB) (k + 1)))), (0, .int (sI ((i : Int)))), (1, .int (sI ((j : Int)))), (2, .int (sI (oA))), (3, .int (sI (oB))), (4, .int (sI (gF i j (9 - oA)))), (5, .int (sI (gS i j (9 - oB)))), (7, .int (sI ((k : Int))))] dX7_rests_97 (by decide) rfl ?_
                    refine at_iinc C 7 [(7, .int (sI ((k : Int) + 1))), (6, .int (sB (rst i j (9 - oA) (9 - oB) (k + 1)))), (0, .int (sI ((i : Int)))), (1, .int (sI ((j : Int)))), (2, .int (sI (oA))), (3, .int (sI (oB))), (4, .int (sI (gF i j (9 - oA)))), (5, .int (sI (gS i j (9 - oB))))] dX7_rests_99 rfl (by decide) rfl ?_
                    refine at_goto C 38 dX7_rests_102 (by decide) ?_
                    refine at_lv [2, 3, 4, 5, 6, 7, 1, 0] rfl ?_
                    exact at_eq (ih38 (k + 1) (by omega) (by omega)) (lvc_s (lvc_s (lvc_s (lvc_s (lvc_s (lvc_s (lvc_s (lvc_i (by omega) rfl)))))))) rfl (rfl) (rfl)
                · refine at_iconst C dX7_rests_79 ?_
                  refine at_goto C 89 dX7_rests_80 (by decide) ?_
                  refine at_ve (b := gS i k (9 - oB)) (by unfold gS; first | (rw [if_pos (by omega)]; done) | (rw [if_neg (by omega)]; done) | omega) ?_
                  refine at_icmp_lt C 96 dX7_rests_89 (by decide) (⟨by omega, by omega⟩) (⟨by omega, by omega⟩) (fun h33 => ?_) (fun h33 => ?_)
                  · refine at_iconst C dX7_rests_96 ?_
                    refine at_vi (y := (sB (rst i j (9 - oA) (9 - oB) (k + 1)))) (sB_f (by first | exact rst_c (by assumption) | exact rst_d (by omega) | exact rst_e (by omega))) ?_
                    refine at_istore C [(6, .int (sB (rst i j (9 - oA) (9 - oB) (k + 1)))), (0, .int (sI ((i : Int)))), (1, .int (sI ((j : Int)))), (2, .int (sI (oA))), (3, .int (sI (oB))), (4, .int (sI (gF i j (9 - oA)))), (5, .int (sI (gS i j (9 - oB)))), (7, .int (sI ((k : Int))))] dX7_rests_97 (by decide) rfl ?_
                    refine at_iinc C 7 [(7, .int (sI ((k : Int) + 1))), (6, .int (sB (rst i j (9 - oA) (9 - oB) (k + 1)))), (0, .int (sI ((i : Int)))), (1, .int (sI ((j : Int)))), (2, .int (sI (oA))), (3, .int (sI (oB))), (4, .int (sI (gF i j (9 - oA)))), (5, .int (sI (gS i j (9 - oB))))] dX7_rests_99 rfl (by decide) rfl ?_
                    refine at_goto C 38 dX7_rests_102 (by decide) ?_
                    refine at_lv [2, 3, 4, 5, 6, 7, 1, 0] rfl ?_
                    exact at_eq (ih38 (k + 1) (by omega) (by omega)) (lvc_s (lvc_s (lvc_s (lvc_s (lvc_s (lvc_s (lvc_s (lvc_i (by omega) rfl)))))))) rfl (rfl) (rfl)
                  · refine at_iconst C dX7_rests_92 ?_
                    refine at_goto C 97 dX7_rests_93 (by decide) ?_
                    refine at_vi (y := (sB (rst i j (9 - oA) (9 - oB) (k + 1)))) (sB_t (rst_y (by assumption) (by omega) (by omega))) ?_
                    refine at_istore C [(6, .int (sB (rst i j (9 - oA) (9 - oB) (k + 1)))), (0, .int (sI ((i : Int)))), (1, .int (sI ((j : Int)))), (2, .int (sI (oA))), (3, .int (sI (oB))), (4, .int (sI (gF i j (9 - oA)))), (5, .int (sI (gS i j (9 - oB)))), (7, .int (sI ((k : Int))))] dX7_rests_97 (by decide) rfl ?_
                    refine at_iinc C 7 [(7, .int (sI ((k : Int) + 1))), (6, .int (sB (rst i j (9 - oA) (9 - oB) (k + 1)))), (0, .int (sI ((i : Int)))), (1, .int (sI ((j : Int)))), (2, .int (sI (oA))), (3, .int (sI (oB))), (4, .int (sI (gF i j (9 - oA)))), (5, .int (sI (gS i j (9 - oB))))] dX7_rests_99 rfl (by decide) rfl ?_
                    refine at_goto C 38 dX7_rests_102 (by decide) ?_
                    refine at_lv [2, 3, 4, 5, 6, 7, 1, 0] rfl ?_
                    exact at_eq (ih38 (k + 1) (by omega) (by omega)) (lvc_s (lvc_s (lvc_s (lvc_s (lvc_s (lvc_s (lvc_s (lvc_i (by omega) rfl)))))))) rfl (rfl) (rfl)
    refine at_lv [4, 5, 6, 7, 3, 2, 1, 0] rfl ?_
    exact at_eq (H38 _ 0 (Nat.lt_succ_self _) (by omega)) (lvc_s (lvc_s (lvc_s (lvc_s (lvc_s (lvc_s (lvc_s (lvc_i (rfl) rfl)))))))) rfl (rfl) (rfl)

set_option maxHeartbeats 4000000 in
set_option maxRecDepth 100000 in
theorem c_X7_claim (l : Launch) (D : va_G) (G : sG) {M : sM} {L : sL} (a b s k : Int) (har : InR a) (hbr : InR b) (hsr : InR s) (hkr : InR k) (hT : TInv M) (hc : qCt M) : sKi l D G yX7_claim cX7_claim 9 .int 5 109 [.ref (G.1 (258)), .int (sI (a)), .int (sI (b)), .int (sI (s)), .int (sI (k))] M L (fun r M' L' => r = sI (qrClaim M a b s k) ∧ M' = qB M (qokClaim M a b s k) ∧ TInv M' ∧ L = L') := by
  refine sKi_go (by decide) (Nat.le_of_ble_eq_true rfl) ?_
  intro zp ze zs zm za zb zt zc Q C hret
  refine at_eq (lv' := [(0, .ref (G.1 (258))), (1, .int (sI (a))), (2, .int (sI (b))), (3, .int (sI (s))), (4, .int (sI (k)))]) (st' := []) (M' := M) (L' := L) ?_ rfl rfl rfl rfl
  have hqn := qn_r hT
  have hqc := qc_r hT
  have hqu := qu_r hT
  have hqt := qt_r hT
  have hqs := qs_r hT
  have hqo := qo_r hT
  have hqm := qm_r hT
  refine at_aload_n C 0 dX7_claim_0 rfl ?_
  refine at_iload_n C 1 dX7_claim_1 rfl ?_
  refine at_call_i C (c_X7_isCaller l D G a ⟨by omega, by omega⟩ hT) (As := [.int (sI (a))]) (obj_Ref G) (ci := 7) rfl qw_1224 qw_1221 qw_8 qw_1223 qp_73 ⟨by decide, by decide, show (parseMethodDescriptor yX7_isCaller.desc).map (fun d => d.parameters.length) = some 1 by decide +kernel⟩ ⟨by decide, by decide⟩ ⟨Nat.zero_le _, Nat.zero_le _⟩ (Nat.le_of_ble_eq_true rfl) dX7_claim_2 rfl (fun r M' L' hp1 => ?_)
  obtain ⟨rfl, rfl, rfl⟩ := hp1
  refine at_if_eqB C 35 dX7_claim_5 (by decide) (fun h2 => ?_) (fun h2 => ?_)
  · refine at_aload_n C 0 dX7_claim_35 rfl ?_
    refine at_call_i C (c_X7_tenBad l D G hT ⟨by omega, by omega, by omega⟩) (As := []) (obj_Ref G) (ci := 7) rfl qw_1008 qw_1005 qw_8 qw_1007 qp_33 ⟨by decide, by decide, show (parseMethodDescriptor yX7_tenBad.desc).map (fun d => d.parameters.length) = some 0 by decide +kernel⟩ ⟨by decide, by decide⟩ ⟨Nat.zero_le _, Nat.zero_le _⟩ (Nat.le_of_ble_eq_true rfl) dX7_claim_36 rfl (fun r M' L' hp4 => ?_)
    obtain ⟨rfl, rfl, hT3, rfl⟩ := hp4
    exact hret _ _ _ _ _ dX7_claim_39 (⟨congrArg sI (if_neg (by omega)).symm, (if_neg (by omega)).symm, hT3, rfl⟩)
  · refine at_aload_n C 0 dX7_claim_8 rfl ?_
    refine at_iload_n C 2 dX7_claim_9 rfl ?_
    refine at_call_i C (c_X7_isCaller l D G b ⟨by omega, by omega⟩ hT) (As := [.int (sI (b))]) (obj_Ref G) (ci := 7) rfl qw_1224 qw_1221 qw_8 qw_1223 qp_73 ⟨by decide, by decide, show (parseMethodDescriptor yX7_isCaller.desc).map (fun d => d.parameters.length) = some 1 by decide +kernel⟩ ⟨by decide, by decide⟩ ⟨Nat.zero_le _, Nat.zero_le _⟩ (Nat.le_of_ble_eq_true rfl) dX7_claim_10 rfl (fun r M' L' hp5 => ?_)
    obtain ⟨rfl, rfl, rfl⟩ := hp5
    refine at_if_eqB C 35 dX7_claim_13 (by decide) (fun h6 => ?_) (fun h6 => ?_)
    · refine at_aload_n C 0 dX7_claim_35 rfl ?_
      refine at_call_i C (c_X7_tenBad l D G hT ⟨by omega, by omega, by omega⟩) (As := []) (obj_Ref G) (ci := 7) rfl qw_1008 qw_1005 qw_8 qw_1007 qp_33 ⟨by decide, by decide, show (parseMethodDescriptor yX7_tenBad.desc).map (fun d => d.parameters.length) = some 0 by decide +kernel⟩ ⟨by decide, by decide⟩ ⟨Nat.zero_le _, Nat.zero_le _⟩ (Nat.le_of_ble_eq_true rfl) dX7_claim_36 rfl (fun r M' L' hp8 => ?_)
      obtain ⟨rfl, rfl, hT7, rfl⟩ := hp8
      exact hret _ _ _ _ _ dX7_claim_39 (⟨congrArg sI (if_neg (by omega)).symm, (if_neg (by omega)).symm, hT7, rfl⟩)
    · refine at_iload_n C 1 dX7_claim_16 rfl ?_
      refine at_iload_n C 2 dX7_claim_17 rfl ?_
      refine at_icmp_eq C 35 dX7_claim_18 (by decide) (⟨by omega, by omega⟩) (⟨by omega, by omega⟩) (fun h9 => ?_) (fun h9 => ?_)
      · refine at_aload_n C 0 dX7_claim_35 rfl ?_
        refine at_call_i C (c_X7_tenBad l D G hT ⟨by omega, by omega, by omega⟩) (As := []) (obj_Ref G) (ci := 7) rfl qw_1008 qw_1005 qw_8 qw_1007 qp_33 ⟨by decide, by decide, show (parseMethodDescriptor yX7_tenBad.desc).map (fun d => d.parameters.length) = some 0 by decide +kernel⟩ ⟨by decide, by decide⟩ ⟨Nat.zero_le _, Nat.zero_le _⟩ (Nat.le_of_ble_eq_true rfl) dX7_claim_36 rfl (fun r M' L' hp11 => ?_)
        obtain ⟨rfl, rfl, hT10, rfl⟩ := hp11
        exact hret _ _ _ _ _ dX7_claim_39 (⟨congrArg sI (if_neg (by omega)).symm, (if_neg (by omega)).symm, hT10, rfl⟩)
      · refine at_aload_n C 0 dX7_claim_21 rfl ?_
        refine at_iload_n C 3 dX7_claim_22 rfl ?_
        refine at_call_i C (c_X7_isSoul l D G s ⟨by omega, by omega⟩ hT) (As := [.int (sI (s))]) (obj_Ref G) (ci := 7) rfl qw_1177 qw_1174 qw_8 qw_1176 qp_65 ⟨by decide, by decide, show (parseMethodDescriptor yX7_isSoul.desc).map (fun d => d.parameters.length) = some 1 by decide +kernel⟩ ⟨by decide, by decide⟩ ⟨Nat.zero_le _, Nat.zero_le _⟩ (Nat.le_of_ble_eq_true rfl) dX7_claim_23 rfl (fun r M' L' hp12 => ?_)
        obtain ⟨rfl, rfl, rfl⟩ := hp12
        refine at_if_eqB C 35 dX7_claim_26 (by decide) (fun h13 => ?_) (fun h13 => ?_)
        · refine at_aload_n C 0 dX7_claim_35 rfl ?_
          refine at_call_i C (c_X7_tenBad l D G hT ⟨by omega, by omega, by omega⟩) (As := []) (obj_Ref G) (ci := 7) rfl qw_1008 qw_1005 qw_8 qw_1007 qp_33 ⟨by decide, by decide, show (parseMethodDescriptor yX7_tenBad.desc).map (fun d => d.parameters.length) = some 0 by decide +kernel⟩ ⟨by decide, by decide⟩ ⟨Nat.zero_le _, Nat.zero_le _⟩ (Nat.le_of_ble_eq_true rfl) dX7_claim_36 rfl (fun r M' L' hp15 => ?_)
          obtain ⟨rfl, rfl, hT14, rfl⟩ := hp15
          exact hret _ _ _ _ _ dX7_claim_39 (⟨congrArg sI (if_neg (by omega)).symm, (if_neg (by omega)).symm, hT14, rfl⟩)
        · refine at_iload C 4 dX7_claim_29 rfl ?_
          refine at_iconst C dX7_claim_31 ?_
          refine at_icmp_ge C 40 dX7_claim_32 (by decide) (⟨by omega, by omega⟩) (⟨by omega, by omega⟩) (fun h16 => ?_) (fun h16 => ?_)
          · obtain ⟨sn, rfl⟩ : ∃ sn : Nat, s = (sn : Int) := ⟨s.toNat, by omega⟩
            obtain ⟨an, rfl⟩ : ∃ an : Nat, a = (an : Int) := ⟨a.toNat, by omega⟩
            obtain ⟨bn, rfl⟩ : ∃ bn : Nat, b = (bn : Int) := ⟨b.toNat, by omega⟩
            refine at_iconst C dX7_claim_40 ?_
            refine at_istore C [(5, .int (sI (0))), (0, .ref (G.1 (258))), (1, .int (sI ((an : Int)))), (2, .int (sI ((bn : Int)))), (3, .int (sI ((sn : Int)))), (4, .int (sI (k)))] dX7_claim_41 (by decide) rfl ?_
            refine at_bipush C dX7_claim_43 (by decide) (by decide) ?_
            refine at_istore C [(6, .int (sI (-5))), (5, .int (sI (0))), (0, .ref (G.1 (258))), (1, .int (sI ((an : Int)))), (2, .int (sI ((bn : Int)))), (3, .int (sI ((sn : Int)))), (4, .int (sI (k)))] dX7_claim_45 (by decide) rfl ?_
            refine at_iconst C dX7_claim_47 ?_
            refine at_istore C [(7, .int (sI (0))), (6, .int (sI (-5))), (5, .int (sI (0))), (0, .ref (G.1 (258))), (1, .int (sI ((an : Int)))), (2, .int (sI ((bn : Int)))), (3, .int (sI ((sn : Int)))), (4, .int (sI (k)))] dX7_claim_48 (by decide) rfl ?_
            have H50 : ∀ (fu : Nat) (i : Nat), 10 - i < fu → (i ≤ 10) → sAt zp l ze (sRm 5 109) zs zm za zb zt zc D G 9 0 0 Q 50 [(0, .ref (G.1 (258))), (1, .int (sI ((an : Int)))), (2, .int (sI ((bn : Int)))), (3, .int (sI ((sn : Int)))), (4, .int (sI (k))), (5, .int (sI (cnt (cR (9 - (qDst M sn an)) (9 - (qDst M sn bn))) (10 * i)))), (6, .int (sI (clT (9 - (qDst M sn an)) (9 - (qDst M sn bn)) k (10 * i)))), (7, .int (sI ((i : Int))))] [] M L := by
              intro fu
              induction fu with
              | zero => intro i hd hi; exact absurd hd (Nat.not_lt_zero _)
              | succ fu ih50 =>
                intro i hd50 hi
                have hcc := cnt_r (cR (9 - (qDst M sn an)) (9 - (qDst M sn bn))) (10 * i)
                have hct := clT_r (9 - (qDst M sn an)) (9 - (qDst M sn bn)) k (10 * i)
                refine at_iload C 7 dX7_claim_50 rfl ?_
                refine at_bipush C dX7_claim_52 (by decide) (by decide) ?_
                refine at_icmp_gt C 126 dX7_claim_54 (by decide) (⟨by omega, by omega⟩) (⟨by omega, by omega⟩) (fun h17 => ?_) (fun h17 => ?_)
                · refine at_iload C 4 dX7_claim_126 rfl ?_
                  refine at_iconst C dX7_claim_128 ?_
                  refine at_icmp_ne C 137 dX7_claim_129 (by decide) (⟨by omega, by omega⟩) (⟨by omega, by omega⟩) (fun h18 => ?_) (fun h18 => ?_)
                  · refine at_iload C 6 dX7_claim_137 rfl ?_
                    exact hret _ _ _ _ _ dX7_claim_139 (⟨congrArg sI (by unfold qrClaim qclm; rw [if_pos (by omega), if_neg (by omega), show i = 10 by omega]; rfl), (if_pos (by omega)).symm, hT, rfl⟩)
                  · refine at_iload C 5 dX7_claim_132 rfl ?_
                    refine at_goto C 139 dX7_claim_134 (by decide) ?_
                    exact hret _ _ _ _ _ dX7_claim_139 (⟨congrArg sI (by unfold qrClaim qclm; rw [if_pos (by omega), if_pos (by omega), show i = 10 by omega]; rfl), (if_pos (by omega)).symm, hT, rfl⟩)
                · refine at_iconst C dX7_claim_57 ?_
                  refine at_istore C [(8, .int (sI (0))), (0, .ref (G.1 (258))), (1, .int (sI ((an : Int)))), (2, .int (sI ((bn : Int)))), (3, .int (sI ((sn : Int)))), (4, .int (sI (k))), (5, .int (sI (cnt (cR (9 - (qDst M sn an)) (9 - (qDst M sn bn))) (10 * i)))), (6, .int (sI (clT (9 - (qDst M sn an)) (9 - (qDst M sn bn)) k (10 * i)))), (7, .int (sI ((i : Int))))] dX7_claim_58 (by decide) rfl ?_
                  have H60 : ∀ (fu : Nat) (j : Nat), 10 - j < fu → (j ≤ 10) → sAt zp l ze (sRm 5 109) zs zm za zb zt zc D G 9 0 0 Q 60 [(0, .ref (G.1 (258))), (1, .int (sI ((an : Int)))), (2, .int (sI ((bn : Int)))), (3, .int (sI ((sn : Int)))), (4, .int (sI (k))), (5, .int (sI (cnt (cR (9 - (qDst M sn an)) (9 - (qDst M sn bn))) (10 * i + j)))), (6, .int (sI (clT (9 - (qDst M sn an)) (9 - (qDst M sn bn)) k (10 * i + j)))), (7, .int (sI ((i : Int)))), (8, .int (sI ((j : Int))))] [] M L := by
                    intro fu
                    induction fu with
                    | zero => intro j hd hj; exact absurd hd (Nat.not_lt_zero _)
                    | succ fu ih60 =>
                      intro j hd60 hj
                      have hcc := cnt_r (cR (9 - (qDst M sn an)) (9 - (qDst M sn bn))) (10 * i + j)
                      have hct := clT_r (9 - (qDst M sn an)) (9 - (qDst M sn bn)) k (10 * i + j)
                      refine at_iload C 8 dX7_claim_60 rfl ?_
                      refine at_bipush C dX7_claim_62 (by decide) (by decide) ?_
                      refine at_icmp_gt C 120 dX7_claim_64 (by decide) (⟨by omega, by omega⟩) (⟨by omega, by omega⟩) (fun h19 => ?_) (fun h19 => ?_)
                      · refine at_iinc C 7 [(7, .int (sI ((i : Int) + 1))), (0, .ref (G.1 (258))), (1, .int (sI ((an : Int)))), (2, .int (sI ((bn : Int)))), (3, .int (sI ((sn : Int)))), (4, .int (sI (k))), (5, .int (sI (cnt (cR (9 - (qDst M sn an)) (9 - (qDst M sn bn))) (10 * i + j)))), (6, .int (sI (clT (9 - (qDst M sn an)) (9 - (qDst M sn bn)) k (10 * i + j)))), (8, .int (sI ((j : Int))))] dX7_claim_120 rfl (by decide) rfl ?_
                        refine at_goto C 50 dX7_claim_123 (by decide) ?_
                        refine at_lv [1, 2, 3, 4, 5, 6, 7, 0] rfl ?_
                        exact at_eq (ih50 (i + 1) (by omega) (by omega)) (lvc_s (lvc_s (lvc_s (lvc_s (lvc_s (lvc_i (by rw [show 10 * (i + 1) = 10 * i + j by omega]) (lvc_i (by rw [show 10 * (i + 1) = 10 * i + j by omega]) (lvc_i (by omega) rfl)))))))) rfl (rfl) (rfl)
                      · refine at_iload C 7 dX7_claim_67 rfl ?_
                        refine at_iload C 8 dX7_claim_69 rfl ?_
                        refine at_aload_n C 0 dX7_claim_71 rfl ?_
                        refine at_iload_n C 3 dX7_claim_72 rfl ?_
                        refine at_iload_n C 1 dX7_claim_73 rfl ?_
                        refine at_call_i C (c_X7_off l D G sn (by omega) an (by omega) hT) (As := [.int (sI ((sn : Int))), .int (sI ((an : Int)))]) (obj_Ref G) (ci := 7) rfl qw_1152 qw_1149 qw_8 qw_1151 qp_61 ⟨by decide, by decide, show (parseMethodDescriptor yX7_off.desc).map (fun d => d.parameters.length) = some 2 by decide +kernel⟩ ⟨by decide, by decide⟩ ⟨Nat.zero_le _, Nat.zero_le _⟩ (Nat.le_of_ble_eq_true rfl) dX7_claim_74 rfl (fun r M' L' hp21 => ?_)
                        obtain ⟨rfl, rfl, rfl⟩ := hp21
                        have hb20 := qDst_r hT sn an
                        refine at_aload_n C 0 dX7_claim_77 rfl ?_
                        refine at_iload_n C 3 dX7_claim_78 rfl ?_
                        refine at_iload_n C 2 dX7_claim_79 rfl ?_
                        refine at_call_i C (c_X7_off l D G sn (by omega) bn (by omega) hT) (As := [.int (sI ((sn : Int))), .int (sI ((bn : Int)))]) (obj_Ref G) (ci := 7) rfl qw_1152 qw_1149 qw_8 qw_1151 qp_61 ⟨by decide, by decide, show (parseMethodDescriptor yX7_off.desc).map (fun d => d.parameters.length) = some 2 by decide +kernel⟩ ⟨by decide, by decide⟩ ⟨Nat.zero_le _, Nat.zero_le _⟩ (Nat.le_of_ble_eq_true rfl) dX7_claim_80 rfl (fun r M' L' hp23 => ?_)
                        obtain ⟨rfl, rfl, rfl⟩ := hp23
                        have hb22 := qDst_r hT sn bn
                        refine at_stat_i C (c_X7_rests l D G i j (qDst M sn an) (qDst M sn bn) (by omega) (by omega) ⟨by omega, by omega⟩ ⟨by omega, by omega⟩) (As := [.int (sI ((i : Int))), .int (sI ((j : Int))), .int (sI (qDst M sn an)), .int (sI (qDst M sn bn))]) qw_1371 qw_1369 qw_8 qw_1370 ⟨by decide, by decide, show (parseMethodDescriptor yX7_rests.desc).map (fun d => d.parameters.length) = some 4 by decide +kernel⟩ ⟨by decide, by decide⟩ ⟨Nat.zero_le _, Nat.zero_le _⟩ (Nat.le_of_ble_eq_true rfl) dX7_claim_83 rfl (fun r M' L' hp24 => ?_)
                        obtain ⟨rfl, rfl, rfl⟩ := hp24
                        refine at_if_eqB C 114 dX7_claim_86 (by decide) (fun h25 => ?_) (fun h25 => ?_)
                        · refine at_iinc C 8 [(8, .int (sI ((j : Int) + 1))), (0, .ref (G.1 (258))), (1, .int (sI ((an : Int)))), (2, .int (sI ((bn : Int)))), (3, .int (sI ((sn : Int)))), (4, .int (sI (k))), (5, .int (sI (cnt (cR (9 - (qDst M sn an)) (9 - (qDst M sn bn))) (10 * i + j)))), (6, .int (sI (clT (9 - (qDst M sn an)) (9 - (qDst M sn bn)) k (10 * i + j)))), (7, .int (sI ((i : Int))))] dX7_claim_114 rfl (by decide) rfl ?_
                          refine at_goto C 60 dX7_claim_117 (by decide) ?_
                          refine at_lv [1, 2, 3, 4, 5, 6, 7, 8, 0] rfl ?_
                          exact at_eq (ih60 (j + 1) (by omega) (by omega)) (lvc_s (lvc_s (lvc_s (lvc_s (lvc_s (lvc_i (by rw [show 10 * i + (j + 1) = (10 * i + j) + 1 from rfl, cnt_n (fun z => absurd ((cR_i (by omega)).mp z) (by assumption))]) (lvc_i (by rw [show 10 * i + (j + 1) = (10 * i + j) + 1 from rfl, clT_n (fun z => by first | exact absurd ((cR_i (by omega)).mp z.1) (by assumption) | exact absurd z.2 (by assumption))]) (lvc_s (lvc_i (by omega) rfl))))))))) rfl (rfl) (rfl)
                        · refine at_iload C 5 dX7_claim_89 rfl ?_
                          refine at_iload C 4 dX7_claim_91 rfl ?_
                          refine at_icmp_ne C 107 dX7_claim_93 (by decide) (⟨by omega, by omega⟩) (⟨by omega, by omega⟩) (fun h26 => ?_) (fun h26 => ?_)
                          · refine at_iload C 6 dX7_claim_107 rfl ?_
                            refine at_istore C [(6, .int (sI (clT (9 - (qDst M sn an)) (9 - (qDst M sn bn)) k (10 * i + j)))), (0, .ref (G.1 (258))), (1, .int (sI ((an : Int)))), (2, .int (sI ((bn : Int)))), (3, .int (sI ((sn : Int)))), (4, .int (sI (k))), (5, .int (sI (cnt (cR (9 - (qDst M sn an)) (9 - (qDst M sn bn))) (10 * i + j)))), (7, .int (sI ((i : Int)))), (8, .int (sI ((j : Int))))] dX7_claim_109 (by decide) rfl ?_
                            refine at_iinc C 6 [(5, .int (sI ((cnt (cR (9 - (qDst M sn an)) (9 - (qDst M sn bn))) (10 * i + j)) + 1))), (6, .int (sI (clT (9 - (qDst M sn an)) (9 - (qDst M sn bn)) k (10 * i + j)))), (0, .ref (G.1 (258))), (1, .int (sI ((an : Int)))), (2, .int (sI ((bn : Int)))), (3, .int (sI ((sn : Int)))), (4, .int (sI (k))), (7, .int (sI ((i : Int)))), (8, .int (sI ((j : Int))))] dX7_claim_111 rfl (by decide) rfl ?_
                            refine at_iinc C 8 [(8, .int (sI ((j : Int) + 1))), (5, .int (sI ((cnt (cR (9 - (qDst M sn an)) (9 - (qDst M sn bn))) (10 * i + j)) + 1))), (6, .int (sI (clT (9 - (qDst M sn an)) (9 - (qDst M sn bn)) k (10 * i + j)))), (0, .ref (G.1 (258))), (1, .int (sI ((an : Int)))), (2, .int (sI ((bn : Int)))), (3, .int (sI ((sn : Int)))), (4, .int (sI (k))), (7, .int (sI ((i : Int))))] dX7_claim_114 rfl (by decide) rfl ?_
                            refine at_goto C 60 dX7_claim_117 (by decide) ?_
                            refine at_lv [3, 4, 5, 6, 7, 1, 2, 8, 0] rfl ?_
                            exact at_eq (ih60 (j + 1) (by omega) (by omega)) (lvc_s (lvc_s (lvc_s (lvc_s (lvc_s (lvc_i (by rw [show 10 * i + (j + 1) = (10 * i + j) + 1 from rfl, cnt_y ((cR_i (by omega)).mpr (by assumption))]) (lvc_i (by rw [show 10 * i + (j + 1) = (10 * i + j) + 1 from rfl, clT_n (fun z => by first | exact absurd ((cR_i (by omega)).mp z.1) (by assumption) | exact absurd z.2 (by assumption))]) (lvc_s (lvc_i (by omega) rfl))))))))) rfl (rfl) (rfl)
                          · refine at_bipush C dX7_claim_96 (by decide) (by decide) ?_
                            refine at_iload C 7 dX7_claim_98 rfl ?_
                            refine at_imul C dX7_claim_100 ?_
                            refine at_iload C 8 dX7_claim_101 rfl ?_
                            refine at_iadd C dX7_claim_103 ?_
                            refine at_goto C 109 dX7_claim_104 (by decide) ?_
                            refine at_istore C [(6, .int (sI ((10 * (i : Int)) + (j : Int)))), (0, .ref (G.1 (258))), (1, .int (sI ((an : Int)))), (2, .int (sI ((bn : Int)))), (3, .int (sI ((sn : Int)))), (4, .int (sI (k))), (5, .int (sI (cnt (cR (9 - (qDst M sn an)) (9 - (qDst M sn bn))) (10 * i + j)))), (7, .int (sI ((i : Int)))), (8, .int (sI ((j : Int))))] dX7_claim_109 (by decide) rfl ?_
                            refine at_iinc C 6 [(5, .int (sI ((cnt (cR (9 - (qDst M sn an)) (9 - (qDst M sn bn))) (10 * i + j)) + 1))), (6, .int (sI ((10 * (i : Int)) + (j : Int)))), (0, .ref (G.1 (258))), (1, .int (sI ((an : Int)))), (2, .int (sI ((bn : Int)))), (3, .int (sI ((sn : Int)))), (4, .int (sI (k))), (7, .int (sI ((i : Int)))), (8, .int (sI ((j : Int))))] dX7_claim_111 rfl (by decide) rfl ?_
                            refine at_iinc C 8 [(8, .int (sI ((j : Int) + 1))), (5, .int (sI ((cnt (cR (9 - (qDst M sn an)) (9 - (qDst M sn bn))) (10 * i + j)) + 1))), (6, .int (sI ((10 * (i : Int)) + (j : Int)))), (0, .ref (G.1 (258))), (1, .int (sI ((an : Int)))), (2, .int (sI ((bn : Int)))), (3, .int (sI ((sn : Int)))), (4, .int (sI (k))), (7, .int (sI ((i : Int))))] dX7_claim_114 rfl (by decide) rfl ?_
                            refine at_goto C 60 dX7_claim_117 (by decide) ?_
                            refine at_lv [3, 4, 5, 6, 7, 1, 2, 8, 0] rfl ?_
                            exact at_eq (ih60 (j + 1) (by omega) (by omega)) (lvc_s (lvc_s (lvc_s (lvc_s (lvc_s (lvc_i (by rw [show 10 * i + (j + 1) = (10 * i + j) + 1 from rfl, cnt_y ((cR_i (by omega)).mpr (by assumption))]) (lvc_i (by rw [show 10 * i + (j + 1) = (10 * i + j) + 1 from rfl, clT_y ((cR_i (by omega)).mpr (by assumption)) (by assumption)]; omega) (lvc_s (lvc_i (by omega) rfl))))))))) rfl (rfl) (rfl)
                  refine at_lv [1, 2, 3, 4, 5, 6, 7, 8, 0] rfl ?_
                  exact at_eq (H60 _ 0 (Nat.lt_succ_self _) (by omega)) (lvc_s (lvc_s (lvc_s (lvc_s (lvc_s (lvc_i (rfl) (lvc_i (rfl) (lvc_s (lvc_i (rfl) rfl))))))))) rfl (rfl) (rfl)
            refine at_lv [3, 4, 5, 6, 7, 2, 1, 0] rfl ?_
            exact at_eq (H50 _ 0 (Nat.lt_succ_self _) (by omega)) (lvc_s (lvc_s (lvc_s (lvc_s (lvc_s (lvc_i (rfl) (lvc_i (rfl) (lvc_i (rfl) rfl)))))))) rfl (rfl) (rfl)
          · refine at_aload_n C 0 dX7_claim_35 rfl ?_
            refine at_call_i C (c_X7_tenBad l D G hT ⟨by omega, by omega, by omega⟩) (As := []) (obj_Ref G) (ci := 7) rfl qw_1008 qw_1005 qw_8 qw_1007 qp_33 ⟨by decide, by decide, show (parseMethodDescriptor yX7_tenBad.desc).map (fun d => d.parameters.length) = some 0 by decide +kernel⟩ ⟨by decide, by decide⟩ ⟨Nat.zero_le _, Nat.zero_le _⟩ (Nat.le_of_ble_eq_true rfl) dX7_claim_36 rfl (fun r M' L' hp28 => ?_)
            obtain ⟨rfl, rfl, hT27, rfl⟩ := hp28
            exact hret _ _ _ _ _ dX7_claim_39 (⟨congrArg sI (if_neg (by omega)).symm, (if_neg (by omega)).symm, hT27, rfl⟩)
