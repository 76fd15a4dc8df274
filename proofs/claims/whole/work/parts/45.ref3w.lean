set_option maxHeartbeats 4000000 in
set_option maxRecDepth 100000 in
theorem c_X7_lays (l : Launch) (D : va_G) (G : sG) {M : sM} {L : sL} {b a n : Nat} (hb : arI G b n) (hr : isRc b a n) (hT : TInv M) : sKv l D G yX7_lays cX7_lays 4 0 0 [.ref (G.1 (258)), .ref (G.1 (b)), .int (sI ((a : Int)))] M L (fun M' L' => M' = qLay M b a ∧ TInv M' ∧ L = L') := by
  refine sKv_go (by decide) (Nat.le_of_ble_eq_true rfl) ?_
  intro zp ze zs zm za zb zt zc Q C hret
  refine at_eq (lv' := [(0, .ref (G.1 (258))), (1, .ref (G.1 (b))), (2, .int (sI ((a : Int))))]) (st' := []) (M' := M) (L' := L) ?_ rfl rfl rfl rfl
  have hqn := qn_r hT
  have hqc := qc_r hT
  have hqu := qu_r hT
  have hqt := qt_r hT
  have hqs := qs_r hT
  have hqo := qo_r hT
  have hqm := qm_r hT
  have hr1 := hr.1
  have hr3 := hr.2.2.1
  have hb33 := tv hT (k := 258) (j := 3) (lo := 0) (hi := 2000) rfl
  have hb34 := tv hT (k := 258) (j := 4) (lo := 0) (hi := 11) rfl
  refine at_aload_n C 1 dX7_lays_0 rfl ?_
  refine at_iload_n C 2 dX7_lays_1 rfl ?_
  refine at_aload_n C 0 dX7_lays_2 rfl ?_
  refine at_getf (v := .int (sI (M 258 3))) C (obj_Ref G) (ci := 7) rfl inX7 (slot := 3) (by decide) qw_885 rfl rfl dX7_lays_3 ?_
  have hb1 : _ ≤ M 258 3 ∧ M 258 3 ≤ _ := tv hT (k := 258) (j := 3) rfl
  refine at_iast C a (hb) (rfl) (by omega) dX7_lays_6 ?_
  have hT2 : TInv (sSt M b a (M 258 3)) := tv_st hT (rc_0 hr) (⟨by omega, by omega⟩)
  refine at_aload_n C 1 dX7_lays_7 rfl ?_
  refine at_iload_n C 2 dX7_lays_8 rfl ?_
  refine at_iconst C dX7_lays_9 ?_
  refine at_iadd C dX7_lays_10 ?_
  refine at_aload_n C 0 dX7_lays_11 rfl ?_
  refine at_getf (v := .int (sI ((sSt M b a (M 258 3)) 258 4))) C (obj_Ref G) (ci := 7) rfl inX7 (slot := 4) (by decide) qw_886 rfl rfl dX7_lays_12 ?_
  have hb3 : _ ≤ (sSt M b a (M 258 3)) 258 4 ∧ (sSt M b a (M 258 3)) 258 4 ≤ _ := tv hT2 (k := 258) (j := 4) rfl
  refine at_ve (b := M 258 4) (by rw [sSt_ne (by omega)]) ?_
  refine at_iast C (a + 1) (hb) (by omega) (by omega) dX7_lays_15 ?_
  have hT4 : TInv (sSt (sSt M b a (M 258 3)) b (a + 1) (M 258 4)) := tv_st hT2 (rc_1 hr) (⟨by omega, by omega⟩)
  refine at_iconst C dX7_lays_16 ?_
  refine at_istore_n C [(3, .int (sI (0))), (0, .ref (G.1 (258))), (1, .ref (G.1 (b))), (2, .int (sI ((a : Int))))] dX7_lays_17 (by decide) rfl ?_
  have H18 : ∀ (fu : Nat) (k : Nat), 6 - k < fu → (k ≤ 6) → (TInv (qlN M b a k)) → sAt zp l ze (sRm 0 0) zs zm za zb zt zc D G 4 0 0 Q 18 [(0, .ref (G.1 (258))), (1, .ref (G.1 (b))), (2, .int (sI ((a : Int)))), (3, .int (sI ((k : Int))))] [] (qlN M b a k) L := by
    intro fu
    induction fu with
    | zero => intro k hd hk hTk; exact absurd hd (Nat.not_lt_zero _)
    | succ fu ih18 =>
      intro k hd18 hk hTk
      have hb3 := tv hT (k := 263) (j := k) (lo := -2) (hi := 11) rfl
      have hb4 := tv hT (k := 264) (j := k) (lo := -1) (hi := 5) rfl
      have hb5 := tv hT (k := 265) (j := k) (lo := 0) (hi := 99) rfl
      refine at_iload_n C 3 dX7_lays_18 rfl ?_
      refine at_bipush C dX7_lays_19 (by decide) (by decide) ?_
      refine at_icmp_ge C 71 dX7_lays_21 (by decide) (⟨by omega, by omega⟩) (⟨by omega, by omega⟩) (fun h5 => ?_) (fun h5 => ?_)
      · exact hret _ _ _ _ dX7_lays_71 (⟨by unfold qLay; rw [show k = 6 by omega], hTk, rfl⟩)
      · refine at_aload_n C 1 dX7_lays_24 rfl ?_
        refine at_iload_n C 2 dX7_lays_25 rfl ?_
        refine at_iconst C dX7_lays_26 ?_
        refine at_iadd C dX7_lays_27 ?_
        refine at_iload_n C 3 dX7_lays_28 rfl ?_
        refine at_iadd C dX7_lays_29 ?_
        refine at_aload_n C 0 dX7_lays_30 rfl ?_
        refine at_getf (v := .ref (G.1 (263))) C (obj_Ref G) (ci := 7) rfl inX7 (slot := 11) (by decide) qw_893 rfl rfl dX7_lays_31 ?_
        refine at_iload_n C 3 dX7_lays_34 rfl ?_
        refine at_iald C k (ar_263 G) (rfl) (by omega) dX7_lays_35 ?_
        have hb6 : _ ≤ (qlN M b a k) 263 k ∧ (qlN M b a k) 263 k ≤ _ := tv hTk (k := 263) (j := k) rfl
        refine at_ve (b := M 263 k) (by rw [qlN_b M (by omega)]) ?_
        refine at_iast C ((a + 2) + k) (hb) (by omega) (by omega) dX7_lays_36 ?_
        have hT7 : TInv (sSt (qlN M b a k) b ((a + 2) + k) (M 263 k)) := tv_st hTk (rc_p hr (by omega)) (⟨by omega, by omega⟩)
        refine at_aload_n C 1 dX7_lays_37 rfl ?_
        refine at_iload_n C 2 dX7_lays_38 rfl ?_
        refine at_bipush C dX7_lays_39 (by decide) (by decide) ?_
        refine at_iadd C dX7_lays_41 ?_
        refine at_iload_n C 3 dX7_lays_42 rfl ?_
        refine at_iadd C dX7_lays_43 ?_
        refine at_aload_n C 0 dX7_lays_44 rfl ?_
        refine at_getf (v := .ref (G.1 (264))) C (obj_Ref G) (ci := 7) rfl inX7 (slot := 12) (by decide) qw_894 rfl rfl dX7_lays_45 ?_
        refine at_iload_n C 3 dX7_lays_48 rfl ?_
        refine at_iald C k (ar_264 G) (rfl) (by omega) dX7_lays_49 ?_
        have hb8 : _ ≤ (sSt (qlN M b a k) b ((a + 2) + k) (M 263 k)) 264 k ∧ (sSt (qlN M b a k) b ((a + 2) + k) (M 263 k)) 264 k ≤ _ := tv hT7 (k := 264) (j := k) rfl
        refine at_ve (b := M 264 k) (by rw [sSt_ne (by omega), qlN_b M (by omega)]) ?_
        refine at_iast C ((a + 8) + k) (hb) (by omega) (by omega) dX7_lays_50 ?_
        have hT9 : TInv (sSt (sSt (qlN M b a k) b ((a + 2) + k) (M 263 k)) b ((a + 8) + k) (M 264 k)) := tv_st hT7 (rc_h hr (by omega)) (⟨by omega, by omega⟩)
        refine at_aload_n C 1 dX7_lays_51 rfl ?_
        refine at_iload_n C 2 dX7_lays_52 rfl ?_
        refine at_bipush C dX7_lays_53 (by decide) (by decide) ?_
        refine at_iadd C dX7_lays_55 ?_
        refine at_iload_n C 3 dX7_lays_56 rfl ?_
        refine at_iadd C dX7_lays_57 ?_
        refine at_aload_n C 0 dX7_lays_58 rfl ?_
        refine at_getf (v := .ref (G.1 (265))) C (obj_Ref G) (ci := 7) rfl inX7 (slot := 13) (by decide) qw_895 rfl rfl dX7_lays_59 ?_
        refine at_iload_n C 3 dX7_lays_62 rfl ?_
        refine at_iald C k (ar_265 G) (rfl) (by omega) dX7_lays_63 ?_
        have hb10 : _ ≤ (sSt (sSt (qlN M b a k) b ((a + 2) + k) (M 263 k)) b ((a + 8) + k) (M 264 k)) 265 k ∧ (sSt (sSt (qlN M b a k) b ((a + 2) + k) (M 263 k)) b ((a + 8) + k) (M 264 k)) 265 k ≤ _ := tv hT9 (k := 265) (j := k) rfl
        refine at_ve (b := M 265 k) (by rw [sSt_ne (by omega), sSt_ne (by omega), qlN_b M (by omega)]) ?_
        refine at_iast C ((a + 14) + k) (hb) (by omega) (by omega) dX7_lays_64 ?_
        have hT11 : TInv (sSt (sSt (sSt (qlN M b a k) b ((a + 2) + k) (M 263 k)) b ((a + 8) + k) (M 264 k)) b ((a + 14) + k) (M 265 k)) := tv_st hT9 (rc_d hr (by omega)) (⟨by omega, by omega⟩)
        refine at_iinc C 3 [(3, .int (sI ((k : Int) + 1))), (0, .ref (G.1 (258))), (1, .ref (G.1 (b))), (2, .int (sI ((a : Int))))] dX7_lays_65 rfl (by decide) rfl ?_
        refine at_goto C 18 dX7_lays_68 (by decide) ?_
        refine at_lv [1, 2, 3, 0] rfl ?_
        exact at_eq (ih18 (k + 1) (by omega) (by omega) (qlN_T hT hr (by omega))) (lvc_s (lvc_s (lvc_s (lvc_i (by omega) rfl)))) rfl (qlN_s M (by omega)) (rfl)
  refine at_lv [1, 2, 3, 0] rfl ?_
  exact at_eq (H18 _ 0 (Nat.lt_succ_self _) (by omega) ((qlN_0 M b a) ▸ hT4)) (lvc_s (lvc_s (lvc_s (lvc_i (rfl) rfl)))) rfl (qlN_0 M b a) (rfl)

set_option maxHeartbeats 4000000 in
set_option maxRecDepth 100000 in
theorem c_X7_takes (l : Launch) (D : va_G) (G : sG) {M : sM} {L : sL} {b a n : Nat} (hb : arI G b n) (hr : isRc b a n) (hT : TInv M) : sKv l D G yX7_takes cX7_takes 4 0 0 [.ref (G.1 (258)), .ref (G.1 (b)), .int (sI ((a : Int)))] M L (fun M' L' => M' = qTak M b a ∧ TInv M' ∧ L = L') := by
  refine sKv_go (by decide) (Nat.le_of_ble_eq_true rfl) ?_
  intro zp ze zs zm za zb zt zc Q C hret
  refine at_eq (lv' := [(0, .ref (G.1 (258))), (1, .ref (G.1 (b))), (2, .int (sI ((a : Int))))]) (st' := []) (M' := M) (L' := L) ?_ rfl rfl rfl rfl
  have hqn := qn_r hT
  have hqc := qc_r hT
  have hqu := qu_r hT
  have hqt := qt_r hT
  have hqs := qs_r hT
  have hqo := qo_r hT
  have hqm := qm_r hT
  have hr1 := hr.1
  have hr3 := hr.2.2.1
  have hq0 := tv hT (rc_0 hr)
  have hq1 := tv hT (rc_1 hr)
  refine at_aload_n C 0 dX7_takes_0 rfl ?_
  refine at_aload_n C 1 dX7_takes_1 rfl ?_
  refine at_iload_n C 2 dX7_takes_2 rfl ?_
  refine at_iald C a (hb) (rfl) (by omega) dX7_takes_3 ?_
  refine at_putM (slot := 3) (ty := .int) C tyX7 (obj_Ref G) (ci := 7) rfl inX7 tyX7_ok nmX7 (by decide) qw_885 rfl rfl (by decide +kernel) rfl rfl (Nat.le_of_ble_eq_true rfl) rfl dX7_takes_4 ?_
  have hT1 : TInv (sSt M 258 3 (M b a)) := tv_st hT (k := 258) (j := 3) rfl (⟨by omega, by omega⟩)
  refine at_aload_n C 0 dX7_takes_7 rfl ?_
  refine at_aload_n C 1 dX7_takes_8 rfl ?_
  refine at_iload_n C 2 dX7_takes_9 rfl ?_
  refine at_iconst C dX7_takes_10 ?_
  refine at_iadd C dX7_takes_11 ?_
  refine at_iald C (a + 1) (hb) (by omega) (by omega) dX7_takes_12 ?_
  refine at_ve (b := M b (a + 1)) (by rw [sSt_ne (by omega)]) ?_
  refine at_putM (slot := 4) (ty := .int) C tyX7 (obj_Ref G) (ci := 7) rfl inX7 tyX7_ok nmX7 (by decide) qw_886 rfl rfl (by decide +kernel) rfl rfl (Nat.le_of_ble_eq_true rfl) rfl dX7_takes_13 ?_
  have hT2 : TInv (sSt (sSt M 258 3 (M b a)) 258 4 (M b (a + 1))) := tv_st hT1 (k := 258) (j := 4) rfl (⟨by omega, by omega⟩)
  refine at_iconst C dX7_takes_16 ?_
  refine at_istore_n C [(3, .int (sI (0))), (0, .ref (G.1 (258))), (1, .ref (G.1 (b))), (2, .int (sI ((a : Int))))] dX7_takes_17 (by decide) rfl ?_
  have H18 : ∀ (fu : Nat) (k : Nat), 6 - k < fu → (k ≤ 6) → (TInv (qtN M b a k)) → sAt zp l ze (sRm 0 0) zs zm za zb zt zc D G 4 0 0 Q 18 [(0, .ref (G.1 (258))), (1, .ref (G.1 (b))), (2, .int (sI ((a : Int)))), (3, .int (sI ((k : Int))))] [] (qtN M b a k) L := by
    intro fu
    induction fu with
    | zero => intro k hd hk hTk; exact absurd hd (Nat.not_lt_zero _)
    | succ fu ih18 =>
      intro k hd18 hk hTk
      refine at_iload_n C 3 dX7_takes_18 rfl ?_
      refine at_bipush C dX7_takes_19 (by decide) (by decide) ?_
      refine at_icmp_ge C 71 dX7_takes_21 (by decide) (⟨by omega, by omega⟩) (⟨by omega, by omega⟩) (fun h3 => ?_) (fun h3 => ?_)
      · exact hret _ _ _ _ dX7_takes_71 (⟨by unfold qTak; rw [show k = 6 by omega], hTk, rfl⟩)
      · have hq2 := tv hT (rc_p hr (k := k) (by omega))
        have hq8 := tv hT (rc_h hr (k := k) (by omega))
        have hq14 := tv hT (rc_d hr (k := k) (by omega))
        refine at_aload_n C 0 dX7_takes_24 rfl ?_
        refine at_getf (v := .ref (G.1 (263))) C (obj_Ref G) (ci := 7) rfl inX7 (slot := 11) (by decide) qw_893 rfl rfl dX7_takes_25 ?_
        refine at_iload_n C 3 dX7_takes_28 rfl ?_
        refine at_aload_n C 1 dX7_takes_29 rfl ?_
        refine at_iload_n C 2 dX7_takes_30 rfl ?_
        refine at_iconst C dX7_takes_31 ?_
        refine at_iadd C dX7_takes_32 ?_
        refine at_iload_n C 3 dX7_takes_33 rfl ?_
        refine at_iadd C dX7_takes_34 ?_
        refine at_iald C ((a + 2) + k) (hb) (by omega) (by omega) dX7_takes_35 ?_
        refine at_ve (b := M b (a + 2 + k)) (by rw [qtN_b M hr1]) ?_
        refine at_iast C k (ar_263 G) (rfl) (by omega) dX7_takes_36 ?_
        have hT4 : TInv (sSt (qtN M b a k) 263 k (M b (a + 2 + k))) := tv_st hTk (k := 263) rfl (⟨by omega, by omega⟩)
        refine at_aload_n C 0 dX7_takes_37 rfl ?_
        refine at_getf (v := .ref (G.1 (264))) C (obj_Ref G) (ci := 7) rfl inX7 (slot := 12) (by decide) qw_894 rfl rfl dX7_takes_38 ?_
        refine at_iload_n C 3 dX7_takes_41 rfl ?_
        refine at_aload_n C 1 dX7_takes_42 rfl ?_
        refine at_iload_n C 2 dX7_takes_43 rfl ?_
        refine at_bipush C dX7_takes_44 (by decide) (by decide) ?_
        refine at_iadd C dX7_takes_46 ?_
        refine at_iload_n C 3 dX7_takes_47 rfl ?_
        refine at_iadd C dX7_takes_48 ?_
        refine at_iald C ((a + 8) + k) (hb) (by omega) (by omega) dX7_takes_49 ?_
        refine at_ve (b := M b (a + 8 + k)) (by rw [sSt_ne (by omega), qtN_b M hr1]) ?_
        refine at_iast C k (ar_264 G) (rfl) (by omega) dX7_takes_50 ?_
        have hT5 : TInv (sSt (sSt (qtN M b a k) 263 k (M b (a + 2 + k))) 264 k (M b (a + 8 + k))) := tv_st hT4 (k := 264) rfl (⟨by omega, by omega⟩)
        refine at_aload_n C 0 dX7_takes_51 rfl ?_
        refine at_getf (v := .ref (G.1 (265))) C (obj_Ref G) (ci := 7) rfl inX7 (slot := 13) (by decide) qw_895 rfl rfl dX7_takes_52 ?_
        refine at_iload_n C 3 dX7_takes_55 rfl ?_
        refine at_aload_n C 1 dX7_takes_56 rfl ?_
        refine at_iload_n C 2 dX7_takes_57 rfl ?_
        refine at_bipush C dX7_takes_58 (by decide) (by decide) ?_
        refine at_iadd C dX7_takes_60 ?_
        refine at_iload_n C 3 dX7_takes_61 rfl ?_
        refine at_iadd C dX7_takes_62 ?_
        refine at_iald C ((a + 14) + k) (hb) (by omega) (by omega) dX7_takes_63 ?_
        refine at_ve (b := M b (a + 14 + k)) (by rw [sSt_ne (by omega), sSt_ne (by omega), qtN_b M hr1]) ?_
        refine at_iast C k (ar_265 G) (rfl) (by omega) dX7_takes_64 ?_
        have hT6 : TInv (sSt (sSt (sSt (qtN M b a k) 263 k (M b (a + 2 + k))) 264 k (M b (a + 8 + k))) 265 k (M b (a + 14 + k))) := tv_st hT5 (k := 265) rfl (⟨by omega, by omega⟩)
        refine at_iinc C 3 [(3, .int (sI ((k : Int) + 1))), (0, .ref (G.1 (258))), (1, .ref (G.1 (b))), (2, .int (sI ((a : Int))))] dX7_takes_65 rfl (by decide) rfl ?_
        refine at_goto C 18 dX7_takes_68 (by decide) ?_
        refine at_lv [1, 2, 3, 0] rfl ?_
        exact at_eq (ih18 (k + 1) (by omega) (by omega) (qtN_T hT hr (by omega))) (lvc_s (lvc_s (lvc_s (lvc_i (by omega) rfl)))) rfl (qtN_s M b a k) (rfl)
  refine at_lv [1, 2, 3, 0] rfl ?_
  exact at_eq (H18 _ 0 (Nat.lt_succ_self _) (by omega) ((qtN_0 M b a) ▸ hT2)) (lvc_s (lvc_s (lvc_s (lvc_i (rfl) rfl)))) rfl (qtN_0 M b a) (rfl)

set_option maxHeartbeats 4000000 in
set_option maxRecDepth 100000 in
theorem c_X7_notes (l : Launch) (D : va_G) (G : sG) {M : sM} {L : sL} (hT : TInv M) : sKv l D G yX7_notes cX7_notes 2 1 23 [.ref (G.1 (258))] M L (fun M' L' => M' = qNot M ∧ TInv M' ∧ L = L') := by
  refine sKv_go (by decide) (Nat.le_of_ble_eq_true rfl) ?_
  intro zp ze zs zm za zb zt zc Q C hret
  refine at_eq (lv' := [(0, .ref (G.1 (258)))]) (st' := []) (M' := M) (L' := L) ?_ rfl rfl rfl rfl
  have hqn := qn_r hT
  have hqc := qc_r hT
  have hqu := qu_r hT
  have hqt := qt_r hT
  have hqs := qs_r hT
  have hqo := qo_r hT
  have hqm := qm_r hT
  refine at_aload_n C 0 dX7_notes_0 rfl ?_
  refine at_getf (v := .int (sI (M 258 25))) C (obj_Ref G) (ci := 7) rfl inX7 (slot := 25) (by decide) qw_907 rfl rfl dX7_notes_1 ?_
  have hb1 : _ ≤ M 258 25 ∧ M 258 25 ≤ _ := tv hT (k := 258) (j := 25) rfl
  refine at_ve (b := (((qu M) : Nat) : Int)) (hqu.2) ?_
  refine at_bipush C dX7_notes_4 (by decide) (by decide) ?_
  refine at_icmp_ne C 49 dX7_notes_6 (by decide) (⟨by omega, by omega⟩) (⟨by omega, by omega⟩) (fun h2 => ?_) (fun h2 => ?_)
  · refine at_aload_n C 0 dX7_notes_49 rfl ?_
    refine at_aload_n C 0 dX7_notes_50 rfl ?_
    refine at_getf (v := .ref (G.1 (272))) C (obj_Ref G) (ci := 7) rfl inX7 (slot := 24) (by decide) qw_906 rfl rfl dX7_notes_51 ?_
    refine at_bipush C dX7_notes_54 (by decide) (by decide) ?_
    refine at_aload_n C 0 dX7_notes_56 rfl ?_
    refine at_getf (v := .int (sI (M 258 25))) C (obj_Ref G) (ci := 7) rfl inX7 (slot := 25) (by decide) qw_907 rfl rfl dX7_notes_57 ?_
    have hb3 : _ ≤ M 258 25 ∧ M 258 25 ≤ _ := tv hT (k := 258) (j := 25) rfl
    refine at_ve (b := (((qu M) : Nat) : Int)) (hqu.2) ?_
    refine at_imul C dX7_notes_60 ?_
    refine at_ve (b := (((20 * qu M) : Nat) : Int)) (by omega) ?_
    refine at_call_v C (c_X7_lays l D G (b := 272) (a := (20 * qu M)) (n := 160) (ar_272 G) (isRc_272 (by omega)) hT) (As := [.ref (G.1 (272)), .int (sI ((((20 * qu M) : Nat) : Int)))]) (obj_Ref G) (ci := 7) rfl qw_1052 qw_1049 qw_8 qw_1051 qp_39 ⟨by decide, by decide, show (parseMethodDescriptor yX7_lays.desc).map (fun d => d.parameters.length) = some 2 by decide +kernel⟩ ⟨by decide, by decide⟩ ⟨Nat.zero_le _, Nat.zero_le _⟩ (Nat.le_of_ble_eq_true rfl) dX7_notes_61 rfl (fun M' L' hp5 => ?_)
    obtain ⟨rfl, hT4, rfl⟩ := hp5
    refine at_aload_n C 0 dX7_notes_64 rfl ?_
    refine at_dup C dX7_notes_65 rfl ?_
    refine at_getf (v := .int (sI ((qLay M 272 (20 * qu M)) 258 25))) C (obj_Ref G) (ci := 7) rfl inX7 (slot := 25) (by decide) qw_907 rfl rfl dX7_notes_66 ?_
    refine at_ve (b := M 258 25) (rfl) ?_
    have hb6 : _ ≤ M 258 25 ∧ M 258 25 ≤ _ := tv hT4 (k := 258) (j := 25) rfl
    refine at_ve (b := (((qu M) : Nat) : Int)) (hqu.2) ?_
    refine at_iconst C dX7_notes_69 ?_
    refine at_iadd C dX7_notes_70 ?_
    refine at_ve (b := (((qu M) : Nat) : Int) + 1) (rfl) ?_
    refine at_putM (slot := 25) (ty := .int) C tyX7 (obj_Ref G) (ci := 7) rfl inX7 tyX7_ok nmX7 (by decide) qw_907 rfl rfl (by decide +kernel) rfl rfl (Nat.le_of_ble_eq_true rfl) rfl dX7_notes_71 ?_
    have hT7 : TInv (sSt (qLay M 272 (20 * qu M)) 258 25 ((((qu M) : Nat) : Int) + 1)) := tv_st hT4 (k := 258) (j := 25) rfl (⟨by omega, by omega⟩)
    exact hret _ _ _ _ dX7_notes_74 (⟨by unfold qNot; rw [if_neg (by omega), hqu.2], hT7, rfl⟩)
  · refine at_iconst C dX7_notes_9 ?_
    refine at_istore_n C [(1, .int (sI (0))), (0, .ref (G.1 (258)))] dX7_notes_10 (by decide) rfl ?_
    have H11 : ∀ (fu : Nat) (k : Nat), 140 - k < fu → (k ≤ 140) → sAt zp l ze (sRm 1 23) zs zm za zb zt zc D G 2 0 0 Q 11 [(0, .ref (G.1 (258))), (1, .int (sI ((k : Int))))] [] (qsN M k) L := by
      intro fu
      induction fu with
      | zero => intro k hd hk; exact absurd hd (Nat.not_lt_zero _)
      | succ fu ih11 =>
        intro k hd11 hk
        refine at_iload_n C 1 dX7_notes_11 rfl ?_
        refine at_sipush C dX7_notes_12 (by decide) (by decide) ?_
        refine at_icmp_ge C 39 dX7_notes_15 (by decide) (⟨by omega, by omega⟩) (⟨by omega, by omega⟩) (fun h8 => ?_) (fun h8 => ?_)
        · have hk140 : k = 140 := by omega
          subst hk140
          refine at_m (M' := (qsN M 140)) (rfl) ?_
          refine at_aload_n C 0 dX7_notes_39 rfl ?_
          refine at_dup C dX7_notes_40 rfl ?_
          refine at_getf (v := .int (sI ((qsN M 140) 258 25))) C (obj_Ref G) (ci := 7) rfl inX7 (slot := 25) (by decide) qw_907 rfl rfl dX7_notes_41 ?_
          refine at_ve (b := M 258 25) (rfl) ?_
          have hb9 : _ ≤ M 258 25 ∧ M 258 25 ≤ _ := tv (qsN_T hT 140) (k := 258) (j := 25) rfl
          refine at_ve (b := (((qu M) : Nat) : Int)) (hqu.2) ?_
          refine at_iconst C dX7_notes_44 ?_
          refine at_isub C dX7_notes_45 ?_
          refine at_ve (b := 7) (by omega) ?_
          refine at_putM (slot := 25) (ty := .int) C tyX7 (obj_Ref G) (ci := 7) rfl inX7 tyX7_ok nmX7 (by decide) qw_907 rfl rfl (by decide +kernel) rfl rfl (Nat.le_of_ble_eq_true rfl) rfl dX7_notes_46 ?_
          have hT10 : TInv (sSt (qsN M 140) 258 25 7) := tv_st (qsN_T hT 140) (k := 258) (j := 25) rfl (⟨by omega, by omega⟩)
          refine at_aload_n C 0 dX7_notes_49 rfl ?_
          refine at_aload_n C 0 dX7_notes_50 rfl ?_
          refine at_getf (v := .ref (G.1 (272))) C (obj_Ref G) (ci := 7) rfl inX7 (slot := 24) (by decide) qw_906 rfl rfl dX7_notes_51 ?_
          refine at_bipush C dX7_notes_54 (by decide) (by decide) ?_
          refine at_aload_n C 0 dX7_notes_56 rfl ?_
          refine at_getf (v := .int (sI ((sSt (qsN M 140) 258 25 7) 258 25))) C (obj_Ref G) (ci := 7) rfl inX7 (slot := 25) (by decide) qw_907 rfl rfl dX7_notes_57 ?_
          refine at_ve (b := 7) (sSt_eq) ?_
          refine at_imul C dX7_notes_60 ?_
          refine at_ve (b := 140) (rfl) ?_
          refine at_call_v C (c_X7_lays l D G (b := 272) (a := 140) (n := 160) (ar_272 G) (isRc_272 (u := 7) (by decide)) hT10) (As := [.ref (G.1 (272)), .int (sI (140))]) (obj_Ref G) (ci := 7) rfl qw_1052 qw_1049 qw_8 qw_1051 qp_39 ⟨by decide, by decide, show (parseMethodDescriptor yX7_lays.desc).map (fun d => d.parameters.length) = some 2 by decide +kernel⟩ ⟨by decide, by decide⟩ ⟨Nat.zero_le _, Nat.zero_le _⟩ (Nat.le_of_ble_eq_true rfl) dX7_notes_61 rfl (fun M' L' hp12 => ?_)
          obtain ⟨rfl, hT11, rfl⟩ := hp12
          refine at_aload_n C 0 dX7_notes_64 rfl ?_
          refine at_dup C dX7_notes_65 rfl ?_
          refine at_getf (v := .int (sI ((qLay (sSt (qsN M 140) 258 25 7) 272 140) 258 25))) C (obj_Ref G) (ci := 7) rfl inX7 (slot := 25) (by decide) qw_907 rfl rfl dX7_notes_66 ?_
          refine at_ve (b := 7) ((show (qLay (sSt (qsN M 140) 258 25 7) 272 140) 258 25 = (sSt (qsN M 140) 258 25 7) 258 25 from rfl).trans sSt_eq) ?_
          refine at_iconst C dX7_notes_69 ?_
          refine at_iadd C dX7_notes_70 ?_
          refine at_ve (b := 8) (rfl) ?_
          refine at_putM (slot := 25) (ty := .int) C tyX7 (obj_Ref G) (ci := 7) rfl inX7 tyX7_ok nmX7 (by decide) qw_907 rfl rfl (by decide +kernel) rfl rfl (Nat.le_of_ble_eq_true rfl) rfl dX7_notes_71 ?_
          have hT13 : TInv (sSt (qLay (sSt (qsN M 140) 258 25 7) 272 140) 258 25 8) := tv_st hT11 (k := 258) (j := 25) rfl (⟨by omega, by omega⟩)
          exact hret _ _ _ _ dX7_notes_74 (⟨by unfold qNot; rw [if_pos (by omega)], hT13, rfl⟩)
        · refine at_aload_n C 0 dX7_notes_18 rfl ?_
          refine at_getf (v := .ref (G.1 (272))) C (obj_Ref G) (ci := 7) rfl inX7 (slot := 24) (by decide) qw_906 rfl rfl dX7_notes_19 ?_
          refine at_iload_n C 1 dX7_notes_22 rfl ?_
          refine at_aload_n C 0 dX7_notes_23 rfl ?_
          refine at_getf (v := .ref (G.1 (272))) C (obj_Ref G) (ci := 7) rfl inX7 (slot := 24) (by decide) qw_906 rfl rfl dX7_notes_24 ?_
          refine at_iload_n C 1 dX7_notes_27 rfl ?_
          refine at_bipush C dX7_notes_28 (by decide) (by decide) ?_
          refine at_iadd C dX7_notes_30 ?_
          refine at_iald C (k + 20) (ar_272 G) (by omega) (by omega) dX7_notes_31 ?_
          have hb14 : _ ≤ (qsN M k) 272 (k + 20) ∧ (qsN M k) 272 (k + 20) ≤ _ := tv (qsN_T hT k) (k := 272) (j := (k + 20)) rfl
          refine at_ve (b := M 272 (k + 20)) (qsN_r M (by omega)) ?_
          have hq20 := qsN_T hT (k + 1) 272 k
          rw [show qsN M (k + 1) 272 k = M 272 (k + 20) from (congrFun (congrFun (qsN_s M k).symm 272) k).trans sSt_eq, show rg 272 k = rgM (k % 20) from rfl] at hq20
          refine at_iast C k (ar_272 G) (rfl) (by omega) dX7_notes_32 ?_
          have hT15 : TInv (sSt (qsN M k) 272 k (M 272 (k + 20))) := tv_st (qsN_T hT k) (k := 272) (lo := (rgM (k % 20)).1) (hi := (rgM (k % 20)).2) rfl (hq20)
          refine at_iinc C 1 [(1, .int (sI ((k : Int) + 1))), (0, .ref (G.1 (258)))] dX7_notes_33 rfl (by decide) rfl ?_
          refine at_goto C 11 dX7_notes_36 (by decide) ?_
          refine at_lv [1, 0] rfl ?_
          exact at_eq (ih11 (k + 1) (by omega) (by omega)) (lvc_s (lvc_i (by omega) rfl)) rfl (qsN_s M k) (rfl)
    refine at_lv [1, 0] rfl ?_
    exact at_eq (H11 _ 0 (Nat.lt_succ_self _) (by omega)) (lvc_s (lvc_i (rfl) rfl)) rfl (qsN_0 M) (rfl)

set_option maxHeartbeats 4000000 in
set_option maxRecDepth 100000 in
theorem c_X7_tides (l : Launch) (D : va_G) (G : sG) {M : sM} {L : sL} (n : Int) (hnr : InR n) (hT : TInv M) (hc : qCt M) : sKi l D G yX7_tides cX7_tides 3 .int 3 62 [.ref (G.1 (258)), .int (sI (n))] M L (fun r M' L' => r = sI (qrTides M n) ∧ M' = qmTides M n ∧ TInv M' ∧ L = L') := by
  refine sKi_go (by decide) (Nat.le_of_ble_eq_true rfl) ?_
  intro zp ze zs zm za zb zt zc Q C hret
  refine at_eq (lv' := [(0, .ref (G.1 (258))), (1, .int (sI (n)))]) (st' := []) (M' := M) (L' := L) ?_ rfl rfl rfl rfl
  have hqn := qn_r hT
  have hqc := qc_r hT
  have hqu := qu_r hT
  have hqt := qt_r hT
  have hqs := qs_r hT
  have hqo := qo_r hT
  have hqm := qm_r hT
  refine at_iload_n C 1 dX7_tides_0 rfl ?_
  refine at_iconst C dX7_tides_1 ?_
  refine at_bipush C dX7_tides_2 (by decide) (by decide) ?_
  refine at_stat_i C (c_X7_in l D G n 1 60 ⟨by omega, by omega⟩ ⟨by omega, by omega⟩ ⟨by omega, by omega⟩) (As := [.int (sI (n)), .int (sI (1)), .int (sI (60))]) qw_1004 qw_1002 qw_8 qw_1003 ⟨by decide, by decide, show (parseMethodDescriptor yX7_in.desc).map (fun d => d.parameters.length) = some 3 by decide +kernel⟩ ⟨by decide, by decide⟩ ⟨Nat.zero_le _, Nat.zero_le _⟩ (Nat.le_of_ble_eq_true rfl) dX7_tides_4 rfl (fun r M' L' hp1 => ?_)
  obtain ⟨rfl, rfl, rfl⟩ := hp1
  refine at_if_neB C 15 dX7_tides_7 (by decide) (fun h2 => ?_) (fun h2 => ?_)
  · obtain ⟨nn, rfl⟩ : ∃ nn : Nat, n = (nn : Int) := ⟨n.toNat, by omega⟩
    refine at_aload_n C 0 dX7_tides_15 rfl ?_
    refine at_call_v C (c_X7_notes l D G hT) (As := []) (obj_Ref G) (ci := 7) rfl qw_1204 qw_1201 qw_8 qw_1203 qp_70 ⟨by decide, by decide, show (parseMethodDescriptor yX7_notes.desc).map (fun d => d.parameters.length) = some 0 by decide +kernel⟩ ⟨by decide, by decide⟩ ⟨Nat.zero_le _, Nat.zero_le _⟩ (Nat.le_of_ble_eq_true rfl) dX7_tides_16 rfl (fun M' L' hp4 => ?_)
    obtain ⟨rfl, hT3, rfl⟩ := hp4
    have hnt : qNot M 258 3 = M 258 3 := qNot_3 M
    refine at_iconst C dX7_tides_19 ?_
    refine at_istore_n C [(2, .int (sI (0))), (0, .ref (G.1 (258))), (1, .int (sI ((nn : Int))))] dX7_tides_20 (by decide) rfl ?_
    have H21 : ∀ (fu : Nat) (k : Nat), nn - k < fu → (k ≤ nn) → (k = 0 ∨ M 258 3 + k ≤ 999) → (TInv (qPs (qNot M) k)) → sAt zp l ze (sRm 3 62) zs zm za zb zt zc D G 3 0 0 Q 21 [(0, .ref (G.1 (258))), (1, .int (sI ((nn : Int)))), (2, .int (sI ((k : Int))))] [] (qPs (qNot M) k) L := by
      intro fu
      induction fu with
      | zero => intro k hd hk hk2 hTk; exact absurd hd (Nat.not_lt_zero _)
      | succ fu ih21 =>
        intro k hd21 hk hk2 hTk
        have g3 : qPs (qNot M) k 258 3 = M 258 3 + k := by rw [qPs_3, qNot_3]
        refine at_iload_n C 2 dX7_tides_21 rfl ?_
        refine at_iload_n C 1 dX7_tides_22 rfl ?_
        refine at_icmp_ge C 46 dX7_tides_23 (by decide) (⟨by omega, by omega⟩) (⟨by omega, by omega⟩) (fun h5 => ?_) (fun h5 => ?_)
        · have hP : qPs (qNot M) k = qPt (qNot M) nn := by unfold qPt; rw [hnt, show min nn (999 - M 258 3).toNat = k by omega]
          have hTP : TInv (qPt (qNot M) nn) := hP ▸ hTk
          refine at_m (M' := (qPt (qNot M) nn)) (hP) ?_
          refine at_aload_n C 0 dX7_tides_46 rfl ?_
          refine at_call_i C (c_X7_adriftMany l D G hTP) (As := []) (obj_Ref G) (ci := 7) rfl qw_1208 qw_1205 qw_8 qw_1207 qp_71 ⟨by decide, by decide, show (parseMethodDescriptor yX7_adriftMany.desc).map (fun d => d.parameters.length) = some 0 by decide +kernel⟩ ⟨by decide, by decide⟩ ⟨Nat.zero_le _, Nat.zero_le _⟩ (Nat.le_of_ble_eq_true rfl) dX7_tides_47 rfl (fun r M' L' hp6 => ?_)
          obtain ⟨rfl, rfl, rfl⟩ := hp6
          exact hret _ _ _ _ _ dX7_tides_50 (⟨congrArg sI (if_pos (by first | omega | (simp only [Int.toNat_natCast]; omega))).symm, (if_pos (by first | omega | (simp only [Int.toNat_natCast]; omega))).symm, hTP, rfl⟩)
        · refine at_aload_n C 0 dX7_tides_26 rfl ?_
          refine at_getf (v := .int (sI ((qPs (qNot M) k) 258 3))) C (obj_Ref G) (ci := 7) rfl inX7 (slot := 3) (by decide) qw_885 rfl rfl dX7_tides_27 ?_
          have hb7 : _ ≤ (qPs (qNot M) k) 258 3 ∧ (qPs (qNot M) k) 258 3 ≤ _ := tv hTk (k := 258) (j := 3) rfl
          refine at_ve (b := M 258 3 + k) (g3) ?_
          refine at_sipush C dX7_tides_30 (by decide) (by decide) ?_
          refine at_icmp_ge C 46 dX7_tides_33 (by decide) (⟨by omega, by omega⟩) (⟨by omega, by omega⟩) (fun h8 => ?_) (fun h8 => ?_)
          · have hP : qPs (qNot M) k = qPt (qNot M) nn := by unfold qPt; rw [hnt, show min nn (999 - M 258 3).toNat = k by omega]
            have hTP : TInv (qPt (qNot M) nn) := hP ▸ hTk
            refine at_m (M' := (qPt (qNot M) nn)) (hP) ?_
            refine at_aload_n C 0 dX7_tides_46 rfl ?_
            refine at_call_i C (c_X7_adriftMany l D G hTP) (As := []) (obj_Ref G) (ci := 7) rfl qw_1208 qw_1205 qw_8 qw_1207 qp_71 ⟨by decide, by decide, show (parseMethodDescriptor yX7_adriftMany.desc).map (fun d => d.parameters.length) = some 0 by decide +kernel⟩ ⟨by decide, by decide⟩ ⟨Nat.zero_le _, Nat.zero_le _⟩ (Nat.le_of_ble_eq_true rfl) dX7_tides_47 rfl (fun r M' L' hp9 => ?_)
            obtain ⟨rfl, rfl, rfl⟩ := hp9
            exact hret _ _ _ _ _ dX7_tides_50 (⟨congrArg sI (if_pos (by first | omega | (simp only [Int.toNat_natCast]; omega))).symm, (if_pos (by first | omega | (simp only [Int.toNat_natCast]; omega))).symm, hTP, rfl⟩)
          · refine at_aload_n C 0 dX7_tides_36 rfl ?_
            refine at_call_v C (c_X7_passes l D G (M := (qPs (qNot M) k)) (by omega) hTk) (As := []) (obj_Ref G) (ci := 7) rfl qw_1125 qw_1122 qw_8 qw_1124 qp_55 ⟨by decide, by decide, show (parseMethodDescriptor yX7_passes.desc).map (fun d => d.parameters.length) = some 0 by decide +kernel⟩ ⟨by decide, by decide⟩ ⟨Nat.zero_le _, Nat.zero_le _⟩ (Nat.le_of_ble_eq_true rfl) dX7_tides_37 rfl (fun M' L' hp11 => ?_)
            obtain ⟨rfl, hT10, rfl⟩ := hp11
            refine at_iinc C 2 [(2, .int (sI ((k : Int) + 1))), (0, .ref (G.1 (258))), (1, .int (sI ((nn : Int))))] dX7_tides_40 rfl (by decide) rfl ?_
            refine at_goto C 21 dX7_tides_43 (by decide) ?_
            refine at_lv [1, 2, 0] rfl ?_
            exact at_eq (ih21 (k + 1) (by omega) (by omega) (by omega) (hT10)) (lvc_s (lvc_s (lvc_i (by omega) rfl))) rfl (rfl) (rfl)
    refine at_lv [1, 2, 0] rfl ?_
    exact at_eq (H21 _ 0 (Nat.lt_succ_self _) (by omega) (by omega) (hT3)) (lvc_s (lvc_s (lvc_i (rfl) rfl))) rfl (rfl) (rfl)
  · refine at_aload_n C 0 dX7_tides_10 rfl ?_
    refine at_call_i C (c_X7_bad l D G hT ⟨by omega, by omega, by omega⟩) (As := []) (obj_Ref G) (ci := 7) rfl qw_1012 qw_1009 qw_8 qw_1011 qp_34 ⟨by decide, by decide, show (parseMethodDescriptor yX7_bad.desc).map (fun d => d.parameters.length) = some 0 by decide +kernel⟩ ⟨by decide, by decide⟩ ⟨Nat.zero_le _, Nat.zero_le _⟩ (Nat.le_of_ble_eq_true rfl) dX7_tides_11 rfl (fun r M' L' hp13 => ?_)
    obtain ⟨rfl, rfl, hT12, rfl⟩ := hp13
    exact hret _ _ _ _ _ dX7_tides_14 (⟨congrArg sI (if_neg (by first | omega | (simp only [Int.toNat_natCast]; omega))).symm, (if_neg (by first | omega | (simp only [Int.toNat_natCast]; omega))).symm, hT12, rfl⟩)

set_option maxHeartbeats 4000000 in
set_option maxRecDepth 100000 in
theorem c_X7_walks (l : Launch) (D : va_G) (G : sG) {M : sM} {L : sL} (d : Int) (hdr : InR d) (ht : M 258 3 ≤ 999) (hT : TInv M) (hc : qCt M) : sKi l D G yX7_walks cX7_walks 2 .int 4 85 [.ref (G.1 (258)), .int (sI (d))] M L (fun r M' L' => r = sI (qrWalks M d) ∧ M' = qmWalks M d ∧ TInv M' ∧ L = L') := by
  refine sKi_go (by decide) (Nat.le_of_ble_eq_true rfl) ?_
  intro zp ze zs zm za zb zt zc Q C hret
  refine at_eq (lv' := [(0, .ref (G.1 (258))), (1, .int (sI (d)))]) (st' := []) (M' := M) (L' := L) ?_ rfl rfl rfl rfl
  have hqn := qn_r hT
  have hqc := qc_r hT
  have hqu := qu_r hT
  have hqt := qt_r hT
  have hqs := qs_r hT
  have hqo := qo_r hT
  have hqm := qm_r hT
  refine at_iload_n C 1 dX7_walks_0 rfl ?_
  refine at_iconst C dX7_walks_1 ?_
  refine at_iconst C dX7_walks_2 ?_
  refine at_stat_i C (c_X7_in l D G d (-1) 1 ⟨by omega, by omega⟩ ⟨by omega, by omega⟩ ⟨by omega, by omega⟩) (As := [.int (sI (d)), .int (sI (-1)), .int (sI (1))]) qw_1004 qw_1002 qw_8 qw_1003 ⟨by decide, by decide, show (parseMethodDescriptor yX7_in.desc).map (fun d => d.parameters.length) = some 3 by decide +kernel⟩ ⟨by decide, by decide⟩ ⟨Nat.zero_le _, Nat.zero_le _⟩ (Nat.le_of_ble_eq_true rfl) dX7_walks_3 rfl (fun r M' L' hp1 => ?_)
  obtain ⟨rfl, rfl, rfl⟩ := hp1
  refine at_if_neB C 14 dX7_walks_6 (by decide) (fun h2 => ?_) (fun h2 => ?_)
  · refine at_aload_n C 0 dX7_walks_14 rfl ?_
    refine at_getf (v := .int (sI (M 258 3))) C (obj_Ref G) (ci := 7) rfl inX7 (slot := 3) (by decide) qw_885 rfl rfl dX7_walks_15 ?_
    have hb3 : _ ≤ M 258 3 ∧ M 258 3 ≤ _ := tv hT (k := 258) (j := 3) rfl
    refine at_sipush C dX7_walks_18 (by decide) (by decide) ?_
    refine at_icmp_ne C 29 dX7_walks_21 (by decide) (⟨by omega, by omega⟩) (⟨by omega, by omega⟩) (fun h4 => ?_) (fun h4 => ?_)
    · refine at_aload_n C 0 dX7_walks_29 rfl ?_
      refine at_call_v C (c_X7_notes l D G hT) (As := []) (obj_Ref G) (ci := 7) rfl qw_1204 qw_1201 qw_8 qw_1203 qp_70 ⟨by decide, by decide, show (parseMethodDescriptor yX7_notes.desc).map (fun d => d.parameters.length) = some 0 by decide +kernel⟩ ⟨by decide, by decide⟩ ⟨Nat.zero_le _, Nat.zero_le _⟩ (Nat.le_of_ble_eq_true rfl) dX7_walks_30 rfl (fun M' L' hp6 => ?_)
      obtain ⟨rfl, hT5, rfl⟩ := hp6
      have hnt : qNot M 258 3 = M 258 3 := qNot_3 M
      refine at_aload_n C 0 dX7_walks_33 rfl ?_
      refine at_iload_n C 1 dX7_walks_34 rfl ?_
      refine at_call_i C (c_X7_goesBy l D G (M := (qNot M)) d ⟨by omega, by omega⟩ (by omega) hT5) (As := [.int (sI (d))]) (obj_Ref G) (ci := 7) rfl qw_1114 qw_1111 qw_8 qw_1113 qp_53 ⟨by decide, by decide, show (parseMethodDescriptor yX7_goesBy.desc).map (fun d => d.parameters.length) = some 1 by decide +kernel⟩ ⟨by decide, by decide⟩ ⟨Nat.zero_le _, Nat.zero_le _⟩ (Nat.le_of_ble_eq_true rfl) dX7_walks_35 rfl (fun r M' L' hp9 => ?_)
      obtain ⟨rfl, rfl, hT7, rfl⟩ := hp9
      have hb8 : 0 ≤ qGoC (qNot M) d ∧ qGoC (qNot M) d ≤ qn (qNot M) := cnt_r _ _
      exact hret _ _ _ _ _ dX7_walks_38 (⟨congrArg sI ((if_pos (by first | omega | (simp only [Int.toNat_natCast]; omega))).trans (if_neg (by first | omega | (simp only [Int.toNat_natCast]; omega)))).symm, ((if_pos (by first | omega | (simp only [Int.toNat_natCast]; omega))).trans (if_neg (by first | omega | (simp only [Int.toNat_natCast]; omega)))).symm, hT7, rfl⟩)
    · refine at_aload_n C 0 dX7_walks_24 rfl ?_
      refine at_call_i C (c_X7_no l D G hT ⟨by omega, by omega, by omega⟩) (As := []) (obj_Ref G) (ci := 7) rfl qw_1216 qw_1213 qw_8 qw_1215 qp_72 ⟨by decide, by decide, show (parseMethodDescriptor yX7_no.desc).map (fun d => d.parameters.length) = some 0 by decide +kernel⟩ ⟨by decide, by decide⟩ ⟨Nat.zero_le _, Nat.zero_le _⟩ (Nat.le_of_ble_eq_true rfl) dX7_walks_25 rfl (fun r M' L' hp11 => ?_)
      obtain ⟨rfl, rfl, hT10, rfl⟩ := hp11
      exact hret _ _ _ _ _ dX7_walks_28 (⟨congrArg sI ((if_pos (by first | omega | (simp only [Int.toNat_natCast]; omega))).trans (if_pos (by first | omega | (simp only [Int.toNat_natCast]; omega)))).symm, ((if_pos (by first | omega | (simp only [Int.toNat_natCast]; omega))).trans (if_pos (by first | omega | (simp only [Int.toNat_natCast]; omega)))).symm, hT10, rfl⟩)
  · refine at_aload_n C 0 dX7_walks_9 rfl ?_
    refine at_call_i C (c_X7_bad l D G hT ⟨by omega, by omega, by omega⟩) (As := []) (obj_Ref G) (ci := 7) rfl qw_1012 qw_1009 qw_8 qw_1011 qp_34 ⟨by decide, by decide, show (parseMethodDescriptor yX7_bad.desc).map (fun d => d.parameters.length) = some 0 by decide +kernel⟩ ⟨by decide, by decide⟩ ⟨Nat.zero_le _, Nat.zero_le _⟩ (Nat.le_of_ble_eq_true rfl) dX7_walks_10 rfl (fun r M' L' hp13 => ?_)
    obtain ⟨rfl, rfl, hT12, rfl⟩ := hp13
    exact hret _ _ _ _ _ dX7_walks_13 (⟨congrArg sI (if_neg (by first | omega | (simp only [Int.toNat_natCast]; omega))).symm, (if_neg (by first | omega | (simp only [Int.toNat_natCast]; omega))).symm, hT12, rfl⟩)

set_option maxHeartbeats 4000000 in
set_option maxRecDepth 100000 in
theorem c_X7_calls (l : Launch) (D : va_G) (G : sG) {M : sM} {L : sL} (i : Int) (hir : InR i) (hT : TInv M) (hc : qCt M) : sKi l D G yX7_calls cX7_calls 3 .int 7 153 [.ref (G.1 (258)), .int (sI (i))] M L (fun r M' L' => r = sI (qrCalls M i) ∧ M' = qmCalls M i ∧ TInv M' ∧ L = L') := by
  refine sKi_go (by decide) (Nat.le_of_ble_eq_true rfl) ?_
  intro zp ze zs zm za zb zt zc Q C hret
  refine at_eq (lv' := [(0, .ref (G.1 (258))), (1, .int (sI (i)))]) (st' := []) (M' := M) (L' := L) ?_ rfl rfl rfl rfl
  have hqn := qn_r hT
  have hqc := qc_r hT
  have hqu := qu_r hT
  have hqt := qt_r hT
  have hqs := qs_r hT
  have hqo := qo_r hT
  have hqm := qm_r hT
  refine at_aload_n C 0 dX7_calls_0 rfl ?_
  refine at_iload_n C 1 dX7_calls_1 rfl ?_
  refine at_call_i C (c_X7_isCaller l D G i ⟨by omega, by omega⟩ hT) (As := [.int (sI (i))]) (obj_Ref G) (ci := 7) rfl qw_1224 qw_1221 qw_8 qw_1223 qp_73 ⟨by decide, by decide, show (parseMethodDescriptor yX7_isCaller.desc).map (fun d => d.parameters.length) = some 1 by decide +kernel⟩ ⟨by decide, by decide⟩ ⟨Nat.zero_le _, Nat.zero_le _⟩ (Nat.le_of_ble_eq_true rfl) dX7_calls_2 rfl (fun r M' L' hp1 => ?_)
  obtain ⟨rfl, rfl, rfl⟩ := hp1
  refine at_if_neB C 13 dX7_calls_5 (by decide) (fun h2 => ?_) (fun h2 => ?_)
  · obtain ⟨n, rfl⟩ : ∃ n : Nat, i = (n : Int) := ⟨i.toNat, by omega⟩
    have hic : n < 6 := by omega
    refine at_aload_n C 0 dX7_calls_13 rfl ?_
    refine at_iload_n C 1 dX7_calls_14 rfl ?_
    refine at_call_i C (c_X7_wouldTake l D G n (by omega) hT) (As := [.int (sI ((n : Int)))]) (obj_Ref G) (ci := 7) rfl qw_1140 qw_1137 qw_8 qw_1139 qp_58 ⟨by decide, by decide, show (parseMethodDescriptor yX7_wouldTake.desc).map (fun d => d.parameters.length) = some 1 by decide +kernel⟩ ⟨by decide, by decide⟩ ⟨Nat.zero_le _, Nat.zero_le _⟩ (Nat.le_of_ble_eq_true rfl) dX7_calls_15 rfl (fun r M' L' hp5 => ?_)
    obtain ⟨rfl, rfl, rfl⟩ := hp5
    have hb3 := qCho_r M n
    have hb4 := qn_r hT
    refine at_istore_n C [(2, .int (sI (qCho M n))), (0, .ref (G.1 (258))), (1, .int (sI ((n : Int))))] dX7_calls_18 (by decide) rfl ?_
    refine at_iload_n C 0 dX7_calls_19 rfl ?_
    refine at_iconst C dX7_calls_20 ?_
    refine at_icmp_ne C 29 dX7_calls_21 (by decide) (⟨by omega, by omega⟩) (⟨by omega, by omega⟩) (fun h6 => ?_) (fun h6 => ?_)
    · refine at_aload_n C 1 dX7_calls_29 rfl ?_
      refine at_call_v C (c_X7_notes l D G hT) (As := []) (obj_Ref G) (ci := 7) rfl qw_1204 qw_1201 qw_8 qw_1203 qp_70 ⟨by decide, by decide, show (parseMethodDescriptor yX7_notes.desc).map (fun d => d.parameters.length) = some 0 by decide +kernel⟩ ⟨by decide, by decide⟩ ⟨Nat.zero_le _, Nat.zero_le _⟩ (Nat.le_of_ble_eq_true rfl) dX7_calls_30 rfl (fun M' L' hp8 => ?_)
      obtain ⟨rfl, hT7, rfl⟩ := hp8
      refine at_aload_n C 1 dX7_calls_33 rfl ?_
      refine at_iload_n C 2 dX7_calls_34 rfl ?_
      refine at_iload_n C 0 dX7_calls_35 rfl ?_
      refine at_ve (b := (((qCho M n).toNat : Nat) : Int)) (by omega) ?_
      refine at_call_v C (c_X7_takesOne l D G n ((qCho M n).toNat) (by omega) (by omega) hT7) (As := [.int (sI ((n : Int))), .int (sI ((((qCho M n).toNat : Nat) : Int)))]) (obj_Ref G) (ci := 7) rfl qw_1184 qw_1181 qw_8 qw_1183 qp_66 ⟨by decide, by decide, show (parseMethodDescriptor yX7_takesOne.desc).map (fun d => d.parameters.length) = some 2 by decide +kernel⟩ ⟨by decide, by decide⟩ ⟨Nat.zero_le _, Nat.zero_le _⟩ (Nat.le_of_ble_eq_true rfl) dX7_calls_36 rfl (fun M' L' hp10 => ?_)
      obtain ⟨rfl, hT9, rfl⟩ := hp10
      refine at_iload_n C 0 dX7_calls_39 rfl ?_
      exact hret _ _ _ _ _ dX7_calls_40 (⟨congrArg sI ((if_pos (by first | omega | (simp only [Int.toNat_natCast]; omega))).trans (if_neg (by first | omega | (simp only [Int.toNat_natCast]; omega)))).symm, ((if_pos (by first | omega | (simp only [Int.toNat_natCast]; omega))).trans (if_neg (by first | omega | (simp only [Int.toNat_natCast]; omega)))).symm, hT9, rfl⟩)
    · refine at_aload_n C 1 dX7_calls_24 rfl ?_
      refine at_call_i C (c_X7_no l D G hT ⟨by omega, by omega, by omega⟩) (As := []) (obj_Ref G) (ci := 7) rfl qw_1216 qw_1213 qw_8 qw_1215 qp_72 ⟨by decide, by decide, show (parseMethodDescriptor yX7_no.desc).map (fun d => d.parameters.length) = some 0 by decide +kernel⟩ ⟨by decide, by decide⟩ ⟨Nat.zero_le _, Nat.zero_le _⟩ (Nat.le_of_ble_eq_true rfl) dX7_calls_25 rfl (fun r M' L' hp12 => ?_)
      obtain ⟨rfl, rfl, hT11, rfl⟩ := hp12
      exact hret _ _ _ _ _ dX7_calls_28 (⟨congrArg sI ((if_pos (by first | omega | (simp only [Int.toNat_natCast]; omega))).trans (if_pos (by first | omega | (simp only [Int.toNat_natCast]; omega)))).symm, ((if_pos (by first | omega | (simp only [Int.toNat_natCast]; omega))).trans (if_pos (by first | omega | (simp only [Int.toNat_natCast]; omega)))).symm, hT11, rfl⟩)
  · refine at_aload_n C 0 dX7_calls_8 rfl ?_
    refine at_call_i C (c_X7_bad l D G hT ⟨by omega, by omega, by omega⟩) (As := []) (obj_Ref G) (ci := 7) rfl qw_1012 qw_1009 qw_8 qw_1011 qp_34 ⟨by decide, by decide, show (parseMethodDescriptor yX7_bad.desc).map (fun d => d.parameters.length) = some 0 by decide +kernel⟩ ⟨by decide, by decide⟩ ⟨Nat.zero_le _, Nat.zero_le _⟩ (Nat.le_of_ble_eq_true rfl) dX7_calls_9 rfl (fun r M' L' hp14 => ?_)
    obtain ⟨rfl, rfl, hT13, rfl⟩ := hp14
    exact hret _ _ _ _ _ dX7_calls_12 (⟨congrArg sI (if_neg (by first | omega | (simp only [Int.toNat_natCast]; omega))).symm, (if_neg (by first | omega | (simp only [Int.toNat_natCast]; omega))).symm, hT13, rfl⟩)

set_option maxHeartbeats 4000000 in
set_option maxRecDepth 100000 in
theorem c_X7_returns (l : Launch) (D : va_G) (G : sG) {M : sM} {L : sL} (i : Int) (hir : InR i) (hT : TInv M) (hc : qCt M) : sKi l D G yX7_returns cX7_returns 3 .int 2 44 [.ref (G.1 (258)), .int (sI (i))] M L (fun r M' L' => r = sI (qrReturns M i) ∧ M' = qmReturns M i ∧ TInv M' ∧ L = L') := by
  refine sKi_go (by decide) (Nat.le_of_ble_eq_true rfl) ?_
  intro zp ze zs zm za zb zt zc Q C hret
  refine at_eq (lv' := [(0, .ref (G.1 (258))), (1, .int (sI (i)))]) (st' := []) (M' := M) (L' := L) ?_ rfl rfl rfl rfl
  have hqn := qn_r hT
  have hqc := qc_r hT
  have hqu := qu_r hT
  have hqt := qt_r hT
  have hqs := qs_r hT
  have hqo := qo_r hT
  have hqm := qm_r hT
  refine at_aload_n C 0 dX7_returns_0 rfl ?_
  refine at_iload_n C 1 dX7_returns_1 rfl ?_
  refine at_call_i C (c_X7_isCaller l D G i ⟨by omega, by omega⟩ hT) (As := [.int (sI (i))]) (obj_Ref G) (ci := 7) rfl qw_1224 qw_1221 qw_8 qw_1223 qp_73 ⟨by decide, by decide, show (parseMethodDescriptor yX7_isCaller.desc).map (fun d => d.parameters.length) = some 1 by decide +kernel⟩ ⟨by decide, by decide⟩ ⟨Nat.zero_le _, Nat.zero_le _⟩ (Nat.le_of_ble_eq_true rfl) dX7_returns_2 rfl (fun r M' L' hp1 => ?_)
  obtain ⟨rfl, rfl, rfl⟩ := hp1
  refine at_if_neB C 13 dX7_returns_5 (by decide) (fun h2 => ?_) (fun h2 => ?_)
  · obtain ⟨n, rfl⟩ : ∃ n : Nat, i = (n : Int) := ⟨i.toNat, by omega⟩
    have hic : n < 6 := by omega
    refine at_aload_n C 0 dX7_returns_13 rfl ?_
    refine at_iload_n C 1 dX7_returns_14 rfl ?_
    refine at_call_i C (c_X7_heldBy l D G n (by omega) hT) (As := [.int (sI ((n : Int)))]) (obj_Ref G) (ci := 7) rfl qw_1144 qw_1141 qw_8 qw_1143 qp_59 ⟨by decide, by decide, show (parseMethodDescriptor yX7_heldBy.desc).map (fun d => d.parameters.length) = some 1 by decide +kernel⟩ ⟨by decide, by decide⟩ ⟨Nat.zero_le _, Nat.zero_le _⟩ (Nat.le_of_ble_eq_true rfl) dX7_returns_15 rfl (fun r M' L' hp4 => ?_)
    obtain ⟨rfl, rfl, rfl⟩ := hp4
    have hb3 : -1 ≤ qHeld M n ∧ qHeld M n < qn M := lst_r _ _
    refine at_istore_n C [(2, .int (sI (qHeld M n))), (0, .ref (G.1 (258))), (1, .int (sI ((n : Int))))] dX7_returns_18 (by decide) rfl ?_
    refine at_iload_n C 0 dX7_returns_19 rfl ?_
    refine at_iconst C dX7_returns_20 ?_
    refine at_icmp_ne C 29 dX7_returns_21 (by decide) (⟨by omega, by omega⟩) (⟨by omega, by omega⟩) (fun h5 => ?_) (fun h5 => ?_)
    · refine at_aload_n C 1 dX7_returns_29 rfl ?_
      refine at_call_v C (c_X7_notes l D G hT) (As := []) (obj_Ref G) (ci := 7) rfl qw_1204 qw_1201 qw_8 qw_1203 qp_70 ⟨by decide, by decide, show (parseMethodDescriptor yX7_notes.desc).map (fun d => d.parameters.length) = some 0 by decide +kernel⟩ ⟨by decide, by decide⟩ ⟨Nat.zero_le _, Nat.zero_le _⟩ (Nat.le_of_ble_eq_true rfl) dX7_returns_30 rfl (fun M' L' hp7 => ?_)
      obtain ⟨rfl, hT6, rfl⟩ := hp7
      refine at_aload_n C 1 dX7_returns_33 rfl ?_
      refine at_getf (v := .ref (G.1 (263))) C (obj_Ref G) (ci := 7) rfl inX7 (slot := 11) (by decide) qw_893 rfl rfl dX7_returns_34 ?_
      refine at_iload_n C 0 dX7_returns_37 rfl ?_
      refine at_iconst C dX7_returns_38 ?_
      refine at_iast C ((qHeld M n).toNat) (ar_263 G) (by omega) (by omega) dX7_returns_39 ?_
      have hT8 : TInv (sSt (qNot M) 263 ((qHeld M n).toNat) (-1)) := tv_st hT6 (k := 263) rfl (⟨by omega, by omega⟩)
      refine at_aload_n C 1 dX7_returns_40 rfl ?_
      refine at_getf (v := .ref (G.1 (264))) C (obj_Ref G) (ci := 7) rfl inX7 (slot := 12) (by decide) qw_894 rfl rfl dX7_returns_41 ?_
      refine at_iload_n C 0 dX7_returns_44 rfl ?_
      refine at_iconst C dX7_returns_45 ?_
      refine at_iast C ((qHeld M n).toNat) (ar_264 G) (by omega) (by omega) dX7_returns_46 ?_
      have hT9 : TInv (sSt (sSt (qNot M) 263 ((qHeld M n).toNat) (-1)) 264 ((qHeld M n).toNat) (-1)) := tv_st hT8 (k := 264) rfl (⟨by omega, by omega⟩)
      refine at_iload_n C 0 dX7_returns_47 rfl ?_
      exact hret _ _ _ _ _ dX7_returns_48 (⟨congrArg sI ((if_pos (by first | omega | (simp only [Int.toNat_natCast]; omega))).trans (if_neg (by first | omega | (simp only [Int.toNat_natCast]; omega)))).symm, ((if_pos (by first | omega | (simp only [Int.toNat_natCast]; omega))).trans (if_neg (by first | omega | (simp only [Int.toNat_natCast]; omega)))).symm, hT9, rfl⟩)
    · refine at_aload_n C 1 dX7_returns_24 rfl ?_
      refine at_call_i C (c_X7_no l D G hT ⟨by omega, by omega, by omega⟩) (As := []) (obj_Ref G) (ci := 7) rfl qw_1216 qw_1213 qw_8 qw_1215 qp_72 ⟨by decide, by decide, show (parseMethodDescriptor yX7_no.desc).map (fun d => d.parameters.length) = some 0 by decide +kernel⟩ ⟨by decide, by decide⟩ ⟨Nat.zero_le _, Nat.zero_le _⟩ (Nat.le_of_ble_eq_true rfl) dX7_returns_25 rfl (fun r M' L' hp11 => ?_)
      obtain ⟨rfl, rfl, hT10, rfl⟩ := hp11
      exact hret _ _ _ _ _ dX7_returns_28 (⟨congrArg sI ((if_pos (by first | omega | (simp only [Int.toNat_natCast]; omega))).trans (if_pos (by first | omega | (simp only [Int.toNat_natCast]; omega)))).symm, ((if_pos (by first | omega | (simp only [Int.toNat_natCast]; omega))).trans (if_pos (by first | omega | (simp only [Int.toNat_natCast]; omega)))).symm, hT10, rfl⟩)
  · refine at_aload_n C 0 dX7_returns_8 rfl ?_
    refine at_call_i C (c_X7_bad l D G hT ⟨by omega, by omega, by omega⟩) (As := []) (obj_Ref G) (ci := 7) rfl qw_1012 qw_1009 qw_8 qw_1011 qp_34 ⟨by decide, by decide, show (parseMethodDescriptor yX7_bad.desc).map (fun d => d.parameters.length) = some 0 by decide +kernel⟩ ⟨by decide, by decide⟩ ⟨Nat.zero_le _, Nat.zero_le _⟩ (Nat.le_of_ble_eq_true rfl) dX7_returns_9 rfl (fun r M' L' hp13 => ?_)
    obtain ⟨rfl, rfl, hT12, rfl⟩ := hp13
    exact hret _ _ _ _ _ dX7_returns_12 (⟨congrArg sI (if_neg (by first | omega | (simp only [Int.toNat_natCast]; omega))).symm, (if_neg (by first | omega | (simp only [Int.toNat_natCast]; omega))).symm, hT12, rfl⟩)

set_option maxHeartbeats 4000000 in
set_option maxRecDepth 100000 in
theorem c_X7_undo (l : Launch) (D : va_G) (G : sG) {M : sM} {L : sL} (hT : TInv M) (hc : qCt M) : sKi l D G yX7_undo cX7_undo 1 .int 1 23 [.ref (G.1 (258))] M L (fun r M' L' => r = sI (qrUndo M) ∧ M' = qmUndo M ∧ TInv M' ∧ L = L') := by
  refine sKi_go (by decide) (Nat.le_of_ble_eq_true rfl) ?_
  intro zp ze zs zm za zb zt zc Q C hret
  refine at_eq (lv' := [(0, .ref (G.1 (258)))]) (st' := []) (M' := M) (L' := L) ?_ rfl rfl rfl rfl
  have hqn := qn_r hT
  have hqc := qc_r hT
  have hqu := qu_r hT
  have hqt := qt_r hT
  have hqs := qs_r hT
  have hqo := qo_r hT
  have hqm := qm_r hT
  refine at_aload_n C 0 dX7_undo_0 rfl ?_
  refine at_getf (v := .int (sI (M 258 25))) C (obj_Ref G) (ci := 7) rfl inX7 (slot := 25) (by decide) qw_907 rfl rfl dX7_undo_1 ?_
  have hb1 : _ ≤ M 258 25 ∧ M 258 25 ≤ _ := tv hT (k := 258) (j := 25) rfl
  refine at_ve (b := (((qu M) : Nat) : Int)) (hqu.2) ?_
  refine at_if_ne C 12 dX7_undo_4 (by decide) (⟨by omega, by omega⟩) (fun h2 => ?_) (fun h2 => ?_)
  · refine at_aload_n C 0 dX7_undo_12 rfl ?_
    refine at_dup C dX7_undo_13 rfl ?_
    refine at_getf (v := .int (sI (M 258 25))) C (obj_Ref G) (ci := 7) rfl inX7 (slot := 25) (by decide) qw_907 rfl rfl dX7_undo_14 ?_
    have hb3 : _ ≤ M 258 25 ∧ M 258 25 ≤ _ := tv hT (k := 258) (j := 25) rfl
    refine at_ve (b := (((qu M) : Nat) : Int)) (hqu.2) ?_
    refine at_iconst C dX7_undo_17 ?_
    refine at_isub C dX7_undo_18 ?_
    refine at_ve (b := (((qu M - 1) : Nat) : Int)) (by omega) ?_
    refine at_putM (slot := 25) (ty := .int) C tyX7 (obj_Ref G) (ci := 7) rfl inX7 tyX7_ok nmX7 (by decide) qw_907 rfl rfl (by decide +kernel) rfl rfl (Nat.le_of_ble_eq_true rfl) rfl dX7_undo_19 ?_
    have hT4 : TInv (sSt M 258 25 (((qu M - 1) : Nat) : Int)) := tv_st hT (k := 258) (j := 25) rfl (⟨by omega, by omega⟩)
    refine at_aload_n C 0 dX7_undo_22 rfl ?_
    refine at_aload_n C 0 dX7_undo_23 rfl ?_
    refine at_getf (v := .ref (G.1 (272))) C (obj_Ref G) (ci := 7) rfl inX7 (slot := 24) (by decide) qw_906 rfl rfl dX7_undo_24 ?_
    refine at_bipush C dX7_undo_27 (by decide) (by decide) ?_
    refine at_aload_n C 0 dX7_undo_29 rfl ?_
    refine at_getf (v := .int (sI ((sSt M 258 25 (((qu M - 1) : Nat) : Int)) 258 25))) C (obj_Ref G) (ci := 7) rfl inX7 (slot := 25) (by decide) qw_907 rfl rfl dX7_undo_30 ?_
    refine at_ve (b := (((qu M - 1) : Nat) : Int)) (sSt_eq) ?_
    refine at_imul C dX7_undo_33 ?_
    refine at_ve (b := (((20 * (qu M - 1)) : Nat) : Int)) (by omega) ?_
    refine at_call_v C (c_X7_takes l D G (b := 272) (a := (20 * (qu M - 1))) (n := 160) (ar_272 G) (isRc_272 (by omega)) hT4) (As := [.ref (G.1 (272)), .int (sI ((((20 * (qu M - 1)) : Nat) : Int)))]) (obj_Ref G) (ci := 7) rfl qw_1196 qw_1193 qw_8 qw_1195 qp_69 ⟨by decide, by decide, show (parseMethodDescriptor yX7_takes.desc).map (fun d => d.parameters.length) = some 2 by decide +kernel⟩ ⟨by decide, by decide⟩ ⟨Nat.zero_le _, Nat.zero_le _⟩ (Nat.le_of_ble_eq_true rfl) dX7_undo_34 rfl (fun M' L' hp6 => ?_)
    obtain ⟨rfl, hT5, rfl⟩ := hp6
    refine at_aload_n C 0 dX7_undo_37 rfl ?_
    refine at_getf (v := .int (sI ((qTak (sSt M 258 25 (((qu M - 1) : Nat) : Int)) 272 (20 * (qu M - 1))) 258 3))) C (obj_Ref G) (ci := 7) rfl inX7 (slot := 3) (by decide) qw_885 rfl rfl dX7_undo_38 ?_
    have hb7 : _ ≤ (qTak (sSt M 258 25 (((qu M - 1) : Nat) : Int)) 272 (20 * (qu M - 1))) 258 3 ∧ (qTak (sSt M 258 25 (((qu M - 1) : Nat) : Int)) 272 (20 * (qu M - 1))) 258 3 ≤ _ := tv hT5 (k := 258) (j := 3) rfl
    exact hret _ _ _ _ _ dX7_undo_41 (⟨congrArg sI (by unfold qrUndo qUn; rw [if_neg (by omega), show M 258 25 - 1 = ((qu M - 1 : Nat) : Int) by omega]), by unfold qmUndo qUn; rw [if_neg (by omega), show M 258 25 - 1 = ((qu M - 1 : Nat) : Int) by omega], hT5, rfl⟩)
  · refine at_aload_n C 0 dX7_undo_7 rfl ?_
    refine at_call_i C (c_X7_no l D G hT ⟨by omega, by omega, by omega⟩) (As := []) (obj_Ref G) (ci := 7) rfl qw_1216 qw_1213 qw_8 qw_1215 qp_72 ⟨by decide, by decide, show (parseMethodDescriptor yX7_no.desc).map (fun d => d.parameters.length) = some 0 by decide +kernel⟩ ⟨by decide, by decide⟩ ⟨Nat.zero_le _, Nat.zero_le _⟩ (Nat.le_of_ble_eq_true rfl) dX7_undo_8 rfl (fun r M' L' hp9 => ?_)
    obtain ⟨rfl, rfl, hT8, rfl⟩ := hp9
    exact hret _ _ _ _ _ dX7_undo_11 (⟨congrArg sI (if_pos (by first | omega | (simp only [Int.toNat_natCast]; omega))).symm, (if_pos (by first | omega | (simp only [Int.toNat_natCast]; omega))).symm, hT8, rfl⟩)

set_option maxHeartbeats 4000000 in
set_option maxRecDepth 100000 in
theorem c_X7_of (l : Launch) (D : va_G) (G : sG) {M : sM} {L : sL} (s w : Int) (hsr : InR s) (hwr : InR w) (hT : TInv M) (hc : qCt M) : sKi l D G yX7_of cX7_of 3 .int 4 87 [.ref (G.1 (258)), .int (sI (s)), .int (sI (w))] M L (fun r M' L' => r = sI (qrOf M s w) ∧ M' = qB M (isQS M s ∧ (0 ≤ w ∧ w ≤ 5)) ∧ TInv M' ∧ L = L') := by
  refine sKi_go (by decide) (Nat.le_of_ble_eq_true rfl) ?_
  intro zp ze zs zm za zb zt zc Q C hret
  refine at_eq (lv' := [(0, .ref (G.1 (258))), (1, .int (sI (s))), (2, .int (sI (w)))]) (st' := []) (M' := M) (L' := L) ?_ rfl rfl rfl rfl
  have hqn := qn_r hT
  have hqc := qc_r hT
  have hqu := qu_r hT
  have hqt := qt_r hT
  have hqs := qs_r hT
  have hqo := qo_r hT
  have hqm := qm_r hT
  refine at_aload_n C 0 dX7_of_0 rfl ?_
  refine at_iload_n C 1 dX7_of_1 rfl ?_
  refine at_call_i C (c_X7_isSoul l D G s ⟨by omega, by omega⟩ hT) (As := [.int (sI (s))]) (obj_Ref G) (ci := 7) rfl qw_1177 qw_1174 qw_8 qw_1176 qp_65 ⟨by decide, by decide, show (parseMethodDescriptor yX7_isSoul.desc).map (fun d => d.parameters.length) = some 1 by decide +kernel⟩ ⟨by decide, by decide⟩ ⟨Nat.zero_le _, Nat.zero_le _⟩ (Nat.le_of_ble_eq_true rfl) dX7_of_2 rfl (fun r M' L' hp1 => ?_)
  obtain ⟨rfl, rfl, rfl⟩ := hp1
  refine at_if_eqB C 26 dX7_of_5 (by decide) (fun h2 => ?_) (fun h2 => ?_)
  · refine at_aload_n C 0 dX7_of_26 rfl ?_
    refine at_call_i C (c_X7_bad l D G hT ⟨by omega, by omega, by omega⟩) (As := []) (obj_Ref G) (ci := 7) rfl qw_1012 qw_1009 qw_8 qw_1011 qp_34 ⟨by decide, by decide, show (parseMethodDescriptor yX7_bad.desc).map (fun d => d.parameters.length) = some 0 by decide +kernel⟩ ⟨by decide, by decide⟩ ⟨Nat.zero_le _, Nat.zero_le _⟩ (Nat.le_of_ble_eq_true rfl) dX7_of_27 rfl (fun r M' L' hp4 => ?_)
    obtain ⟨rfl, rfl, hT3, rfl⟩ := hp4
    exact hret _ _ _ _ _ dX7_of_30 (⟨congrArg sI (if_neg (by first | omega | (simp only [Int.toNat_natCast]; omega))).symm, (if_neg (by omega)).symm, hT3, rfl⟩)
  · refine at_iload_n C 2 dX7_of_8 rfl ?_
    refine at_iconst C dX7_of_9 ?_
    refine at_iconst C dX7_of_10 ?_
    refine at_stat_i C (c_X7_in l D G w 0 5 ⟨by omega, by omega⟩ ⟨by omega, by omega⟩ ⟨by omega, by omega⟩) (As := [.int (sI (w)), .int (sI (0)), .int (sI (5))]) qw_1004 qw_1002 qw_8 qw_1003 ⟨by decide, by decide, show (parseMethodDescriptor yX7_in.desc).map (fun d => d.parameters.length) = some 3 by decide +kernel⟩ ⟨by decide, by decide⟩ ⟨Nat.zero_le _, Nat.zero_le _⟩ (Nat.le_of_ble_eq_true rfl) dX7_of_11 rfl (fun r M' L' hp5 => ?_)
    obtain ⟨rfl, rfl, rfl⟩ := hp5
    refine at_if_eqB C 26 dX7_of_14 (by decide) (fun h6 => ?_) (fun h6 => ?_)
    · refine at_aload_n C 0 dX7_of_26 rfl ?_
      refine at_call_i C (c_X7_bad l D G hT ⟨by omega, by omega, by omega⟩) (As := []) (obj_Ref G) (ci := 7) rfl qw_1012 qw_1009 qw_8 qw_1011 qp_34 ⟨by decide, by decide, show (parseMethodDescriptor yX7_bad.desc).map (fun d => d.parameters.length) = some 0 by decide +kernel⟩ ⟨by decide, by decide⟩ ⟨Nat.zero_le _, Nat.zero_le _⟩ (Nat.le_of_ble_eq_true rfl) dX7_of_27 rfl (fun r M' L' hp8 => ?_)
      obtain ⟨rfl, rfl, hT7, rfl⟩ := hp8
      exact hret _ _ _ _ _ dX7_of_30 (⟨congrArg sI (if_neg (by first | omega | (simp only [Int.toNat_natCast]; omega))).symm, (if_neg (by omega)).symm, hT7, rfl⟩)
    · obtain ⟨sn, rfl⟩ : ∃ sn : Nat, s = (sn : Int) := ⟨s.toNat, by omega⟩
      have hsc : sn < 6 := by omega
      refine at_aload_n C 0 dX7_of_17 rfl ?_
      refine at_iload_n C 1 dX7_of_18 rfl ?_
      refine at_iload_n C 2 dX7_of_19 rfl ?_
      refine at_call_i C (c_X7_soulTells l D G sn (by omega) w ⟨by omega, by omega⟩ hT) (As := [.int (sI ((sn : Int))), .int (sI (w))]) (obj_Ref G) (ci := 7) rfl qw_1240 qw_1237 qw_8 qw_1239 qp_74 ⟨by decide, by decide, show (parseMethodDescriptor yX7_soulTells.desc).map (fun d => d.parameters.length) = some 2 by decide +kernel⟩ ⟨by decide, by decide⟩ ⟨Nat.zero_le _, Nat.zero_le _⟩ (Nat.le_of_ble_eq_true rfl) dX7_of_20 rfl (fun r M' L' hp9 => ?_)
      obtain ⟨rfl, rfl, rfl⟩ := hp9
      refine at_goto C 30 dX7_of_23 (by decide) ?_
      exact hret _ _ _ _ _ dX7_of_30 (⟨congrArg sI (if_pos (by first | omega | (simp only [Int.toNat_natCast]; omega))).symm, (if_pos (by omega)).symm, hT, rfl⟩)

set_option maxHeartbeats 4000000 in
set_option maxRecDepth 100000 in
theorem c_X7_about (l : Launch) (D : va_G) (G : sG) {M : sM} {L : sL} (i w : Int) (hir : InR i) (hwr : InR w) (hT : TInv M) (hc : qCt M) : sKi l D G yX7_about cX7_about 3 .int 7 153 [.ref (G.1 (258)), .int (sI (i)), .int (sI (w))] M L (fun r M' L' => r = sI (qrAbout M i w) ∧ M' = qB M (isQC M i ∧ (0 ≤ w ∧ w ≤ 3)) ∧ TInv M' ∧ L = L') := by
  refine sKi_go (by decide) (Nat.le_of_ble_eq_true rfl) ?_
  intro zp ze zs zm za zb zt zc Q C hret
  refine at_eq (lv' := [(0, .ref (G.1 (258))), (1, .int (sI (i))), (2, .int (sI (w)))]) (st' := []) (M' := M) (L' := L) ?_ rfl rfl rfl rfl
  have hqn := qn_r hT
  have hqc := qc_r hT
  have hqu := qu_r hT
  have hqt := qt_r hT
  have hqs := qs_r hT
  have hqo := qo_r hT
  have hqm := qm_r hT
  refine at_aload_n C 0 dX7_about_0 rfl ?_
  refine at_iload_n C 1 dX7_about_1 rfl ?_
  refine at_call_i C (c_X7_isCaller l D G i ⟨by omega, by omega⟩ hT) (As := [.int (sI (i))]) (obj_Ref G) (ci := 7) rfl qw_1224 qw_1221 qw_8 qw_1223 qp_73 ⟨by decide, by decide, show (parseMethodDescriptor yX7_isCaller.desc).map (fun d => d.parameters.length) = some 1 by decide +kernel⟩ ⟨by decide, by decide⟩ ⟨Nat.zero_le _, Nat.zero_le _⟩ (Nat.le_of_ble_eq_true rfl) dX7_about_2 rfl (fun r M' L' hp1 => ?_)
  obtain ⟨rfl, rfl, rfl⟩ := hp1
  refine at_if_eqB C 17 dX7_about_5 (by decide) (fun h2 => ?_) (fun h2 => ?_)
  · refine at_aload_n C 0 dX7_about_17 rfl ?_
    refine at_call_i C (c_X7_bad l D G hT ⟨by omega, by omega, by omega⟩) (As := []) (obj_Ref G) (ci := 7) rfl qw_1012 qw_1009 qw_8 qw_1011 qp_34 ⟨by decide, by decide, show (parseMethodDescriptor yX7_bad.desc).map (fun d => d.parameters.length) = some 0 by decide +kernel⟩ ⟨by decide, by decide⟩ ⟨Nat.zero_le _, Nat.zero_le _⟩ (Nat.le_of_ble_eq_true rfl) dX7_about_18 rfl (fun r M' L' hp4 => ?_)
    obtain ⟨rfl, rfl, hT3, rfl⟩ := hp4
    exact hret _ _ _ _ _ dX7_about_21 (⟨congrArg sI (if_neg (by first | omega | (simp only [Int.toNat_natCast]; omega))).symm, (if_neg (by omega)).symm, hT3, rfl⟩)
  · refine at_iload_n C 2 dX7_about_8 rfl ?_
    refine at_iconst C dX7_about_9 ?_
    refine at_iconst C dX7_about_10 ?_
    refine at_stat_i C (c_X7_in l D G w 0 3 ⟨by omega, by omega⟩ ⟨by omega, by omega⟩ ⟨by omega, by omega⟩) (As := [.int (sI (w)), .int (sI (0)), .int (sI (3))]) qw_1004 qw_1002 qw_8 qw_1003 ⟨by decide, by decide, show (parseMethodDescriptor yX7_in.desc).map (fun d => d.parameters.length) = some 3 by decide +kernel⟩ ⟨by decide, by decide⟩ ⟨Nat.zero_le _, Nat.zero_le _⟩ (Nat.le_of_ble_eq_true rfl) dX7_about_11 rfl (fun r M' L' hp5 => ?_)
    obtain ⟨rfl, rfl, rfl⟩ := hp5
    refine at_if_neB C 22 dX7_about_14 (by decide) (fun h6 => ?_) (fun h6 => ?_)
    · obtain ⟨n, rfl⟩ : ∃ n : Nat, i = (n : Int) := ⟨i.toNat, by omega⟩
      have hic : n < 6 := by omega
      refine at_iload_n C 2 dX7_about_22 rfl ?_
      refine at_if_ne C 35 dX7_about_23 (by decide) (⟨by omega, by omega⟩) (fun h7 => ?_) (fun h7 => ?_)
      · refine at_iload_n C 2 dX7_about_35 rfl ?_
        refine at_iconst C dX7_about_36 ?_
        refine at_icmp_ne C 48 dX7_about_37 (by decide) (⟨by omega, by omega⟩) (⟨by omega, by omega⟩) (fun h8 => ?_) (fun h8 => ?_)
        · refine at_iload_n C 2 dX7_about_48 rfl ?_
          refine at_iconst C dX7_about_49 ?_
          refine at_icmp_ne C 61 dX7_about_50 (by decide) (⟨by omega, by omega⟩) (⟨by omega, by omega⟩) (fun h9 => ?_) (fun h9 => ?_)
          · refine at_aload_n C 0 dX7_about_61 rfl ?_
            refine at_iload_n C 1 dX7_about_62 rfl ?_
            refine at_call_i C (c_X7_wouldTake l D G n (by omega) hT) (As := [.int (sI ((n : Int)))]) (obj_Ref G) (ci := 7) rfl qw_1140 qw_1137 qw_8 qw_1139 qp_58 ⟨by decide, by decide, show (parseMethodDescriptor yX7_wouldTake.desc).map (fun d => d.parameters.length) = some 1 by decide +kernel⟩ ⟨by decide, by decide⟩ ⟨Nat.zero_le _, Nat.zero_le _⟩ (Nat.le_of_ble_eq_true rfl) dX7_about_63 rfl (fun r M' L' hp12 => ?_)
            obtain ⟨rfl, rfl, rfl⟩ := hp12
            have hb10 := qCho_r M n
            have hb11 := qn_r hT
            exact hret _ _ _ _ _ dX7_about_66 (⟨congrArg sI ((((if_pos (by first | omega | (simp only [Int.toNat_natCast]; omega))).trans (if_neg (by first | omega | (simp only [Int.toNat_natCast]; omega)))).trans (if_neg (by first | omega | (simp only [Int.toNat_natCast]; omega)))).trans (if_neg (by first | omega | (simp only [Int.toNat_natCast]; omega)))).symm, (if_pos (by omega)).symm, hT, rfl⟩)
          · refine at_aload_n C 0 dX7_about_53 rfl ?_
            refine at_iload_n C 1 dX7_about_54 rfl ?_
            refine at_call_i C (c_X7_looksFor l D G n (by omega) hT) (As := [.int (sI ((n : Int)))]) (obj_Ref G) (ci := 7) rfl qw_1173 qw_1170 qw_8 qw_1172 qp_64 ⟨by decide, by decide, show (parseMethodDescriptor yX7_looksFor.desc).map (fun d => d.parameters.length) = some 1 by decide +kernel⟩ ⟨by decide, by decide⟩ ⟨Nat.zero_le _, Nat.zero_le _⟩ (Nat.le_of_ble_eq_true rfl) dX7_about_55 rfl (fun r M' L' hp14 => ?_)
            obtain ⟨rfl, rfl, rfl⟩ := hp14
            have hb13 := qWan_r hT n
            refine at_goto C 66 dX7_about_58 (by decide) ?_
            exact hret _ _ _ _ _ dX7_about_66 (⟨congrArg sI ((((if_pos (by first | omega | (simp only [Int.toNat_natCast]; omega))).trans (if_neg (by first | omega | (simp only [Int.toNat_natCast]; omega)))).trans (if_neg (by first | omega | (simp only [Int.toNat_natCast]; omega)))).trans (if_pos (by first | omega | (simp only [Int.toNat_natCast]; omega)))).symm, (if_pos (by omega)).symm, hT, rfl⟩)
        · refine at_aload_n C 0 dX7_about_40 rfl ?_
          refine at_iload_n C 1 dX7_about_41 rfl ?_
          refine at_call_i C (c_X7_heldBy l D G n (by omega) hT) (As := [.int (sI ((n : Int)))]) (obj_Ref G) (ci := 7) rfl qw_1144 qw_1141 qw_8 qw_1143 qp_59 ⟨by decide, by decide, show (parseMethodDescriptor yX7_heldBy.desc).map (fun d => d.parameters.length) = some 1 by decide +kernel⟩ ⟨by decide, by decide⟩ ⟨Nat.zero_le _, Nat.zero_le _⟩ (Nat.le_of_ble_eq_true rfl) dX7_about_42 rfl (fun r M' L' hp16 => ?_)
          obtain ⟨rfl, rfl, rfl⟩ := hp16
          have hb15 : -1 ≤ qHeld M n ∧ qHeld M n < qn M := lst_r _ _
          refine at_goto C 66 dX7_about_45 (by decide) ?_
          exact hret _ _ _ _ _ dX7_about_66 (⟨congrArg sI (((if_pos (by first | omega | (simp only [Int.toNat_natCast]; omega))).trans (if_neg (by first | omega | (simp only [Int.toNat_natCast]; omega)))).trans (if_pos (by first | omega | (simp only [Int.toNat_natCast]; omega)))).symm, (if_pos (by omega)).symm, hT, rfl⟩)
      · refine at_aload_n C 0 dX7_about_26 rfl ?_
        refine at_getf (v := .ref (G.1 (266))) C (obj_Ref G) (ci := 7) rfl inX7 (slot := 14) (by decide) qw_896 rfl rfl dX7_about_27 ?_
        refine at_iload_n C 1 dX7_about_30 rfl ?_
        refine at_iald C n (ar_266 G) (rfl) (by omega) dX7_about_31 ?_
        have hb17 : _ ≤ M 266 n ∧ M 266 n ≤ _ := tv hT (k := 266) (j := n) rfl
        refine at_goto C 66 dX7_about_32 (by decide) ?_
        exact hret _ _ _ _ _ dX7_about_66 (⟨congrArg sI ((if_pos (by first | omega | (simp only [Int.toNat_natCast]; omega))).trans (if_pos (by first | omega | (simp only [Int.toNat_natCast]; omega)))).symm, (if_pos (by omega)).symm, hT, rfl⟩)
    · refine at_aload_n C 0 dX7_about_17 rfl ?_
      refine at_call_i C (c_X7_bad l D G hT ⟨by omega, by omega, by omega⟩) (As := []) (obj_Ref G) (ci := 7) rfl qw_1012 qw_1009 qw_8 qw_1011 qp_34 ⟨by decide, by decide, show (parseMethodDescriptor yX7_bad.desc).map (fun d => d.parameters.length) = some 0 by decide +kernel⟩ ⟨by decide, by decide⟩ ⟨Nat.zero_le _, Nat.zero_le _⟩ (Nat.le_of_ble_eq_true rfl) dX7_about_18 rfl (fun r M' L' hp19 => ?_)
      obtain ⟨rfl, rfl, hT18, rfl⟩ := hp19
      exact hret _ _ _ _ _ dX7_about_21 (⟨congrArg sI (if_neg (by first | omega | (simp only [Int.toNat_natCast]; omega))).symm, (if_neg (by omega)).symm, hT18, rfl⟩)

set_option maxHeartbeats 4000000 in
set_option maxRecDepth 100000 in
theorem c_X7_feels (l : Launch) (D : va_G) (G : sG) {M : sM} {L : sL} (s i : Int) (hsr : InR s) (hir : InR i) (hT : TInv M) (hc : qCt M) : sKi l D G yX7_feels cX7_feels 3 .int 4 87 [.ref (G.1 (258)), .int (sI (s)), .int (sI (i))] M L (fun r M' L' => r = sI (qrFeels M s i) ∧ M' = qB M (isQS M s ∧ isQC M i) ∧ TInv M' ∧ L = L') := by
  refine sKi_go (by decide) (Nat.le_of_ble_eq_true rfl) ?_
  intro zp ze zs zm za zb zt zc Q C hret
  refine at_eq (lv' := [(0, .ref (G.1 (258))), (1, .int (sI (s))), (2, .int (sI (i)))]) (st' := []) (M' := M) (L' := L) ?_ rfl rfl rfl rfl
  have hqn := qn_r hT
  have hqc := qc_r hT
  have hqu := qu_r hT
  have hqt := qt_r hT
  have hqs := qs_r hT
  have hqo := qo_r hT
  have hqm := qm_r hT
  refine at_aload_n C 0 dX7_feels_0 rfl ?_
  refine at_iload_n C 1 dX7_feels_1 rfl ?_
  refine at_call_i C (c_X7_isSoul l D G s ⟨by omega, by omega⟩ hT) (As := [.int (sI (s))]) (obj_Ref G) (ci := 7) rfl qw_1177 qw_1174 qw_8 qw_1176 qp_65 ⟨by decide, by decide, show (parseMethodDescriptor yX7_isSoul.desc).map (fun d => d.parameters.length) = some 1 by decide +kernel⟩ ⟨by decide, by decide⟩ ⟨Nat.zero_le _, Nat.zero_le _⟩ (Nat.le_of_ble_eq_true rfl) dX7_feels_2 rfl (fun r M' L' hp1 => ?_)
  obtain ⟨rfl, rfl, rfl⟩ := hp1
  refine at_if_eqB C 25 dX7_feels_5 (by decide) (fun h2 => ?_) (fun h2 => ?_)
  · refine at_aload_n C 0 dX7_feels_25 rfl ?_
    refine at_call_i C (c_X7_bad l D G hT ⟨by omega, by omega, by omega⟩) (As := []) (obj_Ref G) (ci := 7) rfl qw_1012 qw_1009 qw_8 qw_1011 qp_34 ⟨by decide, by decide, show (parseMethodDescriptor yX7_bad.desc).map (fun d => d.parameters.length) = some 0 by decide +kernel⟩ ⟨by decide, by decide⟩ ⟨Nat.zero_le _, Nat.zero_le _⟩ (Nat.le_of_ble_eq_true rfl) dX7_feels_26 rfl (fun r M' L' hp4 => ?_)
    obtain ⟨rfl, rfl, hT3, rfl⟩ := hp4
    exact hret _ _ _ _ _ dX7_feels_29 (⟨congrArg sI (if_neg (by first | omega | (simp only [Int.toNat_natCast]; omega))).symm, (if_neg (by omega)).symm, hT3, rfl⟩)
  · refine at_aload_n C 0 dX7_feels_8 rfl ?_
    refine at_iload_n C 2 dX7_feels_9 rfl ?_
    refine at_call_i C (c_X7_isCaller l D G i ⟨by omega, by omega⟩ hT) (As := [.int (sI (i))]) (obj_Ref G) (ci := 7) rfl qw_1224 qw_1221 qw_8 qw_1223 qp_73 ⟨by decide, by decide, show (parseMethodDescriptor yX7_isCaller.desc).map (fun d => d.parameters.length) = some 1 by decide +kernel⟩ ⟨by decide, by decide⟩ ⟨Nat.zero_le _, Nat.zero_le _⟩ (Nat.le_of_ble_eq_true rfl) dX7_feels_10 rfl (fun r M' L' hp5 => ?_)
    obtain ⟨rfl, rfl, rfl⟩ := hp5
    refine at_if_eqB C 25 dX7_feels_13 (by decide) (fun h6 => ?_) (fun h6 => ?_)
    · refine at_aload_n C 0 dX7_feels_25 rfl ?_
      refine at_call_i C (c_X7_bad l D G hT ⟨by omega, by omega, by omega⟩) (As := []) (obj_Ref G) (ci := 7) rfl qw_1012 qw_1009 qw_8 qw_1011 qp_34 ⟨by decide, by decide, show (parseMethodDescriptor yX7_bad.desc).map (fun d => d.parameters.length) = some 0 by decide +kernel⟩ ⟨by decide, by decide⟩ ⟨Nat.zero_le _, Nat.zero_le _⟩ (Nat.le_of_ble_eq_true rfl) dX7_feels_26 rfl (fun r M' L' hp8 => ?_)
      obtain ⟨rfl, rfl, hT7, rfl⟩ := hp8
      exact hret _ _ _ _ _ dX7_feels_29 (⟨congrArg sI (if_neg (by first | omega | (simp only [Int.toNat_natCast]; omega))).symm, (if_neg (by omega)).symm, hT7, rfl⟩)
    · obtain ⟨sn, rfl⟩ : ∃ sn : Nat, s = (sn : Int) := ⟨s.toNat, by omega⟩
      obtain ⟨n, rfl⟩ : ∃ n : Nat, i = (n : Int) := ⟨i.toNat, by omega⟩
      refine at_aload_n C 0 dX7_feels_16 rfl ?_
      refine at_iload_n C 1 dX7_feels_17 rfl ?_
      refine at_iload_n C 2 dX7_feels_18 rfl ?_
      refine at_call_i C (c_X7_feltBy l D G sn (by omega) n (by omega) hT) (As := [.int (sI ((sn : Int))), .int (sI ((n : Int)))]) (obj_Ref G) (ci := 7) rfl qw_1156 qw_1153 qw_8 qw_1155 qp_62 ⟨by decide, by decide, show (parseMethodDescriptor yX7_feltBy.desc).map (fun d => d.parameters.length) = some 2 by decide +kernel⟩ ⟨by decide, by decide⟩ ⟨Nat.zero_le _, Nat.zero_le _⟩ (Nat.le_of_ble_eq_true rfl) dX7_feels_19 rfl (fun r M' L' hp10 => ?_)
      obtain ⟨rfl, rfl, rfl⟩ := hp10
      have hb9 := qFel_r hT sn n
      refine at_goto C 29 dX7_feels_22 (by decide) ?_
      exact hret _ _ _ _ _ dX7_feels_29 (⟨congrArg sI (if_pos (by first | omega | (simp only [Int.toNat_natCast]; omega))).symm, (if_pos (by omega)).symm, hT, rfl⟩)

set_option maxHeartbeats 4000000 in
set_option maxRecDepth 100000 in
theorem c_X7_where (l : Launch) (D : va_G) (G : sG) {M : sM} {L : sL} (s m : Int) (hsr : InR s) (hmr : InR m) (hT : TInv M) (hc : qCt M) : sKi l D G yX7_where cX7_where 3 .int 3 65 [.ref (G.1 (258)), .int (sI (s)), .int (sI (m))] M L (fun r M' L' => r = sI (qrWhere M s m) ∧ M' = qB M (isQS M s ∧ (0 ≤ m ∧ m ≤ 60)) ∧ TInv M' ∧ L = L') := by
  refine sKi_go (by decide) (Nat.le_of_ble_eq_true rfl) ?_
  intro zp ze zs zm za zb zt zc Q C hret
  refine at_eq (lv' := [(0, .ref (G.1 (258))), (1, .int (sI (s))), (2, .int (sI (m)))]) (st' := []) (M' := M) (L' := L) ?_ rfl rfl rfl rfl
  have hqn := qn_r hT
  have hqc := qc_r hT
  have hqu := qu_r hT
  have hqt := qt_r hT
  have hqs := qs_r hT
  have hqo := qo_r hT
  have hqm := qm_r hT
  refine at_aload_n C 0 dX7_where_0 rfl ?_
  refine at_iload_n C 1 dX7_where_1 rfl ?_
  refine at_call_i C (c_X7_isSoul l D G s ⟨by omega, by omega⟩ hT) (As := [.int (sI (s))]) (obj_Ref G) (ci := 7) rfl qw_1177 qw_1174 qw_8 qw_1176 qp_65 ⟨by decide, by decide, show (parseMethodDescriptor yX7_isSoul.desc).map (fun d => d.parameters.length) = some 1 by decide +kernel⟩ ⟨by decide, by decide⟩ ⟨Nat.zero_le _, Nat.zero_le _⟩ (Nat.le_of_ble_eq_true rfl) dX7_where_2 rfl (fun r M' L' hp1 => ?_)
  obtain ⟨rfl, rfl, rfl⟩ := hp1
  refine at_if_eqB C 18 dX7_where_5 (by decide) (fun h2 => ?_) (fun h2 => ?_)
  · refine at_aload_n C 0 dX7_where_18 rfl ?_
    refine at_call_i C (c_X7_bad l D G hT ⟨by omega, by omega, by omega⟩) (As := []) (obj_Ref G) (ci := 7) rfl qw_1012 qw_1009 qw_8 qw_1011 qp_34 ⟨by decide, by decide, show (parseMethodDescriptor yX7_bad.desc).map (fun d => d.parameters.length) = some 0 by decide +kernel⟩ ⟨by decide, by decide⟩ ⟨Nat.zero_le _, Nat.zero_le _⟩ (Nat.le_of_ble_eq_true rfl) dX7_where_19 rfl (fun r M' L' hp4 => ?_)
    obtain ⟨rfl, rfl, hT3, rfl⟩ := hp4
    exact hret _ _ _ _ _ dX7_where_22 (⟨congrArg sI (if_neg (by first | omega | (simp only [Int.toNat_natCast]; omega))).symm, (if_neg (by omega)).symm, hT3, rfl⟩)
  · refine at_iload_n C 2 dX7_where_8 rfl ?_
    refine at_iconst C dX7_where_9 ?_
    refine at_bipush C dX7_where_10 (by decide) (by decide) ?_
    refine at_stat_i C (c_X7_in l D G m 0 60 ⟨by omega, by omega⟩ ⟨by omega, by omega⟩ ⟨by omega, by omega⟩) (As := [.int (sI (m)), .int (sI (0)), .int (sI (60))]) qw_1004 qw_1002 qw_8 qw_1003 ⟨by decide, by decide, show (parseMethodDescriptor yX7_in.desc).map (fun d => d.parameters.length) = some 3 by decide +kernel⟩ ⟨by decide, by decide⟩ ⟨Nat.zero_le _, Nat.zero_le _⟩ (Nat.le_of_ble_eq_true rfl) dX7_where_12 rfl (fun r M' L' hp5 => ?_)
    obtain ⟨rfl, rfl, rfl⟩ := hp5
    refine at_if_neB C 23 dX7_where_15 (by decide) (fun h6 => ?_) (fun h6 => ?_)
    · obtain ⟨sn, rfl⟩ : ∃ sn : Nat, s = (sn : Int) := ⟨s.toNat, by omega⟩
      obtain ⟨mn, rfl⟩ : ∃ mn : Nat, m = (mn : Int) := ⟨m.toNat, by omega⟩
      refine at_aload_n C 0 dX7_where_23 rfl ?_
      refine at_getf (v := .ref (G.1 (263))) C (obj_Ref G) (ci := 7) rfl inX7 (slot := 11) (by decide) qw_893 rfl rfl dX7_where_24 ?_
      refine at_iload_n C 1 dX7_where_27 rfl ?_
      refine at_iald C sn (ar_263 G) (rfl) (by omega) dX7_where_28 ?_
      have hb7 : _ ≤ M 263 sn ∧ M 263 sn ≤ _ := tv hT (k := 263) (j := sn) rfl
      refine at_if_lt C 46 dX7_where_29 (by decide) (⟨by omega, by omega⟩) (fun h8 => ?_) (fun h8 => ?_)
      · refine at_iconst C dX7_where_46 ?_
        exact hret _ _ _ _ _ dX7_where_47 (⟨congrArg sI ((if_pos (by first | omega | (simp only [Int.toNat_natCast]; omega))).trans (if_neg (by first | omega | (simp only [Int.toNat_natCast]; omega)))).symm, (if_pos (by omega)).symm, hT, rfl⟩)
      · refine at_aload_n C 0 dX7_where_32 rfl ?_
        refine at_aload_n C 0 dX7_where_33 rfl ?_
        refine at_getf (v := .ref (G.1 (263))) C (obj_Ref G) (ci := 7) rfl inX7 (slot := 11) (by decide) qw_893 rfl rfl dX7_where_34 ?_
        refine at_iload_n C 1 dX7_where_37 rfl ?_
        refine at_iald C sn (ar_263 G) (rfl) (by omega) dX7_where_38 ?_
        have hb9 : _ ≤ M 263 sn ∧ M 263 sn ≤ _ := tv hT (k := 263) (j := sn) rfl
        refine at_iload_n C 2 dX7_where_39 rfl ?_
        refine at_call_i C (c_X7_driftBehind l D G (M 263 sn) ⟨by omega, by omega⟩ mn (by omega) hT) (As := [.int (sI (M 263 sn)), .int (sI ((mn : Int)))]) (obj_Ref G) (ci := 7) rfl qw_1256 qw_1253 qw_8 qw_1255 qp_75 ⟨by decide, by decide, show (parseMethodDescriptor yX7_driftBehind.desc).map (fun d => d.parameters.length) = some 2 by decide +kernel⟩ ⟨by decide, by decide⟩ ⟨Nat.zero_le _, Nat.zero_le _⟩ (Nat.le_of_ble_eq_true rfl) dX7_where_40 rfl (fun r M' L' hp11 => ?_)
        obtain ⟨rfl, rfl, rfl⟩ := hp11
        have hb10 := driN_r (M 260) (c := M 263 sn) ⟨by omega, by omega⟩ mn
        refine at_goto C 47 dX7_where_43 (by decide) ?_
        exact hret _ _ _ _ _ dX7_where_47 (⟨congrArg sI ((if_pos (by first | omega | (simp only [Int.toNat_natCast]; omega))).trans (if_pos (by first | omega | (simp only [Int.toNat_natCast]; omega)))).symm, (if_pos (by omega)).symm, hT, rfl⟩)
    · refine at_aload_n C 0 dX7_where_18 rfl ?_
      refine at_call_i C (c_X7_bad l D G hT ⟨by omega, by omega, by omega⟩) (As := []) (obj_Ref G) (ci := 7) rfl qw_1012 qw_1009 qw_8 qw_1011 qp_34 ⟨by decide, by decide, show (parseMethodDescriptor yX7_bad.desc).map (fun d => d.parameters.length) = some 0 by decide +kernel⟩ ⟨by decide, by decide⟩ ⟨Nat.zero_le _, Nat.zero_le _⟩ (Nat.le_of_ble_eq_true rfl) dX7_where_19 rfl (fun r M' L' hp13 => ?_)
      obtain ⟨rfl, rfl, hT12, rfl⟩ := hp13
      exact hret _ _ _ _ _ dX7_where_22 (⟨congrArg sI (if_neg (by first | omega | (simp only [Int.toNat_natCast]; omega))).symm, (if_neg (by omega)).symm, hT12, rfl⟩)

set_option maxHeartbeats 4000000 in
set_option maxRecDepth 100000 in
theorem c_X7_comes (l : Launch) (D : va_G) (G : sG) {M : sM} {L : sL} (c m : Int) (hcr : InR c) (hmr : InR m) (hT : TInv M) (hc : qCt M) : sKi l D G yX7_comes cX7_comes 5 .int 3 65 [.ref (G.1 (258)), .int (sI (c)), .int (sI (m))] M L (fun r M' L' => r = sI (qrComes M c m) ∧ M' = qB M ((0 ≤ c ∧ c ≤ 11) ∧ (0 ≤ m ∧ m ≤ 60)) ∧ TInv M' ∧ L = L') := by
  refine sKi_go (by decide) (Nat.le_of_ble_eq_true rfl) ?_
  intro zp ze zs zm za zb zt zc Q C hret
  refine at_eq (lv' := [(0, .ref (G.1 (258))), (1, .int (sI (c))), (2, .int (sI (m)))]) (st' := []) (M' := M) (L' := L) ?_ rfl rfl rfl rfl
  have hqn := qn_r hT
  have hqc := qc_r hT
  have hqu := qu_r hT
  have hqt := qt_r hT
  have hqs := qs_r hT
  have hqo := qo_r hT
  have hqm := qm_r hT
  refine at_iload_n C 1 dX7_comes_0 rfl ?_
  refine at_stat_i C (c_X7_isCell l D G c ⟨by omega, by omega⟩) (As := [.int (sI (c))]) qw_1001 qw_999 qw_8 qw_1000 ⟨by decide, by decide, show (parseMethodDescriptor yX7_isCell.desc).map (fun d => d.parameters.length) = some 1 by decide +kernel⟩ ⟨by decide, by decide⟩ ⟨Nat.zero_le _, Nat.zero_le _⟩ (Nat.le_of_ble_eq_true rfl) dX7_comes_1 rfl (fun r M' L' hp1 => ?_)
  obtain ⟨rfl, rfl, rfl⟩ := hp1
  refine at_if_eqB C 17 dX7_comes_4 (by decide) (fun h2 => ?_) (fun h2 => ?_)
  · refine at_aload_n C 0 dX7_comes_17 rfl ?_
    refine at_call_i C (c_X7_bad l D G hT ⟨by omega, by omega, by omega⟩) (As := []) (obj_Ref G) (ci := 7) rfl qw_1012 qw_1009 qw_8 qw_1011 qp_34 ⟨by decide, by decide, show (parseMethodDescriptor yX7_bad.desc).map (fun d => d.parameters.length) = some 0 by decide +kernel⟩ ⟨by decide, by decide⟩ ⟨Nat.zero_le _, Nat.zero_le _⟩ (Nat.le_of_ble_eq_true rfl) dX7_comes_18 rfl (fun r M' L' hp4 => ?_)
    obtain ⟨rfl, rfl, hT3, rfl⟩ := hp4
    exact hret _ _ _ _ _ dX7_comes_21 (⟨congrArg sI (if_neg (by first | omega | (simp only [Int.toNat_natCast]; omega))).symm, (if_neg (by omega)).symm, hT3, rfl⟩)
  · refine at_iload_n C 2 dX7_comes_7 rfl ?_
    refine at_iconst C dX7_comes_8 ?_
    refine at_bipush C dX7_comes_9 (by decide) (by decide) ?_
    refine at_stat_i C (c_X7_in l D G m 0 60 ⟨by omega, by omega⟩ ⟨by omega, by omega⟩ ⟨by omega, by omega⟩) (As := [.int (sI (m)), .int (sI (0)), .int (sI (60))]) qw_1004 qw_1002 qw_8 qw_1003 ⟨by decide, by decide, show (parseMethodDescriptor yX7_in.desc).map (fun d => d.parameters.length) = some 3 by decide +kernel⟩ ⟨by decide, by decide⟩ ⟨Nat.zero_le _, Nat.zero_le _⟩ (Nat.le_of_ble_eq_true rfl) dX7_comes_11 rfl (fun r M' L' hp5 => ?_)
    obtain ⟨rfl, rfl, rfl⟩ := hp5
    refine at_if_neB C 22 dX7_comes_14 (by decide) (fun h6 => ?_) (fun h6 => ?_)
    · obtain ⟨mn, rfl⟩ : ∃ mn : Nat, m = (mn : Int) := ⟨m.toNat, by omega⟩
      refine at_iconst C dX7_comes_22 ?_
      refine at_istore_n C [(3, .int (sI (0))), (0, .ref (G.1 (258))), (1, .int (sI (c))), (2, .int (sI ((mn : Int))))] dX7_comes_23 (by decide) rfl ?_
      refine at_iconst C dX7_comes_24 ?_
      refine at_istore C [(4, .int (sI (0))), (3, .int (sI (0))), (0, .ref (G.1 (258))), (1, .int (sI (c))), (2, .int (sI ((mn : Int))))] dX7_comes_25 (by decide) rfl ?_
      have H27 : ∀ (fu : Nat) (k : Nat), 12 - k < fu → (k ≤ 12) → sAt zp l ze (sRm 3 65) zs zm za zb zt zc D G 5 0 0 Q 27 [(0, .ref (G.1 (258))), (1, .int (sI (c))), (2, .int (sI ((mn : Int)))), (3, .int (sI ((((bits (fun a => driN (M 260) mn (a : Int) = c) k) : Nat) : Int)))), (4, .int (sI ((k : Int))))] [] M L := by
        intro fu
        induction fu with
        | zero => intro k hd hk; exact absurd hd (Nat.not_lt_zero _)
        | succ fu ih27 =>
          intro k hd27 hk
          have hbl : bits (fun a => driN (M 260) mn (a : Int) = c) k < 2 ^ 12 := Nat.lt_of_lt_of_le (bits_lt _ k) (Nat.pow_le_pow_right (by decide) hk)
          refine at_iload C 4 dX7_comes_27 rfl ?_
          refine at_bipush C dX7_comes_29 (by decide) (by decide) ?_
          refine at_icmp_ge C 62 dX7_comes_31 (by decide) (⟨by omega, by omega⟩) (⟨by omega, by omega⟩) (fun h7 => ?_) (fun h7 => ?_)
          · refine at_iload_n C 3 dX7_comes_62 rfl ?_
            exact hret _ _ _ _ _ dX7_comes_63 (⟨congrArg sI (by unfold qrComes; rw [if_pos (by omega), Int.toNat_natCast, show k = 12 by omega]), (if_pos (by omega)).symm, hT, rfl⟩)
          · refine at_iload_n C 3 dX7_comes_34 rfl ?_
            refine at_aload_n C 0 dX7_comes_35 rfl ?_
            refine at_iload C 4 dX7_comes_36 rfl ?_
            refine at_iload_n C 2 dX7_comes_38 rfl ?_
            refine at_call_i C (c_X7_driftBehind l D G (k : Int) ⟨by omega, by omega⟩ mn (by omega) hT) (As := [.int (sI ((k : Int))), .int (sI ((mn : Int)))]) (obj_Ref G) (ci := 7) rfl qw_1256 qw_1253 qw_8 qw_1255 qp_75 ⟨by decide, by decide, show (parseMethodDescriptor yX7_driftBehind.desc).map (fun d => d.parameters.length) = some 2 by decide +kernel⟩ ⟨by decide, by decide⟩ ⟨Nat.zero_le _, Nat.zero_le _⟩ (Nat.le_of_ble_eq_true rfl) dX7_comes_39 rfl (fun r M' L' hp9 => ?_)
            obtain ⟨rfl, rfl, rfl⟩ := hp9
            have hb8 := driN_r (M 260) (c := (k : Int)) ⟨by omega, by omega⟩ mn
            refine at_iload_n C 1 dX7_comes_42 rfl ?_
            refine at_icmp_ne C 53 dX7_comes_43 (by decide) (⟨by omega, by omega⟩) (⟨by omega, by omega⟩) (fun h10 => ?_) (fun h10 => ?_)
            · refine at_iconst C dX7_comes_53 ?_
              refine at_ior C ((((bits (fun a => driN (M 260) mn (a : Int) = c) k) : Nat) : Int)) dX7_comes_54 (zb_or0 _) ?_
              refine at_istore_n C [(3, .int (sI ((((bits (fun a => driN (M 260) mn (a : Int) = c) k) : Nat) : Int)))), (0, .ref (G.1 (258))), (1, .int (sI (c))), (2, .int (sI ((mn : Int)))), (4, .int (sI ((k : Int))))] dX7_comes_55 (by decide) rfl ?_
              refine at_iinc C 4 [(4, .int (sI ((k : Int) + 1))), (3, .int (sI ((((bits (fun a => driN (M 260) mn (a : Int) = c) k) : Nat) : Int)))), (0, .ref (G.1 (258))), (1, .int (sI (c))), (2, .int (sI ((mn : Int))))] dX7_comes_56 rfl (by decide) rfl ?_
              refine at_goto C 27 dX7_comes_59 (by decide) ?_
              refine at_lv [2, 3, 4, 1, 0] rfl ?_
              exact at_eq (ih27 (k + 1) (by omega) (by omega)) (lvc_s (lvc_s (lvc_s (lvc_i (by rw [bits_n (p := fun a => driN (M 260) mn (a : Int) = c) (by assumption)]) (lvc_i (by omega) rfl))))) rfl (rfl) (rfl)
            · refine at_iconst C dX7_comes_46 ?_
              refine at_iload C 4 dX7_comes_47 rfl ?_
              refine at_ishl C ((((2 ^ k) : Nat) : Int)) dX7_comes_49 (zb_shl (by omega)) ?_
              refine at_goto C 54 dX7_comes_50 (by decide) ?_
              refine at_ior C ((((bits (fun a => driN (M 260) mn (a : Int) = c) k ||| 2 ^ k) : Nat) : Int)) dX7_comes_54 (zb_or _ _) ?_
              refine at_istore_n C [(3, .int (sI ((((bits (fun a => driN (M 260) mn (a : Int) = c) k ||| 2 ^ k) : Nat) : Int)))), (0, .ref (G.1 (258))), (1, .int (sI (c))), (2, .int (sI ((mn : Int)))), (4, .int (sI ((k : Int))))] dX7_comes_55 (by decide) rfl ?_
              refine at_iinc C 4 [(4, .int (sI ((k : Int) + 1))), (3, .int (sI ((((bits (fun a => driN (M 260) mn (a : Int) = c) k ||| 2 ^ k) : Nat) : Int)))), (0, .ref (G.1 (258))), (1, .int (sI (c))), (2, .int (sI ((mn : Int))))] dX7_comes_56 rfl (by decide) rfl ?_
              refine at_goto C 27 dX7_comes_59 (by decide) ?_
              refine at_lv [2, 3, 4, 1, 0] rfl ?_
              exact at_eq (ih27 (k + 1) (by omega) (by omega)) (lvc_s (lvc_s (lvc_s (lvc_i (by rw [bits_y (p := fun a => driN (M 260) mn (a : Int) = c) (by assumption)]) (lvc_i (by omega) rfl))))) rfl (rfl) (rfl)
      refine at_lv [2, 3, 4, 1, 0] rfl ?_
      exact at_eq (H27 _ 0 (Nat.lt_succ_self _) (by omega)) (lvc_s (lvc_s (lvc_s (lvc_i (rfl) (lvc_i (rfl) rfl))))) rfl (rfl) (rfl)
    · refine at_aload_n C 0 dX7_comes_17 rfl ?_
      refine at_call_i C (c_X7_bad l D G hT ⟨by omega, by omega, by omega⟩) (As := []) (obj_Ref G) (ci := 7) rfl qw_1012 qw_1009 qw_8 qw_1011 qp_34 ⟨by decide, by decide, show (parseMethodDescriptor yX7_bad.desc).map (fun d => d.parameters.length) = some 0 by decide +kernel⟩ ⟨by decide, by decide⟩ ⟨Nat.zero_le _, Nat.zero_le _⟩ (Nat.le_of_ble_eq_true rfl) dX7_comes_18 rfl (fun r M' L' hp12 => ?_)
      obtain ⟨rfl, rfl, hT11, rfl⟩ := hp12
      exact hret _ _ _ _ _ dX7_comes_21 (⟨congrArg sI (if_neg (by first | omega | (simp only [Int.toNat_natCast]; omega))).symm, (if_neg (by omega)).symm, hT11, rfl⟩)

set_option maxHeartbeats 4000000 in
set_option maxRecDepth 100000 in
theorem c_X7_status (l : Launch) (D : va_G) (G : sG) {M : sM} {L : sL} (w : Int) (hwr : InR w) (hT : TInv M) (hc : qCt M) : sKi l D G yX7_status cX7_status 2 .int 1 22 [.ref (G.1 (258)), .int (sI (w))] M L (fun r M' L' => r = sI (qrStatus M w) ∧ M' = qB M (0 ≤ w ∧ w ≤ 2) ∧ TInv M' ∧ L = L') := by
  refine sKi_go (by decide) (Nat.le_of_ble_eq_true rfl) ?_
  intro zp ze zs zm za zb zt zc Q C hret
  refine at_eq (lv' := [(0, .ref (G.1 (258))), (1, .int (sI (w)))]) (st' := []) (M' := M) (L' := L) ?_ rfl rfl rfl rfl
  have hqn := qn_r hT
  have hqc := qc_r hT
  have hqu := qu_r hT
  have hqt := qt_r hT
  have hqs := qs_r hT
  have hqo := qo_r hT
  have hqm := qm_r hT
  refine at_iload_n C 1 dX7_status_0 rfl ?_
  refine at_iconst C dX7_status_1 ?_
  refine at_iconst C dX7_status_2 ?_
  refine at_stat_i C (c_X7_in l D G w 0 2 ⟨by omega, by omega⟩ ⟨by omega, by omega⟩ ⟨by omega, by omega⟩) (As := [.int (sI (w)), .int (sI (0)), .int (sI (2))]) qw_1004 qw_1002 qw_8 qw_1003 ⟨by decide, by decide, show (parseMethodDescriptor yX7_in.desc).map (fun d => d.parameters.length) = some 3 by decide +kernel⟩ ⟨by decide, by decide⟩ ⟨Nat.zero_le _, Nat.zero_le _⟩ (Nat.le_of_ble_eq_true rfl) dX7_status_3 rfl (fun r M' L' hp1 => ?_)
  obtain ⟨rfl, rfl, rfl⟩ := hp1
  refine at_if_neB C 21 dX7_status_6 (by decide) (fun h2 => ?_) (fun h2 => ?_)
  · obtain ⟨wn, rfl⟩ : ∃ wn : Nat, w = (wn : Int) := ⟨w.toNat, by omega⟩
    refine at_aload_n C 0 dX7_status_21 rfl ?_
    refine at_getf (v := .ref (G.1 (259))) C (obj_Ref G) (ci := 7) rfl inX7 (slot := 0) (by decide) qw_882 rfl rfl dX7_status_22 ?_
    refine at_iload_n C 1 dX7_status_25 rfl ?_
    refine at_iald C wn (ar_259 G) (rfl) (by omega) dX7_status_26 ?_
    have hb3 : _ ≤ M 259 wn ∧ M 259 wn ≤ _ := tv hT (k := 259) (j := wn) rfl
    exact hret _ _ _ _ _ dX7_status_27 (⟨congrArg sI (if_pos (by first | omega | (simp only [Int.toNat_natCast]; omega))).symm, (if_pos (by omega)).symm, hT, rfl⟩)
  · refine at_aload_n C 0 dX7_status_9 rfl ?_
    refine at_getf (v := .ref (G.1 (259))) C (obj_Ref G) (ci := 7) rfl inX7 (slot := 0) (by decide) qw_882 rfl rfl dX7_status_10 ?_
    refine at_iconst C dX7_status_13 ?_
    refine at_dup2 C dX7_status_14 rfl rfl ?_
    refine at_iald C 0 (ar_259 G) (rfl) (by omega) dX7_status_15 ?_
    have hb4 : _ ≤ M 259 0 ∧ M 259 0 ≤ _ := tv hT (k := 259) (j := 0) rfl
    refine at_iconst C dX7_status_16 ?_
    refine at_iadd C dX7_status_17 ?_
    refine at_iast C 0 (ar_259 G) (rfl) (by omega) dX7_status_18 ?_
    have hT5 : TInv (sSt M 259 0 ((M 259 0) + 1)) := tv_st hT (k := 259) rfl (⟨by omega, by omega⟩)
    refine at_iconst C dX7_status_19 ?_
    exact hret _ _ _ _ _ dX7_status_20 (⟨congrArg sI (if_neg (by first | omega | (simp only [Int.toNat_natCast]; omega))).symm, (if_neg (by omega)).symm, hT5, rfl⟩)

set_option maxHeartbeats 4000000 in
set_option maxRecDepth 100000 in
theorem c_X7_countOf (l : Launch) (D : va_G) (G : sG) {M : sM} {L : sL} (w : Int) (hw : 0 ≤ w ∧ w ≤ 10) (hT : TInv M) : sKi l D G yX7_countOf cX7_countOf 2 .int 2 43 [.ref (G.1 (258)), .int (sI (w))] M L (fun r M' L' => r = sI (qrCount0 M w) ∧ M = M' ∧ L = L') := by
  refine sKi_go (by decide) (Nat.le_of_ble_eq_true rfl) ?_
  intro zp ze zs zm za zb zt zc Q C hret
  refine at_eq (lv' := [(0, .ref (G.1 (258))), (1, .int (sI (w)))]) (st' := []) (M' := M) (L' := L) ?_ rfl rfl rfl rfl
  have hqn := qn_r hT
  have hqc := qc_r hT
  have hqu := qu_r hT
  have hqt := qt_r hT
  have hqs := qs_r hT
  have hqo := qo_r hT
  have hqm := qm_r hT
  refine at_iload_n C 1 dX7_countOf_0 rfl ?_
  by_cases hs1 : w = 0
  · refine at_tsw C dX7_countOf_1 (⟨by omega, by omega⟩) 56 (Or.inr ⟨by omega, by omega, 55, by rw [hs1]; rfl, by decide⟩) ?_
    refine at_aload_n C 0 dX7_countOf_56 rfl ?_
    refine at_getf (v := .int (sI (M 258 1))) C (obj_Ref G) (ci := 7) rfl inX7 (slot := 1) (by decide) qw_883 rfl rfl dX7_countOf_57 ?_
    have hb2 : _ ≤ M 258 1 ∧ M 258 1 ≤ _ := tv hT (k := 258) (j := 1) rfl
    refine at_ve (b := (((qn M) : Nat) : Int)) (hqn.2) ?_
    exact hret _ _ _ _ _ dX7_countOf_60 (⟨congrArg sI (by unfold qrCount0; simp [*] <;> omega), rfl, rfl⟩)
  by_cases hs3 : w = 1
  · refine at_tsw C dX7_countOf_1 (⟨by omega, by omega⟩) 61 (Or.inr ⟨by omega, by omega, 60, by rw [hs3]; rfl, by decide⟩) ?_
    refine at_aload_n C 0 dX7_countOf_61 rfl ?_
    refine at_getf (v := .int (sI (M 258 2))) C (obj_Ref G) (ci := 7) rfl inX7 (slot := 2) (by decide) qw_884 rfl rfl dX7_countOf_62 ?_
    have hb4 : _ ≤ M 258 2 ∧ M 258 2 ≤ _ := tv hT (k := 258) (j := 2) rfl
    refine at_ve (b := (((qc M) : Nat) : Int)) (hqc.2) ?_
    exact hret _ _ _ _ _ dX7_countOf_65 (⟨congrArg sI (by unfold qrCount0; simp [*] <;> omega), rfl, rfl⟩)
  by_cases hs5 : w = 2
  · refine at_tsw C dX7_countOf_1 (⟨by omega, by omega⟩) 66 (Or.inr ⟨by omega, by omega, 65, by rw [hs5]; rfl, by decide⟩) ?_
    refine at_aload_n C 0 dX7_countOf_66 rfl ?_
    refine at_getf (v := .int (sI (M 258 3))) C (obj_Ref G) (ci := 7) rfl inX7 (slot := 3) (by decide) qw_885 rfl rfl dX7_countOf_67 ?_
    have hb6 : _ ≤ M 258 3 ∧ M 258 3 ≤ _ := tv hT (k := 258) (j := 3) rfl
    exact hret _ _ _ _ _ dX7_countOf_70 (⟨congrArg sI (by unfold qrCount0; simp [*] <;> omega), rfl, rfl⟩)
  by_cases hs7 : w = 3
  · refine at_tsw C dX7_countOf_1 (⟨by omega, by omega⟩) 71 (Or.inr ⟨by omega, by omega, 70, by rw [hs7]; rfl, by decide⟩) ?_
    refine at_aload_n C 0 dX7_countOf_71 rfl ?_
    refine at_call_i C (c_X7_adriftMany l D G hT) (As := []) (obj_Ref G) (ci := 7) rfl qw_1208 qw_1205 qw_8 qw_1207 qp_71 ⟨by decide, by decide, show (parseMethodDescriptor yX7_adriftMany.desc).map (fun d => d.parameters.length) = some 0 by decide +kernel⟩ ⟨by decide, by decide⟩ ⟨Nat.zero_le _, Nat.zero_le _⟩ (Nat.le_of_ble_eq_true rfl) dX7_countOf_72 rfl (fun r M' L' hp8 => ?_)
    obtain ⟨rfl, rfl, rfl⟩ := hp8
    exact hret _ _ _ _ _ dX7_countOf_75 (⟨congrArg sI (by unfold qrCount0; simp [*] <;> omega), rfl, rfl⟩)
  by_cases hs9 : w = 4
  · refine at_tsw C dX7_countOf_1 (⟨by omega, by omega⟩) 76 (Or.inr ⟨by omega, by omega, 75, by rw [hs9]; rfl, by decide⟩) ?_
    refine at_aload_n C 0 dX7_countOf_76 rfl ?_
    refine at_iconst C dX7_countOf_77 ?_
    refine at_call_i C (c_X7_countAt l D G (-1) ⟨by omega, by omega⟩ hT) (As := [.int (sI (-1))]) (obj_Ref G) (ci := 7) rfl qw_1121 qw_1118 qw_8 qw_1120 qp_54 ⟨by decide, by decide, show (parseMethodDescriptor yX7_countAt.desc).map (fun d => d.parameters.length) = some 1 by decide +kernel⟩ ⟨by decide, by decide⟩ ⟨Nat.zero_le _, Nat.zero_le _⟩ (Nat.le_of_ble_eq_true rfl) dX7_countOf_78 rfl (fun r M' L' hp11 => ?_)
    obtain ⟨rfl, rfl, rfl⟩ := hp11
    have hb10 : 0 ≤ qCnt M (-1) ∧ qCnt M (-1) ≤ qn M := cnt_r _ _
    exact hret _ _ _ _ _ dX7_countOf_81 (⟨congrArg sI (by unfold qrCount0; simp [*] <;> omega), rfl, rfl⟩)
  by_cases hs12 : w = 5
  · refine at_tsw C dX7_countOf_1 (⟨by omega, by omega⟩) 82 (Or.inr ⟨by omega, by omega, 81, by rw [hs12]; rfl, by decide⟩) ?_
    refine at_aload_n C 0 dX7_countOf_82 rfl ?_
    refine at_getf (v := .int (sI (M 258 4))) C (obj_Ref G) (ci := 7) rfl inX7 (slot := 4) (by decide) qw_886 rfl rfl dX7_countOf_83 ?_
    have hb13 : _ ≤ M 258 4 ∧ M 258 4 ≤ _ := tv hT (k := 258) (j := 4) rfl
    exact hret _ _ _ _ _ dX7_countOf_86 (⟨congrArg sI (by unfold qrCount0; simp [*] <;> omega), rfl, rfl⟩)
  by_cases hs14 : w = 6
  · refine at_tsw C dX7_countOf_1 (⟨by omega, by omega⟩) 87 (Or.inr ⟨by omega, by omega, 86, by rw [hs14]; rfl, by decide⟩) ?_
    refine at_aload_n C 0 dX7_countOf_87 rfl ?_
    refine at_getf (v := .int (sI (M 258 5))) C (obj_Ref G) (ci := 7) rfl inX7 (slot := 5) (by decide) qw_887 rfl rfl dX7_countOf_88 ?_
    have hb15 : _ ≤ M 258 5 ∧ M 258 5 ≤ _ := tv hT (k := 258) (j := 5) rfl
    refine at_ve (b := (((qs M) : Nat) : Int)) (hqs.2) ?_
    exact hret _ _ _ _ _ dX7_countOf_91 (⟨congrArg sI (by unfold qrCount0; simp [*] <;> omega), rfl, rfl⟩)
  by_cases hs16 : w = 7
  · refine at_tsw C dX7_countOf_1 (⟨by omega, by omega⟩) 92 (Or.inr ⟨by omega, by omega, 91, by rw [hs16]; rfl, by decide⟩) ?_
    refine at_aload_n C 0 dX7_countOf_92 rfl ?_
    refine at_getf (v := .int (sI (M 258 6))) C (obj_Ref G) (ci := 7) rfl inX7 (slot := 6) (by decide) qw_888 rfl rfl dX7_countOf_93 ?_
    have hb17 : _ ≤ M 258 6 ∧ M 258 6 ≤ _ := tv hT (k := 258) (j := 6) rfl
    refine at_ve (b := (((qo M) : Nat) : Int)) (hqo.2) ?_
    exact hret _ _ _ _ _ dX7_countOf_96 (⟨congrArg sI (by unfold qrCount0; simp [*] <;> omega), rfl, rfl⟩)
  by_cases hs18 : w = 8
  · refine at_tsw C dX7_countOf_1 (⟨by omega, by omega⟩) 97 (Or.inr ⟨by omega, by omega, 96, by rw [hs18]; rfl, by decide⟩) ?_
    refine at_aload_n C 0 dX7_countOf_97 rfl ?_
    refine at_getf (v := .int (sI (M 258 7))) C (obj_Ref G) (ci := 7) rfl inX7 (slot := 7) (by decide) qw_889 rfl rfl dX7_countOf_98 ?_
    have hb19 : _ ≤ M 258 7 ∧ M 258 7 ≤ _ := tv hT (k := 258) (j := 7) rfl
    refine at_ve (b := (((qm M) : Nat) : Int)) (hqm.2) ?_
    exact hret _ _ _ _ _ dX7_countOf_101 (⟨congrArg sI (by unfold qrCount0; simp [*] <;> omega), rfl, rfl⟩)
  by_cases hs20 : w = 9
  · refine at_tsw C dX7_countOf_1 (⟨by omega, by omega⟩) 102 (Or.inr ⟨by omega, by omega, 101, by rw [hs20]; rfl, by decide⟩) ?_
    refine at_aload_n C 0 dX7_countOf_102 rfl ?_
    refine at_getf (v := .int (sI (M 258 25))) C (obj_Ref G) (ci := 7) rfl inX7 (slot := 25) (by decide) qw_907 rfl rfl dX7_countOf_103 ?_
    have hb21 : _ ≤ M 258 25 ∧ M 258 25 ≤ _ := tv hT (k := 258) (j := 25) rfl
    refine at_ve (b := (((qu M) : Nat) : Int)) (hqu.2) ?_
    exact hret _ _ _ _ _ dX7_countOf_106 (⟨congrArg sI (by unfold qrCount0; simp [*] <;> omega), rfl, rfl⟩)
  refine at_tsw C dX7_countOf_1 (⟨by omega, by omega⟩) 107 (Or.inl ⟨by omega, by decide⟩) ?_
  refine at_aload_n C 0 dX7_countOf_107 rfl ?_
  refine at_getf (v := .int (sI (M 258 19))) C (obj_Ref G) (ci := 7) rfl inX7 (slot := 19) (by decide) qw_901 rfl rfl dX7_countOf_108 ?_
  have hb22 : _ ≤ M 258 19 ∧ M 258 19 ≤ _ := tv hT (k := 258) (j := 19) rfl
  refine at_ve (b := (((qt M) : Nat) : Int)) (hqt.2) ?_
  exact hret _ _ _ _ _ dX7_countOf_111 (⟨congrArg sI (by unfold qrCount0; simp [*] <;> omega), rfl, rfl⟩)

set_option maxHeartbeats 4000000 in
set_option maxRecDepth 100000 in
theorem c_X7_count (l : Launch) (D : va_G) (G : sG) {M : sM} {L : sL} (w : Int) (hwr : InR w) (hT : TInv M) (hc : qCt M) : sKi l D G yX7_count cX7_count 2 .int 3 64 [.ref (G.1 (258)), .int (sI (w))] M L (fun r M' L' => r = sI (qrCount M w) ∧ M' = qB M (0 ≤ w ∧ w ≤ 10) ∧ TInv M' ∧ L = L') := by
  refine sKi_go (by decide) (Nat.le_of_ble_eq_true rfl) ?_
  intro zp ze zs zm za zb zt zc Q C hret
  refine at_eq (lv' := [(0, .ref (G.1 (258))), (1, .int (sI (w)))]) (st' := []) (M' := M) (L' := L) ?_ rfl rfl rfl rfl
  have hqn := qn_r hT
  have hqc := qc_r hT
  have hqu := qu_r hT
  have hqt := qt_r hT
  have hqs := qs_r hT
  have hqo := qo_r hT
  have hqm := qm_r hT
  refine at_iload_n C 1 dX7_count_0 rfl ?_
  refine at_iconst C dX7_count_1 ?_
  refine at_bipush C dX7_count_2 (by decide) (by decide) ?_
  refine at_stat_i C (c_X7_in l D G w 0 10 ⟨by omega, by omega⟩ ⟨by omega, by omega⟩ ⟨by omega, by omega⟩) (As := [.int (sI (w)), .int (sI (0)), .int (sI (10))]) qw_1004 qw_1002 qw_8 qw_1003 ⟨by decide, by decide, show (parseMethodDescriptor yX7_in.desc).map (fun d => d.parameters.length) = some 3 by decide +kernel⟩ ⟨by decide, by decide⟩ ⟨Nat.zero_le _, Nat.zero_le _⟩ (Nat.le_of_ble_eq_true rfl) dX7_count_4 rfl (fun r M' L' hp1 => ?_)
  obtain ⟨rfl, rfl, rfl⟩ := hp1
  refine at_if_eqB C 18 dX7_count_7 (by decide) (fun h2 => ?_) (fun h2 => ?_)
  · refine at_aload_n C 0 dX7_count_18 rfl ?_
    refine at_call_i C (c_X7_bad l D G hT ⟨by omega, by omega, by omega⟩) (As := []) (obj_Ref G) (ci := 7) rfl qw_1012 qw_1009 qw_8 qw_1011 qp_34 ⟨by decide, by decide, show (parseMethodDescriptor yX7_bad.desc).map (fun d => d.parameters.length) = some 0 by decide +kernel⟩ ⟨by decide, by decide⟩ ⟨Nat.zero_le _, Nat.zero_le _⟩ (Nat.le_of_ble_eq_true rfl) dX7_count_19 rfl (fun r M' L' hp4 => ?_)
    obtain ⟨rfl, rfl, hT3, rfl⟩ := hp4
    exact hret _ _ _ _ _ dX7_count_22 (⟨congrArg sI (if_neg (by first | omega | (simp only [Int.toNat_natCast]; omega))).symm, (if_neg (by omega)).symm, hT3, rfl⟩)
  · refine at_aload_n C 0 dX7_count_10 rfl ?_
    refine at_iload_n C 1 dX7_count_11 rfl ?_
    refine at_call_i C (c_X7_countOf l D G w ⟨by omega, by omega⟩ hT) (As := [.int (sI (w))]) (obj_Ref G) (ci := 7) rfl qw_1419 qw_1416 qw_8 qw_1418 qp_88 ⟨by decide, by decide, show (parseMethodDescriptor yX7_countOf.desc).map (fun d => d.parameters.length) = some 1 by decide +kernel⟩ ⟨by decide, by decide⟩ ⟨Nat.zero_le _, Nat.zero_le _⟩ (Nat.le_of_ble_eq_true rfl) dX7_count_12 rfl (fun r M' L' hp5 => ?_)
    obtain ⟨rfl, rfl, rfl⟩ := hp5
    refine at_goto C 22 dX7_count_15 (by decide) ?_
    exact hret _ _ _ _ _ dX7_count_22 (⟨congrArg sI (if_pos (by first | omega | (simp only [Int.toNat_natCast]; omega))).symm, (if_pos (by omega)).symm, hT, rfl⟩)
