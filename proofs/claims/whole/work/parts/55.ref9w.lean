set_option maxHeartbeats 4000000 in
set_option maxRecDepth 100000 in
theorem c_X7_here (l : Launch) (D : va_G) (G : sG) {M : sM} {L : sL} (hT : TInv M) : sKi l D G yX7_here cX7_here 1 .int 0 0 [.ref (G.1 (258))] M L (fun r M' L' => r = sI (qHere M) ∧ M = M' ∧ L = L') := by
  refine sKi_go (by decide) (Nat.le_of_ble_eq_true rfl) ?_
  intro zp ze zs zm za zb zt zc Q C hret
  refine at_eq (lv' := [(0, .ref (G.1 (258)))]) (st' := []) (M' := M) (L' := L) ?_ rfl rfl rfl rfl
  have hqn := qn_r hT
  have hqc := qc_r hT
  have hqu := qu_r hT
  have hqt := qt_r hT
  have hqs := qs_r hT
  have hqo := qo_r hT
  have hqm := qm_r hT
  have hrq := rq_r hT
  refine at_aload_n C 0 dX7_here_0 rfl ?_
  refine at_getf (v := .int (sI (M 258 20))) C (obj_Ref G) (ci := 7) rfl inX7 (slot := 20) (by decide) qw_902 rfl rfl dX7_here_1 ?_
  have hb1 : _ ≤ M 258 20 ∧ M 258 20 ≤ _ := tv hT (k := 258) (j := 20) rfl
  refine at_ve (b := (((rq M) : Nat) : Int)) (hrq.2) ?_
  refine at_aload_n C 0 dX7_here_4 rfl ?_
  refine at_getf (v := .int (sI (M 258 19))) C (obj_Ref G) (ci := 7) rfl inX7 (slot := 19) (by decide) qw_901 rfl rfl dX7_here_5 ?_
  have hb2 : _ ≤ M 258 19 ∧ M 258 19 ≤ _ := tv hT (k := 258) (j := 19) rfl
  refine at_ve (b := (((qt M) : Nat) : Int)) (hqt.2) ?_
  refine at_icmp_ge C 23 dX7_here_8 (by decide) (⟨by omega, by omega⟩) (⟨by omega, by omega⟩) (fun h3 => ?_) (fun h3 => ?_)
  · refine at_iconst C dX7_here_23 ?_
    exact hret _ _ _ _ _ dX7_here_24 (⟨congrArg sI (if_neg (by omega)).symm, rfl, rfl⟩)
  · refine at_aload_n C 0 dX7_here_11 rfl ?_
    refine at_getf (v := .ref (G.1 (270))) C (obj_Ref G) (ci := 7) rfl inX7 (slot := 18) (by decide) qw_900 rfl rfl dX7_here_12 ?_
    refine at_aload_n C 0 dX7_here_15 rfl ?_
    refine at_getf (v := .int (sI (M 258 20))) C (obj_Ref G) (ci := 7) rfl inX7 (slot := 20) (by decide) qw_902 rfl rfl dX7_here_16 ?_
    have hb4 : _ ≤ M 258 20 ∧ M 258 20 ≤ _ := tv hT (k := 258) (j := 20) rfl
    refine at_ve (b := (((rq M) : Nat) : Int)) (hrq.2) ?_
    refine at_iald C (rq M) (ar_270 G) (by omega) (by omega) dX7_here_19 ?_
    have hb5 : _ ≤ M 270 (rq M) ∧ M 270 (rq M) ≤ _ := tv hT (k := 270) (j := (rq M)) rfl
    refine at_goto C 24 dX7_here_20 (by decide) ?_
    exact hret _ _ _ _ _ dX7_here_24 (⟨congrArg sI (if_pos (by omega)).symm, rfl, rfl⟩)

set_option maxHeartbeats 4000000 in
set_option maxRecDepth 100000 in
theorem c_X7_skip (l : Launch) (D : va_G) (G : sG) {M : sM} {L : sL} (hT : TInv M) : sKv l D G yX7_skip cX7_skip 1 1 20 [.ref (G.1 (258))] M L (fun M' L' => M' = qSk M ∧ TInv M' ∧ L = L') := by
  refine sKv_go (by decide) (Nat.le_of_ble_eq_true rfl) ?_
  intro zp ze zs zm za zb zt zc Q C hret
  refine at_eq (lv' := [(0, .ref (G.1 (258)))]) (st' := []) (M' := M) (L' := L) ?_ rfl rfl rfl rfl
  have hqn := qn_r hT
  have hqc := qc_r hT
  have hqu := qu_r hT
  have hqt := qt_r hT
  have hqs := qs_r hT
  have hqo := qo_r hT
  have hqm := qm_r hT
  have hrq := rq_r hT
  have H0 : ∀ (fu : Nat) (p : Nat), 151 - p < fu → (p ≤ 150) → (scan isSp (M 270) (qt M) p = qsp M) → (TInv (sSt M 258 20 ((p : Nat) : Int))) → sAt zp l ze (sRm 1 20) zs zm za zb zt zc D G 1 0 0 Q 0 [(0, .ref (G.1 (258)))] [] (sSt M 258 20 ((p : Nat) : Int)) L := by
    intro fu
    induction fu with
    | zero => intro p hd hp hs hTp; exact absurd hd (Nat.not_lt_zero _)
    | succ fu ih0 =>
      intro p hd0 hp hs hTp
      have hqr := qHr_r hT p
      refine at_aload_n C 0 dX7_skip_0 rfl ?_
      refine at_call_i C (c_X7_here l D G (M := (sSt M 258 20 ((p : Nat) : Int))) hTp) (As := []) (obj_Ref G) (ci := 7) rfl qw_1068 qw_1065 qw_8 qw_1067 qp_43 ⟨by decide, by decide, show (parseMethodDescriptor yX7_here.desc).map (fun d => d.parameters.length) = some 0 by decide +kernel⟩ ⟨by decide, by decide⟩ ⟨Nat.zero_le _, Nat.zero_le _⟩ (Nat.le_of_ble_eq_true rfl) dX7_skip_1 rfl (fun r M' L' hp1 => ?_)
      obtain ⟨rfl, rfl, rfl⟩ := hp1
      refine at_ve (b := qHr M p) (qHere_e M p) ?_
      refine at_bipush C dX7_skip_4 (by decide) (by decide) ?_
      refine at_icmp_ne C 22 dX7_skip_6 (by decide) (⟨by omega, by omega⟩) (⟨by omega, by omega⟩) (fun h2 => ?_) (fun h2 => ?_)
      · exact hret _ _ _ _ dX7_skip_22 (⟨by unfold qSk; rw [← hs, scan_n (fun z => by have z1 := z.1; have z2 : M 270 p = 32 := z.2; have z3 : qHr M p = M 270 p := if_pos z1; omega)], hTp, rfl⟩)
      · have hy := qHr_y (M := M) (p := p) (by omega)
        refine at_aload_n C 0 dX7_skip_9 rfl ?_
        refine at_dup C dX7_skip_10 rfl ?_
        refine at_getf (v := .int (sI ((sSt M 258 20 ((p : Nat) : Int)) 258 20))) C (obj_Ref G) (ci := 7) rfl inX7 (slot := 20) (by decide) qw_902 rfl rfl dX7_skip_11 ?_
        refine at_ve (b := ((p : Nat) : Int)) (sSt_eq) ?_
        refine at_iconst C dX7_skip_14 ?_
        refine at_iadd C dX7_skip_15 ?_
        refine at_putM (slot := 20) (ty := .int) C tyX7 (obj_Ref G) (ci := 7) rfl inX7 tyX7_ok nmX7 (by decide) qw_902 rfl rfl (by decide +kernel) rfl rfl (Nat.le_of_ble_eq_true rfl) rfl dX7_skip_16 ?_
        have hT3 : TInv (sSt (sSt M 258 20 ((p : Nat) : Int)) 258 20 (((p : Nat) : Int) + 1)) := tv_st hTp (k := 258) (j := 20) rfl (⟨by omega, by omega⟩)
        refine at_goto C 0 dX7_skip_19 (by decide) ?_
        refine at_lv [0] rfl ?_
        exact at_eq (ih0 (p + 1) (by omega) (by omega) (by rw [← hs]; exact (scan_y hy.1 (show isSp (M 270 p) by unfold isSp; omega)).symm) (TInv_e (by rw [sSt_tw]; rfl) hT3)) rfl rfl (by rw [sSt_tw]; rfl) (rfl)
  refine at_lv [0] rfl ?_
  exact at_eq (H0 _ (rq M) (Nat.lt_succ_self _) (by omega) (rfl) (TInv_e (sSt_rq hT) hT)) rfl rfl (sSt_rq hT) (rfl)

set_option maxHeartbeats 4000000 in
set_option maxRecDepth 100000 in
theorem c_X7_wordSize (l : Launch) (D : va_G) (G : sG) {M : sM} {L : sL} (hT : TInv M) : sKi l D G yX7_wordSize cX7_wordSize 2 .int 2 42 [.ref (G.1 (258))] M L (fun r M' L' => r = sI (((wLn M : Nat) : Int)) ∧ M = M' ∧ L = L') := by
  refine sKi_go (by decide) (Nat.le_of_ble_eq_true rfl) ?_
  intro zp ze zs zm za zb zt zc Q C hret
  refine at_eq (lv' := [(0, .ref (G.1 (258)))]) (st' := []) (M' := M) (L' := L) ?_ rfl rfl rfl rfl
  have hqn := qn_r hT
  have hqc := qc_r hT
  have hqu := qu_r hT
  have hqt := qt_r hT
  have hqs := qs_r hT
  have hqo := qo_r hT
  have hqm := qm_r hT
  have hrq := rq_r hT
  refine at_iconst C dX7_wordSize_0 ?_
  refine at_istore_n C [(1, .int (sI (0))), (0, .ref (G.1 (258)))] dX7_wordSize_1 (by decide) rfl ?_
  have H2 : ∀ (fu : Nat) (k : Nat), 151 - k < fu → (k ≤ 150) → (scan isLet (M 270) (qt M) (rq M + k) = scan isLet (M 270) (qt M) (rq M)) → sAt zp l ze (sRm 2 42) zs zm za zb zt zc D G 2 0 0 Q 2 [(0, .ref (G.1 (258))), (1, .int (sI ((k : Int))))] [] M L := by
    intro fu
    induction fu with
    | zero => intro k hd hk hs; exact absurd hd (Nat.not_lt_zero _)
    | succ fu ih2 =>
      intro k hd2 hk hs
      have htx := qtx_r hT (rq M + k)
      refine at_aload_n C 0 dX7_wordSize_2 rfl ?_
      refine at_getf (v := .int (sI (M 258 20))) C (obj_Ref G) (ci := 7) rfl inX7 (slot := 20) (by decide) qw_902 rfl rfl dX7_wordSize_3 ?_
      have hb1 : _ ≤ M 258 20 ∧ M 258 20 ≤ _ := tv hT (k := 258) (j := 20) rfl
      refine at_ve (b := (((rq M) : Nat) : Int)) (hrq.2) ?_
      refine at_iload_n C 1 dX7_wordSize_6 rfl ?_
      refine at_iadd C dX7_wordSize_7 ?_
      refine at_aload_n C 0 dX7_wordSize_8 rfl ?_
      refine at_getf (v := .int (sI (M 258 19))) C (obj_Ref G) (ci := 7) rfl inX7 (slot := 19) (by decide) qw_901 rfl rfl dX7_wordSize_9 ?_
      have hb2 : _ ≤ M 258 19 ∧ M 258 19 ≤ _ := tv hT (k := 258) (j := 19) rfl
      refine at_ve (b := (((qt M) : Nat) : Int)) (hqt.2) ?_
      refine at_icmp_ge C 38 dX7_wordSize_12 (by decide) (⟨by omega, by omega⟩) (⟨by omega, by omega⟩) (fun h3 => ?_) (fun h3 => ?_)
      · refine at_iload_n C 1 dX7_wordSize_38 rfl ?_
        exact hret _ _ _ _ _ dX7_wordSize_39 (⟨congrArg sI (by unfold wLn; rw [← hs, scan_n (fun z => by first | exact absurd z.2 (by assumption) | (have z1 := z.1; omega))]; omega), rfl, rfl⟩)
      · refine at_aload_n C 0 dX7_wordSize_15 rfl ?_
        refine at_getf (v := .ref (G.1 (270))) C (obj_Ref G) (ci := 7) rfl inX7 (slot := 18) (by decide) qw_900 rfl rfl dX7_wordSize_16 ?_
        refine at_aload_n C 0 dX7_wordSize_19 rfl ?_
        refine at_getf (v := .int (sI (M 258 20))) C (obj_Ref G) (ci := 7) rfl inX7 (slot := 20) (by decide) qw_902 rfl rfl dX7_wordSize_20 ?_
        have hb4 : _ ≤ M 258 20 ∧ M 258 20 ≤ _ := tv hT (k := 258) (j := 20) rfl
        refine at_ve (b := (((rq M) : Nat) : Int)) (hrq.2) ?_
        refine at_iload_n C 1 dX7_wordSize_23 rfl ?_
        refine at_iadd C dX7_wordSize_24 ?_
        refine at_iald C ((rq M) + k) (ar_270 G) (by omega) (by omega) dX7_wordSize_25 ?_
        have hb5 : _ ≤ M 270 ((rq M) + k) ∧ M 270 ((rq M) + k) ≤ _ := tv hT (k := 270) (j := ((rq M) + k)) rfl
        refine at_stat_i C (c_X7_isLetter l D G (M 270 ((rq M) + k)) (by omega)) (As := [.int (sI (M 270 ((rq M) + k)))]) qw_1079 qw_1077 qw_8 qw_1078 ⟨by decide, by decide, show (parseMethodDescriptor yX7_isLetter.desc).map (fun d => d.parameters.length) = some 1 by decide +kernel⟩ ⟨by decide, by decide⟩ ⟨Nat.zero_le _, Nat.zero_le _⟩ (Nat.le_of_ble_eq_true rfl) dX7_wordSize_26 rfl (fun r M' L' hp6 => ?_)
        obtain ⟨rfl, rfl, rfl⟩ := hp6
        refine at_if_eqB C 38 dX7_wordSize_29 (by decide) (fun h7 => ?_) (fun h7 => ?_)
        · refine at_iload_n C 1 dX7_wordSize_38 rfl ?_
          exact hret _ _ _ _ _ dX7_wordSize_39 (⟨congrArg sI (by unfold wLn; rw [← hs, scan_n (fun z => by first | exact absurd z.2 (by assumption) | (have z1 := z.1; omega))]; omega), rfl, rfl⟩)
        · refine at_iinc C 1 [(1, .int (sI ((k : Int) + 1))), (0, .ref (G.1 (258)))] dX7_wordSize_32 rfl (by decide) rfl ?_
          refine at_goto C 2 dX7_wordSize_35 (by decide) ?_
          refine at_lv [1, 0] rfl ?_
          exact at_eq (ih2 (k + 1) (by omega) (by omega) (by rw [← hs]; exact (scan_y (p := rq M + k) (by omega) (by assumption)).symm)) (lvc_s (lvc_i (by omega) rfl)) rfl (rfl) (rfl)
  refine at_lv [1, 0] rfl ?_
  exact at_eq (H2 _ 0 (Nat.lt_succ_self _) (by omega) (rfl)) (lvc_s (lvc_i (rfl) rfl)) rfl (rfl) (rfl)

set_option maxHeartbeats 4000000 in
set_option maxRecDepth 100000 in
theorem c_X7_letter (l : Launch) (D : va_G) (G : sG) {M : sM} {L : sL} (i : Nat) (hi : rq M + i < 150) (hT : TInv M) : sKi l D G yX7_letter cX7_letter 2 .int 0 0 [.ref (G.1 (258)), .int (sI ((i : Int)))] M L (fun r M' L' => r = sI (M 270 (rq M + i)) ∧ M = M' ∧ L = L') := by
  refine sKi_go (by decide) (Nat.le_of_ble_eq_true rfl) ?_
  intro zp ze zs zm za zb zt zc Q C hret
  refine at_eq (lv' := [(0, .ref (G.1 (258))), (1, .int (sI ((i : Int))))]) (st' := []) (M' := M) (L' := L) ?_ rfl rfl rfl rfl
  have hqn := qn_r hT
  have hqc := qc_r hT
  have hqu := qu_r hT
  have hqt := qt_r hT
  have hqs := qs_r hT
  have hqo := qo_r hT
  have hqm := qm_r hT
  have hrq := rq_r hT
  refine at_aload_n C 0 dX7_letter_0 rfl ?_
  refine at_getf (v := .ref (G.1 (270))) C (obj_Ref G) (ci := 7) rfl inX7 (slot := 18) (by decide) qw_900 rfl rfl dX7_letter_1 ?_
  refine at_aload_n C 0 dX7_letter_4 rfl ?_
  refine at_getf (v := .int (sI (M 258 20))) C (obj_Ref G) (ci := 7) rfl inX7 (slot := 20) (by decide) qw_902 rfl rfl dX7_letter_5 ?_
  have hb1 : _ ≤ M 258 20 ∧ M 258 20 ≤ _ := tv hT (k := 258) (j := 20) rfl
  refine at_ve (b := (((rq M) : Nat) : Int)) (hrq.2) ?_
  refine at_iload_n C 1 dX7_letter_8 rfl ?_
  refine at_iadd C dX7_letter_9 ?_
  refine at_iald C ((rq M) + i) (ar_270 G) (by omega) (by omega) dX7_letter_10 ?_
  have hb2 : _ ≤ M 270 ((rq M) + i) ∧ M 270 ((rq M) + i) ≤ _ := tv hT (k := 270) (j := ((rq M) + i)) rfl
  exact hret _ _ _ _ _ dX7_letter_11 (⟨rfl, rfl, rfl⟩)

set_option maxHeartbeats 4000000 in
set_option maxRecDepth 100000 in
theorem c_X7_wordHere (l : Launch) (D : va_G) (G : sG) {M : sM} {L : sL} (hT : TInv M) : sKi l D G yX7_wordHere cX7_wordHere 2 .int 3 63 [.ref (G.1 (258))] M L (fun r M' L' => r = sI (qWd M) ∧ M = M' ∧ L = L') := by
  refine sKi_go (by decide) (Nat.le_of_ble_eq_true rfl) ?_
  intro zp ze zs zm za zb zt zc Q C hret
  refine at_eq (lv' := [(0, .ref (G.1 (258)))]) (st' := []) (M' := M) (L' := L) ?_ rfl rfl rfl rfl
  have hqn := qn_r hT
  have hqc := qc_r hT
  have hqu := qu_r hT
  have hqt := qt_r hT
  have hqs := qs_r hT
  have hqo := qo_r hT
  have hqm := qm_r hT
  have hrq := rq_r hT
  refine at_aload_n C 0 dX7_wordHere_0 rfl ?_
  refine at_call_i C (c_X7_wordSize l D G (M := M) hT) (As := []) (obj_Ref G) (ci := 7) rfl qw_1076 qw_1073 qw_8 qw_1075 qp_45 ⟨by decide, by decide, show (parseMethodDescriptor yX7_wordSize.desc).map (fun d => d.parameters.length) = some 0 by decide +kernel⟩ ⟨by decide, by decide⟩ ⟨Nat.zero_le _, Nat.zero_le _⟩ (Nat.le_of_ble_eq_true rfl) dX7_wordHere_1 rfl (fun r M' L' hp2 => ?_)
  obtain ⟨rfl, rfl, rfl⟩ := hp2
  have hb1 := wLn_r hT
  refine at_istore_n C [(1, .int (sI ((((wLn M) : Nat) : Int)))), (0, .ref (G.1 (258)))] dX7_wordHere_4 (by decide) rfl ?_
  refine at_iload_n C 0 dX7_wordHere_5 rfl ?_
  refine at_iconst C dX7_wordHere_6 ?_
  refine at_icmp_ne C 140 dX7_wordHere_7 (by decide) (⟨by omega, by omega⟩) (⟨by omega, by omega⟩) (fun h3 => ?_) (fun h3 => ?_)
  · refine at_iload_n C 0 dX7_wordHere_140 rfl ?_
    refine at_iconst C dX7_wordHere_141 ?_
    refine at_icmp_ne C 253 dX7_wordHere_142 (by decide) (⟨by omega, by omega⟩) (⟨by omega, by omega⟩) (fun h4 => ?_) (fun h4 => ?_)
    · refine at_iload_n C 0 dX7_wordHere_253 rfl ?_
      refine at_bipush C dX7_wordHere_254 (by decide) (by decide) ?_
      refine at_icmp_eq C 261 dX7_wordHere_256 (by decide) (⟨by omega, by omega⟩) (⟨by omega, by omega⟩) (fun h5 => ?_) (fun h5 => ?_)
      · refine at_aload_n C 1 dX7_wordHere_261 rfl ?_
        refine at_iconst C dX7_wordHere_262 ?_
        refine at_call_i C (c_X7_letter l D G (M := M) 0 (by omega) hT) (As := [.int (sI (0))]) (obj_Ref G) (ci := 7) rfl qw_1083 qw_1080 qw_8 qw_1082 qp_46 ⟨by decide, by decide, show (parseMethodDescriptor yX7_letter.desc).map (fun d => d.parameters.length) = some 1 by decide +kernel⟩ ⟨by decide, by decide⟩ ⟨Nat.zero_le _, Nat.zero_le _⟩ (Nat.le_of_ble_eq_true rfl) dX7_wordHere_263 rfl (fun r M' L' hp7 => ?_)
        obtain ⟨rfl, rfl, rfl⟩ := hp7
        have hb6 := qtx_r hT (rq M + 0)
        refine at_bipush C dX7_wordHere_266 (by decide) (by decide) ?_
        refine at_icmp_ne C 325 dX7_wordHere_268 (by decide) (⟨by omega, by omega⟩) (⟨by omega, by omega⟩) (fun h8 => ?_) (fun h8 => ?_)
        · refine at_iconst C dX7_wordHere_325 ?_
          exact hret _ _ _ _ _ dX7_wordHere_326 (⟨congrArg sI (by unfold qWd; first | (rw [if_pos (show wLn M = 4 by omega), if_neg hn1, if_neg hn3, if_neg (fun z => by have y := (wL_4 M).mp z; omega)]; done) | (rw [if_neg (show ¬ wLn M = 4 by omega), if_pos (show wLn M = 5 by omega), if_neg hn0, if_neg (fun z => by have y := (wL_5 M).mp z; omega)]; done) | (rw [if_neg (show ¬ wLn M = 4 by omega), if_neg (show ¬ wLn M = 5 by omega), if_pos (show wLn M = 6 by omega), if_neg (fun z => by have y := (wL_2 M).mp z; omega)]; done) | (rw [if_neg (show ¬ wLn M = 4 by omega), if_neg (show ¬ wLn M = 5 by omega), if_neg (show ¬ wLn M = 6 by omega)]; done)), rfl, rfl⟩)
        · refine at_aload_n C 1 dX7_wordHere_271 rfl ?_
          refine at_iconst C dX7_wordHere_272 ?_
          refine at_call_i C (c_X7_letter l D G (M := M) 1 (by omega) hT) (As := [.int (sI (1))]) (obj_Ref G) (ci := 7) rfl qw_1083 qw_1080 qw_8 qw_1082 qp_46 ⟨by decide, by decide, show (parseMethodDescriptor yX7_letter.desc).map (fun d => d.parameters.length) = some 1 by decide +kernel⟩ ⟨by decide, by decide⟩ ⟨Nat.zero_le _, Nat.zero_le _⟩ (Nat.le_of_ble_eq_true rfl) dX7_wordHere_273 rfl (fun r M' L' hp10 => ?_)
          obtain ⟨rfl, rfl, rfl⟩ := hp10
          have hb9 := qtx_r hT (rq M + 1)
          refine at_bipush C dX7_wordHere_276 (by decide) (by decide) ?_
          refine at_icmp_ne C 325 dX7_wordHere_278 (by decide) (⟨by omega, by omega⟩) (⟨by omega, by omega⟩) (fun h11 => ?_) (fun h11 => ?_)
          · refine at_iconst C dX7_wordHere_325 ?_
            exact hret _ _ _ _ _ dX7_wordHere_326 (⟨congrArg sI (by unfold qWd; first | (rw [if_pos (show wLn M = 4 by omega), if_neg hn1, if_neg hn3, if_neg (fun z => by have y := (wL_4 M).mp z; omega)]; done) | (rw [if_neg (show ¬ wLn M = 4 by omega), if_pos (show wLn M = 5 by omega), if_neg hn0, if_neg (fun z => by have y := (wL_5 M).mp z; omega)]; done) | (rw [if_neg (show ¬ wLn M = 4 by omega), if_neg (show ¬ wLn M = 5 by omega), if_pos (show wLn M = 6 by omega), if_neg (fun z => by have y := (wL_2 M).mp z; omega)]; done) | (rw [if_neg (show ¬ wLn M = 4 by omega), if_neg (show ¬ wLn M = 5 by omega), if_neg (show ¬ wLn M = 6 by omega)]; done)), rfl, rfl⟩)
          · refine at_aload_n C 1 dX7_wordHere_281 rfl ?_
            refine at_iconst C dX7_wordHere_282 ?_
            refine at_call_i C (c_X7_letter l D G (M := M) 2 (by omega) hT) (As := [.int (sI (2))]) (obj_Ref G) (ci := 7) rfl qw_1083 qw_1080 qw_8 qw_1082 qp_46 ⟨by decide, by decide, show (parseMethodDescriptor yX7_letter.desc).map (fun d => d.parameters.length) = some 1 by decide +kernel⟩ ⟨by decide, by decide⟩ ⟨Nat.zero_le _, Nat.zero_le _⟩ (Nat.le_of_ble_eq_true rfl) dX7_wordHere_283 rfl (fun r M' L' hp13 => ?_)
            obtain ⟨rfl, rfl, rfl⟩ := hp13
            have hb12 := qtx_r hT (rq M + 2)
            refine at_bipush C dX7_wordHere_286 (by decide) (by decide) ?_
            refine at_icmp_ne C 325 dX7_wordHere_288 (by decide) (⟨by omega, by omega⟩) (⟨by omega, by omega⟩) (fun h14 => ?_) (fun h14 => ?_)
            · refine at_iconst C dX7_wordHere_325 ?_
              exact hret _ _ _ _ _ dX7_wordHere_326 (⟨congrArg sI (by unfold qWd; first | (rw [if_pos (show wLn M = 4 by omega), if_neg hn1, if_neg hn3, if_neg (fun z => by have y := (wL_4 M).mp z; omega)]; done) | (rw [if_neg (show ¬ wLn M = 4 by omega), if_pos (show wLn M = 5 by omega), if_neg hn0, if_neg (fun z => by have y := (wL_5 M).mp z; omega)]; done) | (rw [if_neg (show ¬ wLn M = 4 by omega), if_neg (show ¬ wLn M = 5 by omega), if_pos (show wLn M = 6 by omega), if_neg (fun z => by have y := (wL_2 M).mp z; omega)]; done) | (rw [if_neg (show ¬ wLn M = 4 by omega), if_neg (show ¬ wLn M = 5 by omega), if_neg (show ¬ wLn M = 6 by omega)]; done)), rfl, rfl⟩)
            · refine at_aload_n C 1 dX7_wordHere_291 rfl ?_
              refine at_iconst C dX7_wordHere_292 ?_
              refine at_call_i C (c_X7_letter l D G (M := M) 3 (by omega) hT) (As := [.int (sI (3))]) (obj_Ref G) (ci := 7) rfl qw_1083 qw_1080 qw_8 qw_1082 qp_46 ⟨by decide, by decide, show (parseMethodDescriptor yX7_letter.desc).map (fun d => d.parameters.length) = some 1 by decide +kernel⟩ ⟨by decide, by decide⟩ ⟨Nat.zero_le _, Nat.zero_le _⟩ (Nat.le_of_ble_eq_true rfl) dX7_wordHere_293 rfl (fun r M' L' hp16 => ?_)
              obtain ⟨rfl, rfl, rfl⟩ := hp16
              have hb15 := qtx_r hT (rq M + 3)
              refine at_bipush C dX7_wordHere_296 (by decide) (by decide) ?_
              refine at_icmp_ne C 325 dX7_wordHere_298 (by decide) (⟨by omega, by omega⟩) (⟨by omega, by omega⟩) (fun h17 => ?_) (fun h17 => ?_)
              · refine at_iconst C dX7_wordHere_325 ?_
                exact hret _ _ _ _ _ dX7_wordHere_326 (⟨congrArg sI (by unfold qWd; first | (rw [if_pos (show wLn M = 4 by omega), if_neg hn1, if_neg hn3, if_neg (fun z => by have y := (wL_4 M).mp z; omega)]; done) | (rw [if_neg (show ¬ wLn M = 4 by omega), if_pos (show wLn M = 5 by omega), if_neg hn0, if_neg (fun z => by have y := (wL_5 M).mp z; omega)]; done) | (rw [if_neg (show ¬ wLn M = 4 by omega), if_neg (show ¬ wLn M = 5 by omega), if_pos (show wLn M = 6 by omega), if_neg (fun z => by have y := (wL_2 M).mp z; omega)]; done) | (rw [if_neg (show ¬ wLn M = 4 by omega), if_neg (show ¬ wLn M = 5 by omega), if_neg (show ¬ wLn M = 6 by omega)]; done)), rfl, rfl⟩)
              · refine at_aload_n C 1 dX7_wordHere_301 rfl ?_
                refine at_iconst C dX7_wordHere_302 ?_
                refine at_call_i C (c_X7_letter l D G (M := M) 4 (by omega) hT) (As := [.int (sI (4))]) (obj_Ref G) (ci := 7) rfl qw_1083 qw_1080 qw_8 qw_1082 qp_46 ⟨by decide, by decide, show (parseMethodDescriptor yX7_letter.desc).map (fun d => d.parameters.length) = some 1 by decide +kernel⟩ ⟨by decide, by decide⟩ ⟨Nat.zero_le _, Nat.zero_le _⟩ (Nat.le_of_ble_eq_true rfl) dX7_wordHere_303 rfl (fun r M' L' hp19 => ?_)
                obtain ⟨rfl, rfl, rfl⟩ := hp19
                have hb18 := qtx_r hT (rq M + 4)
                refine at_bipush C dX7_wordHere_306 (by decide) (by decide) ?_
                refine at_icmp_ne C 325 dX7_wordHere_308 (by decide) (⟨by omega, by omega⟩) (⟨by omega, by omega⟩) (fun h20 => ?_) (fun h20 => ?_)
                · refine at_iconst C dX7_wordHere_325 ?_
                  exact hret _ _ _ _ _ dX7_wordHere_326 (⟨congrArg sI (by unfold qWd; first | (rw [if_pos (show wLn M = 4 by omega), if_neg hn1, if_neg hn3, if_neg (fun z => by have y := (wL_4 M).mp z; omega)]; done) | (rw [if_neg (show ¬ wLn M = 4 by omega), if_pos (show wLn M = 5 by omega), if_neg hn0, if_neg (fun z => by have y := (wL_5 M).mp z; omega)]; done) | (rw [if_neg (show ¬ wLn M = 4 by omega), if_neg (show ¬ wLn M = 5 by omega), if_pos (show wLn M = 6 by omega), if_neg (fun z => by have y := (wL_2 M).mp z; omega)]; done) | (rw [if_neg (show ¬ wLn M = 4 by omega), if_neg (show ¬ wLn M = 5 by omega), if_neg (show ¬ wLn M = 6 by omega)]; done)), rfl, rfl⟩)
                · refine at_aload_n C 1 dX7_wordHere_311 rfl ?_
                  refine at_iconst C dX7_wordHere_312 ?_
                  refine at_call_i C (c_X7_letter l D G (M := M) 5 (by omega) hT) (As := [.int (sI (5))]) (obj_Ref G) (ci := 7) rfl qw_1083 qw_1080 qw_8 qw_1082 qp_46 ⟨by decide, by decide, show (parseMethodDescriptor yX7_letter.desc).map (fun d => d.parameters.length) = some 1 by decide +kernel⟩ ⟨by decide, by decide⟩ ⟨Nat.zero_le _, Nat.zero_le _⟩ (Nat.le_of_ble_eq_true rfl) dX7_wordHere_313 rfl (fun r M' L' hp22 => ?_)
                  obtain ⟨rfl, rfl, rfl⟩ := hp22
                  have hb21 := qtx_r hT (rq M + 5)
                  refine at_bipush C dX7_wordHere_316 (by decide) (by decide) ?_
                  refine at_icmp_ne C 325 dX7_wordHere_318 (by decide) (⟨by omega, by omega⟩) (⟨by omega, by omega⟩) (fun h23 => ?_) (fun h23 => ?_)
                  · refine at_iconst C dX7_wordHere_325 ?_
                    exact hret _ _ _ _ _ dX7_wordHere_326 (⟨congrArg sI (by unfold qWd; first | (rw [if_pos (show wLn M = 4 by omega), if_neg hn1, if_neg hn3, if_neg (fun z => by have y := (wL_4 M).mp z; omega)]; done) | (rw [if_neg (show ¬ wLn M = 4 by omega), if_pos (show wLn M = 5 by omega), if_neg hn0, if_neg (fun z => by have y := (wL_5 M).mp z; omega)]; done) | (rw [if_neg (show ¬ wLn M = 4 by omega), if_neg (show ¬ wLn M = 5 by omega), if_pos (show wLn M = 6 by omega), if_neg (fun z => by have y := (wL_2 M).mp z; omega)]; done) | (rw [if_neg (show ¬ wLn M = 4 by omega), if_neg (show ¬ wLn M = 5 by omega), if_neg (show ¬ wLn M = 6 by omega)]; done)), rfl, rfl⟩)
                  · refine at_iconst C dX7_wordHere_321 ?_
                    refine at_goto C 326 dX7_wordHere_322 (by decide) ?_
                    exact hret _ _ _ _ _ dX7_wordHere_326 (⟨congrArg sI (by unfold qWd; rw [if_neg (by omega), if_neg (by omega), if_pos (by omega), if_pos ((wL_2 M).mpr ⟨by omega, by omega, by omega, by omega, by omega, by omega⟩)]), rfl, rfl⟩)
      · refine at_iconst C dX7_wordHere_259 ?_
        exact hret _ _ _ _ _ dX7_wordHere_260 (⟨congrArg sI (by unfold qWd; first | (rw [if_pos (show wLn M = 4 by omega), if_neg hn1, if_neg hn3, if_neg (fun z => by have y := (wL_4 M).mp z; omega)]; done) | (rw [if_neg (show ¬ wLn M = 4 by omega), if_pos (show wLn M = 5 by omega), if_neg hn0, if_neg (fun z => by have y := (wL_5 M).mp z; omega)]; done) | (rw [if_neg (show ¬ wLn M = 4 by omega), if_neg (show ¬ wLn M = 5 by omega), if_pos (show wLn M = 6 by omega), if_neg (fun z => by have y := (wL_2 M).mp z; omega)]; done) | (rw [if_neg (show ¬ wLn M = 4 by omega), if_neg (show ¬ wLn M = 5 by omega), if_neg (show ¬ wLn M = 6 by omega)]; done)), rfl, rfl⟩)
    · have J197 : (¬ wLq M 0) → sAt zp l ze (sRm 3 63) zs zm za zb zt zc D G 2 0 0 Q 197 [(0, .ref (G.1 (258))), (1, .int (sI ((((wLn M) : Nat) : Int))))] [] M L := by
        intro hn0
        refine at_aload_n C 0 dX7_wordHere_197 rfl ?_
        refine at_iconst C dX7_wordHere_198 ?_
        refine at_call_i C (c_X7_letter l D G (M := M) 0 (by omega) hT) (As := [.int (sI (0))]) (obj_Ref G) (ci := 7) rfl qw_1083 qw_1080 qw_8 qw_1082 qp_46 ⟨by decide, by decide, show (parseMethodDescriptor yX7_letter.desc).map (fun d => d.parameters.length) = some 1 by decide +kernel⟩ ⟨by decide, by decide⟩ ⟨Nat.zero_le _, Nat.zero_le _⟩ (Nat.le_of_ble_eq_true rfl) dX7_wordHere_199 rfl (fun r M' L' hp25 => ?_)
        obtain ⟨rfl, rfl, rfl⟩ := hp25
        have hb24 := qtx_r hT (rq M + 0)
        refine at_bipush C dX7_wordHere_202 (by decide) (by decide) ?_
        refine at_icmp_ne C 251 dX7_wordHere_204 (by decide) (⟨by omega, by omega⟩) (⟨by omega, by omega⟩) (fun h26 => ?_) (fun h26 => ?_)
        · refine at_iconst C dX7_wordHere_251 ?_
          exact hret _ _ _ _ _ dX7_wordHere_252 (⟨congrArg sI (by unfold qWd; first | (rw [if_pos (show wLn M = 4 by omega), if_neg hn1, if_neg hn3, if_neg (fun z => by have y := (wL_4 M).mp z; omega)]; done) | (rw [if_neg (show ¬ wLn M = 4 by omega), if_pos (show wLn M = 5 by omega), if_neg hn0, if_neg (fun z => by have y := (wL_5 M).mp z; omega)]; done) | (rw [if_neg (show ¬ wLn M = 4 by omega), if_neg (show ¬ wLn M = 5 by omega), if_pos (show wLn M = 6 by omega), if_neg (fun z => by have y := (wL_2 M).mp z; omega)]; done) | (rw [if_neg (show ¬ wLn M = 4 by omega), if_neg (show ¬ wLn M = 5 by omega), if_neg (show ¬ wLn M = 6 by omega)]; done)), rfl, rfl⟩)
        · refine at_aload_n C 0 dX7_wordHere_207 rfl ?_
          refine at_iconst C dX7_wordHere_208 ?_
          refine at_call_i C (c_X7_letter l D G (M := M) 1 (by omega) hT) (As := [.int (sI (1))]) (obj_Ref G) (ci := 7) rfl qw_1083 qw_1080 qw_8 qw_1082 qp_46 ⟨by decide, by decide, show (parseMethodDescriptor yX7_letter.desc).map (fun d => d.parameters.length) = some 1 by decide +kernel⟩ ⟨by decide, by decide⟩ ⟨Nat.zero_le _, Nat.zero_le _⟩ (Nat.le_of_ble_eq_true rfl) dX7_wordHere_209 rfl (fun r M' L' hp28 => ?_)
          obtain ⟨rfl, rfl, rfl⟩ := hp28
          have hb27 := qtx_r hT (rq M + 1)
          refine at_bipush C dX7_wordHere_212 (by decide) (by decide) ?_
          refine at_icmp_ne C 251 dX7_wordHere_214 (by decide) (⟨by omega, by omega⟩) (⟨by omega, by omega⟩) (fun h29 => ?_) (fun h29 => ?_)
          · refine at_iconst C dX7_wordHere_251 ?_
            exact hret _ _ _ _ _ dX7_wordHere_252 (⟨congrArg sI (by unfold qWd; first | (rw [if_pos (show wLn M = 4 by omega), if_neg hn1, if_neg hn3, if_neg (fun z => by have y := (wL_4 M).mp z; omega)]; done) | (rw [if_neg (show ¬ wLn M = 4 by omega), if_pos (show wLn M = 5 by omega), if_neg hn0, if_neg (fun z => by have y := (wL_5 M).mp z; omega)]; done) | (rw [if_neg (show ¬ wLn M = 4 by omega), if_neg (show ¬ wLn M = 5 by omega), if_pos (show wLn M = 6 by omega), if_neg (fun z => by have y := (wL_2 M).mp z; omega)]; done) | (rw [if_neg (show ¬ wLn M = 4 by omega), if_neg (show ¬ wLn M = 5 by omega), if_neg (show ¬ wLn M = 6 by omega)]; done)), rfl, rfl⟩)
          · refine at_aload_n C 0 dX7_wordHere_217 rfl ?_
            refine at_iconst C dX7_wordHere_218 ?_
            refine at_call_i C (c_X7_letter l D G (M := M) 2 (by omega) hT) (As := [.int (sI (2))]) (obj_Ref G) (ci := 7) rfl qw_1083 qw_1080 qw_8 qw_1082 qp_46 ⟨by decide, by decide, show (parseMethodDescriptor yX7_letter.desc).map (fun d => d.parameters.length) = some 1 by decide +kernel⟩ ⟨by decide, by decide⟩ ⟨Nat.zero_le _, Nat.zero_le _⟩ (Nat.le_of_ble_eq_true rfl) dX7_wordHere_219 rfl (fun r M' L' hp31 => ?_)
            obtain ⟨rfl, rfl, rfl⟩ := hp31
            have hb30 := qtx_r hT (rq M + 2)
            refine at_bipush C dX7_wordHere_222 (by decide) (by decide) ?_
            refine at_icmp_ne C 251 dX7_wordHere_224 (by decide) (⟨by omega, by omega⟩) (⟨by omega, by omega⟩) (fun h32 => ?_) (fun h32 => ?_)
            · refine at_iconst C dX7_wordHere_251 ?_
              exact hret _ _ _ _ _ dX7_wordHere_252 (⟨congrArg sI (by unfold qWd; first | (rw [if_pos (show wLn M = 4 by omega), if_neg hn1, if_neg hn3, if_neg (fun z => by have y := (wL_4 M).mp z; omega)]; done) | (rw [if_neg (show ¬ wLn M = 4 by omega), if_pos (show wLn M = 5 by omega), if_neg hn0, if_neg (fun z => by have y := (wL_5 M).mp z; omega)]; done) | (rw [if_neg (show ¬ wLn M = 4 by omega), if_neg (show ¬ wLn M = 5 by omega), if_pos (show wLn M = 6 by omega), if_neg (fun z => by have y := (wL_2 M).mp z; omega)]; done) | (rw [if_neg (show ¬ wLn M = 4 by omega), if_neg (show ¬ wLn M = 5 by omega), if_neg (show ¬ wLn M = 6 by omega)]; done)), rfl, rfl⟩)
            · refine at_aload_n C 0 dX7_wordHere_227 rfl ?_
              refine at_iconst C dX7_wordHere_228 ?_
              refine at_call_i C (c_X7_letter l D G (M := M) 3 (by omega) hT) (As := [.int (sI (3))]) (obj_Ref G) (ci := 7) rfl qw_1083 qw_1080 qw_8 qw_1082 qp_46 ⟨by decide, by decide, show (parseMethodDescriptor yX7_letter.desc).map (fun d => d.parameters.length) = some 1 by decide +kernel⟩ ⟨by decide, by decide⟩ ⟨Nat.zero_le _, Nat.zero_le _⟩ (Nat.le_of_ble_eq_true rfl) dX7_wordHere_229 rfl (fun r M' L' hp34 => ?_)
              obtain ⟨rfl, rfl, rfl⟩ := hp34
              have hb33 := qtx_r hT (rq M + 3)
              refine at_bipush C dX7_wordHere_232 (by decide) (by decide) ?_
              refine at_icmp_ne C 251 dX7_wordHere_234 (by decide) (⟨by omega, by omega⟩) (⟨by omega, by omega⟩) (fun h35 => ?_) (fun h35 => ?_)
              · refine at_iconst C dX7_wordHere_251 ?_
                exact hret _ _ _ _ _ dX7_wordHere_252 (⟨congrArg sI (by unfold qWd; first | (rw [if_pos (show wLn M = 4 by omega), if_neg hn1, if_neg hn3, if_neg (fun z => by have y := (wL_4 M).mp z; omega)]; done) | (rw [if_neg (show ¬ wLn M = 4 by omega), if_pos (show wLn M = 5 by omega), if_neg hn0, if_neg (fun z => by have y := (wL_5 M).mp z; omega)]; done) | (rw [if_neg (show ¬ wLn M = 4 by omega), if_neg (show ¬ wLn M = 5 by omega), if_pos (show wLn M = 6 by omega), if_neg (fun z => by have y := (wL_2 M).mp z; omega)]; done) | (rw [if_neg (show ¬ wLn M = 4 by omega), if_neg (show ¬ wLn M = 5 by omega), if_neg (show ¬ wLn M = 6 by omega)]; done)), rfl, rfl⟩)
              · refine at_aload_n C 0 dX7_wordHere_237 rfl ?_
                refine at_iconst C dX7_wordHere_238 ?_
                refine at_call_i C (c_X7_letter l D G (M := M) 4 (by omega) hT) (As := [.int (sI (4))]) (obj_Ref G) (ci := 7) rfl qw_1083 qw_1080 qw_8 qw_1082 qp_46 ⟨by decide, by decide, show (parseMethodDescriptor yX7_letter.desc).map (fun d => d.parameters.length) = some 1 by decide +kernel⟩ ⟨by decide, by decide⟩ ⟨Nat.zero_le _, Nat.zero_le _⟩ (Nat.le_of_ble_eq_true rfl) dX7_wordHere_239 rfl (fun r M' L' hp37 => ?_)
                obtain ⟨rfl, rfl, rfl⟩ := hp37
                have hb36 := qtx_r hT (rq M + 4)
                refine at_bipush C dX7_wordHere_242 (by decide) (by decide) ?_
                refine at_icmp_ne C 251 dX7_wordHere_244 (by decide) (⟨by omega, by omega⟩) (⟨by omega, by omega⟩) (fun h38 => ?_) (fun h38 => ?_)
                · refine at_iconst C dX7_wordHere_251 ?_
                  exact hret _ _ _ _ _ dX7_wordHere_252 (⟨congrArg sI (by unfold qWd; first | (rw [if_pos (show wLn M = 4 by omega), if_neg hn1, if_neg hn3, if_neg (fun z => by have y := (wL_4 M).mp z; omega)]; done) | (rw [if_neg (show ¬ wLn M = 4 by omega), if_pos (show wLn M = 5 by omega), if_neg hn0, if_neg (fun z => by have y := (wL_5 M).mp z; omega)]; done) | (rw [if_neg (show ¬ wLn M = 4 by omega), if_neg (show ¬ wLn M = 5 by omega), if_pos (show wLn M = 6 by omega), if_neg (fun z => by have y := (wL_2 M).mp z; omega)]; done) | (rw [if_neg (show ¬ wLn M = 4 by omega), if_neg (show ¬ wLn M = 5 by omega), if_neg (show ¬ wLn M = 6 by omega)]; done)), rfl, rfl⟩)
                · refine at_iconst C dX7_wordHere_247 ?_
                  refine at_goto C 252 dX7_wordHere_248 (by decide) ?_
                  exact hret _ _ _ _ _ dX7_wordHere_252 (⟨congrArg sI (by unfold qWd; rw [if_neg (by omega), if_pos (by omega), if_neg hn0, if_pos ((wL_5 M).mpr ⟨by omega, by omega, by omega, by omega, by omega⟩)]), rfl, rfl⟩)
      refine at_aload_n C 1 dX7_wordHere_145 rfl ?_
      refine at_iconst C dX7_wordHere_146 ?_
      refine at_call_i C (c_X7_letter l D G (M := M) 0 (by omega) hT) (As := [.int (sI (0))]) (obj_Ref G) (ci := 7) rfl qw_1083 qw_1080 qw_8 qw_1082 qp_46 ⟨by decide, by decide, show (parseMethodDescriptor yX7_letter.desc).map (fun d => d.parameters.length) = some 1 by decide +kernel⟩ ⟨by decide, by decide⟩ ⟨Nat.zero_le _, Nat.zero_le _⟩ (Nat.le_of_ble_eq_true rfl) dX7_wordHere_147 rfl (fun r M' L' hp40 => ?_)
      obtain ⟨rfl, rfl, rfl⟩ := hp40
      have hb39 := qtx_r hT (rq M + 0)
      refine at_bipush C dX7_wordHere_150 (by decide) (by decide) ?_
      refine at_icmp_ne C 197 dX7_wordHere_152 (by decide) (⟨by omega, by omega⟩) (⟨by omega, by omega⟩) (fun h41 => ?_) (fun h41 => ?_)
      · refine at_lv [1, 0] rfl ?_
        exact at_eq (J197 (fun z => by have y := (wL_0 M).mp z; omega)) rfl rfl rfl rfl
      · refine at_aload_n C 1 dX7_wordHere_155 rfl ?_
        refine at_iconst C dX7_wordHere_156 ?_
        refine at_call_i C (c_X7_letter l D G (M := M) 1 (by omega) hT) (As := [.int (sI (1))]) (obj_Ref G) (ci := 7) rfl qw_1083 qw_1080 qw_8 qw_1082 qp_46 ⟨by decide, by decide, show (parseMethodDescriptor yX7_letter.desc).map (fun d => d.parameters.length) = some 1 by decide +kernel⟩ ⟨by decide, by decide⟩ ⟨Nat.zero_le _, Nat.zero_le _⟩ (Nat.le_of_ble_eq_true rfl) dX7_wordHere_157 rfl (fun r M' L' hp43 => ?_)
        obtain ⟨rfl, rfl, rfl⟩ := hp43
        have hb42 := qtx_r hT (rq M + 1)
        refine at_bipush C dX7_wordHere_160 (by decide) (by decide) ?_
        refine at_icmp_ne C 197 dX7_wordHere_162 (by decide) (⟨by omega, by omega⟩) (⟨by omega, by omega⟩) (fun h44 => ?_) (fun h44 => ?_)
        · refine at_lv [1, 0] rfl ?_
          exact at_eq (J197 (fun z => by have y := (wL_0 M).mp z; omega)) rfl rfl rfl rfl
        · refine at_aload_n C 1 dX7_wordHere_165 rfl ?_
          refine at_iconst C dX7_wordHere_166 ?_
          refine at_call_i C (c_X7_letter l D G (M := M) 2 (by omega) hT) (As := [.int (sI (2))]) (obj_Ref G) (ci := 7) rfl qw_1083 qw_1080 qw_8 qw_1082 qp_46 ⟨by decide, by decide, show (parseMethodDescriptor yX7_letter.desc).map (fun d => d.parameters.length) = some 1 by decide +kernel⟩ ⟨by decide, by decide⟩ ⟨Nat.zero_le _, Nat.zero_le _⟩ (Nat.le_of_ble_eq_true rfl) dX7_wordHere_167 rfl (fun r M' L' hp46 => ?_)
          obtain ⟨rfl, rfl, rfl⟩ := hp46
          have hb45 := qtx_r hT (rq M + 2)
          refine at_bipush C dX7_wordHere_170 (by decide) (by decide) ?_
          refine at_icmp_ne C 197 dX7_wordHere_172 (by decide) (⟨by omega, by omega⟩) (⟨by omega, by omega⟩) (fun h47 => ?_) (fun h47 => ?_)
          · refine at_lv [1, 0] rfl ?_
            exact at_eq (J197 (fun z => by have y := (wL_0 M).mp z; omega)) rfl rfl rfl rfl
          · refine at_aload_n C 1 dX7_wordHere_175 rfl ?_
            refine at_iconst C dX7_wordHere_176 ?_
            refine at_call_i C (c_X7_letter l D G (M := M) 3 (by omega) hT) (As := [.int (sI (3))]) (obj_Ref G) (ci := 7) rfl qw_1083 qw_1080 qw_8 qw_1082 qp_46 ⟨by decide, by decide, show (parseMethodDescriptor yX7_letter.desc).map (fun d => d.parameters.length) = some 1 by decide +kernel⟩ ⟨by decide, by decide⟩ ⟨Nat.zero_le _, Nat.zero_le _⟩ (Nat.le_of_ble_eq_true rfl) dX7_wordHere_177 rfl (fun r M' L' hp49 => ?_)
            obtain ⟨rfl, rfl, rfl⟩ := hp49
            have hb48 := qtx_r hT (rq M + 3)
            refine at_bipush C dX7_wordHere_180 (by decide) (by decide) ?_
            refine at_icmp_ne C 197 dX7_wordHere_182 (by decide) (⟨by omega, by omega⟩) (⟨by omega, by omega⟩) (fun h50 => ?_) (fun h50 => ?_)
            · refine at_lv [1, 0] rfl ?_
              exact at_eq (J197 (fun z => by have y := (wL_0 M).mp z; omega)) rfl rfl rfl rfl
            · refine at_aload_n C 1 dX7_wordHere_185 rfl ?_
              refine at_iconst C dX7_wordHere_186 ?_
              refine at_call_i C (c_X7_letter l D G (M := M) 4 (by omega) hT) (As := [.int (sI (4))]) (obj_Ref G) (ci := 7) rfl qw_1083 qw_1080 qw_8 qw_1082 qp_46 ⟨by decide, by decide, show (parseMethodDescriptor yX7_letter.desc).map (fun d => d.parameters.length) = some 1 by decide +kernel⟩ ⟨by decide, by decide⟩ ⟨Nat.zero_le _, Nat.zero_le _⟩ (Nat.le_of_ble_eq_true rfl) dX7_wordHere_187 rfl (fun r M' L' hp52 => ?_)
              obtain ⟨rfl, rfl, rfl⟩ := hp52
              have hb51 := qtx_r hT (rq M + 4)
              refine at_bipush C dX7_wordHere_190 (by decide) (by decide) ?_
              refine at_icmp_ne C 197 dX7_wordHere_192 (by decide) (⟨by omega, by omega⟩) (⟨by omega, by omega⟩) (fun h53 => ?_) (fun h53 => ?_)
              · refine at_lv [1, 0] rfl ?_
                exact at_eq (J197 (fun z => by have y := (wL_0 M).mp z; omega)) rfl rfl rfl rfl
              · refine at_iconst C dX7_wordHere_195 ?_
                exact hret _ _ _ _ _ dX7_wordHere_196 (⟨congrArg sI (by unfold qWd; rw [if_neg (by omega), if_pos (by omega), if_pos ((wL_0 M).mpr ⟨by omega, by omega, by omega, by omega, by omega⟩)]), rfl, rfl⟩)
  · have J94 : (¬ wLq M 1) → (¬ wLq M 3) → sAt zp l ze (sRm 3 63) zs zm za zb zt zc D G 2 0 0 Q 94 [(0, .ref (G.1 (258))), (1, .int (sI ((((wLn M) : Nat) : Int))))] [] M L := by
      intro hn1 hn3
      refine at_aload_n C 0 dX7_wordHere_94 rfl ?_
      refine at_iconst C dX7_wordHere_95 ?_
      refine at_call_i C (c_X7_letter l D G (M := M) 0 (by omega) hT) (As := [.int (sI (0))]) (obj_Ref G) (ci := 7) rfl qw_1083 qw_1080 qw_8 qw_1082 qp_46 ⟨by decide, by decide, show (parseMethodDescriptor yX7_letter.desc).map (fun d => d.parameters.length) = some 1 by decide +kernel⟩ ⟨by decide, by decide⟩ ⟨Nat.zero_le _, Nat.zero_le _⟩ (Nat.le_of_ble_eq_true rfl) dX7_wordHere_96 rfl (fun r M' L' hp55 => ?_)
      obtain ⟨rfl, rfl, rfl⟩ := hp55
      have hb54 := qtx_r hT (rq M + 0)
      refine at_bipush C dX7_wordHere_99 (by decide) (by decide) ?_
      refine at_icmp_ne C 138 dX7_wordHere_101 (by decide) (⟨by omega, by omega⟩) (⟨by omega, by omega⟩) (fun h56 => ?_) (fun h56 => ?_)
      · refine at_iconst C dX7_wordHere_138 ?_
        exact hret _ _ _ _ _ dX7_wordHere_139 (⟨congrArg sI (by unfold qWd; first | (rw [if_pos (show wLn M = 4 by omega), if_neg hn1, if_neg hn3, if_neg (fun z => by have y := (wL_4 M).mp z; omega)]; done) | (rw [if_neg (show ¬ wLn M = 4 by omega), if_pos (show wLn M = 5 by omega), if_neg hn0, if_neg (fun z => by have y := (wL_5 M).mp z; omega)]; done) | (rw [if_neg (show ¬ wLn M = 4 by omega), if_neg (show ¬ wLn M = 5 by omega), if_pos (show wLn M = 6 by omega), if_neg (fun z => by have y := (wL_2 M).mp z; omega)]; done) | (rw [if_neg (show ¬ wLn M = 4 by omega), if_neg (show ¬ wLn M = 5 by omega), if_neg (show ¬ wLn M = 6 by omega)]; done)), rfl, rfl⟩)
      · refine at_aload_n C 0 dX7_wordHere_104 rfl ?_
        refine at_iconst C dX7_wordHere_105 ?_
        refine at_call_i C (c_X7_letter l D G (M := M) 1 (by omega) hT) (As := [.int (sI (1))]) (obj_Ref G) (ci := 7) rfl qw_1083 qw_1080 qw_8 qw_1082 qp_46 ⟨by decide, by decide, show (parseMethodDescriptor yX7_letter.desc).map (fun d => d.parameters.length) = some 1 by decide +kernel⟩ ⟨by decide, by decide⟩ ⟨Nat.zero_le _, Nat.zero_le _⟩ (Nat.le_of_ble_eq_true rfl) dX7_wordHere_106 rfl (fun r M' L' hp58 => ?_)
        obtain ⟨rfl, rfl, rfl⟩ := hp58
        have hb57 := qtx_r hT (rq M + 1)
        refine at_bipush C dX7_wordHere_109 (by decide) (by decide) ?_
        refine at_icmp_ne C 138 dX7_wordHere_111 (by decide) (⟨by omega, by omega⟩) (⟨by omega, by omega⟩) (fun h59 => ?_) (fun h59 => ?_)
        · refine at_iconst C dX7_wordHere_138 ?_
          exact hret _ _ _ _ _ dX7_wordHere_139 (⟨congrArg sI (by unfold qWd; first | (rw [if_pos (show wLn M = 4 by omega), if_neg hn1, if_neg hn3, if_neg (fun z => by have y := (wL_4 M).mp z; omega)]; done) | (rw [if_neg (show ¬ wLn M = 4 by omega), if_pos (show wLn M = 5 by omega), if_neg hn0, if_neg (fun z => by have y := (wL_5 M).mp z; omega)]; done) | (rw [if_neg (show ¬ wLn M = 4 by omega), if_neg (show ¬ wLn M = 5 by omega), if_pos (show wLn M = 6 by omega), if_neg (fun z => by have y := (wL_2 M).mp z; omega)]; done) | (rw [if_neg (show ¬ wLn M = 4 by omega), if_neg (show ¬ wLn M = 5 by omega), if_neg (show ¬ wLn M = 6 by omega)]; done)), rfl, rfl⟩)
        · refine at_aload_n C 0 dX7_wordHere_114 rfl ?_
          refine at_iconst C dX7_wordHere_115 ?_
          refine at_call_i C (c_X7_letter l D G (M := M) 2 (by omega) hT) (As := [.int (sI (2))]) (obj_Ref G) (ci := 7) rfl qw_1083 qw_1080 qw_8 qw_1082 qp_46 ⟨by decide, by decide, show (parseMethodDescriptor yX7_letter.desc).map (fun d => d.parameters.length) = some 1 by decide +kernel⟩ ⟨by decide, by decide⟩ ⟨Nat.zero_le _, Nat.zero_le _⟩ (Nat.le_of_ble_eq_true rfl) dX7_wordHere_116 rfl (fun r M' L' hp61 => ?_)
          obtain ⟨rfl, rfl, rfl⟩ := hp61
          have hb60 := qtx_r hT (rq M + 2)
          refine at_bipush C dX7_wordHere_119 (by decide) (by decide) ?_
          refine at_icmp_ne C 138 dX7_wordHere_121 (by decide) (⟨by omega, by omega⟩) (⟨by omega, by omega⟩) (fun h62 => ?_) (fun h62 => ?_)
          · refine at_iconst C dX7_wordHere_138 ?_
            exact hret _ _ _ _ _ dX7_wordHere_139 (⟨congrArg sI (by unfold qWd; first | (rw [if_pos (show wLn M = 4 by omega), if_neg hn1, if_neg hn3, if_neg (fun z => by have y := (wL_4 M).mp z; omega)]; done) | (rw [if_neg (show ¬ wLn M = 4 by omega), if_pos (show wLn M = 5 by omega), if_neg hn0, if_neg (fun z => by have y := (wL_5 M).mp z; omega)]; done) | (rw [if_neg (show ¬ wLn M = 4 by omega), if_neg (show ¬ wLn M = 5 by omega), if_pos (show wLn M = 6 by omega), if_neg (fun z => by have y := (wL_2 M).mp z; omega)]; done) | (rw [if_neg (show ¬ wLn M = 4 by omega), if_neg (show ¬ wLn M = 5 by omega), if_neg (show ¬ wLn M = 6 by omega)]; done)), rfl, rfl⟩)
          · refine at_aload_n C 0 dX7_wordHere_124 rfl ?_
            refine at_iconst C dX7_wordHere_125 ?_
            refine at_call_i C (c_X7_letter l D G (M := M) 3 (by omega) hT) (As := [.int (sI (3))]) (obj_Ref G) (ci := 7) rfl qw_1083 qw_1080 qw_8 qw_1082 qp_46 ⟨by decide, by decide, show (parseMethodDescriptor yX7_letter.desc).map (fun d => d.parameters.length) = some 1 by decide +kernel⟩ ⟨by decide, by decide⟩ ⟨Nat.zero_le _, Nat.zero_le _⟩ (Nat.le_of_ble_eq_true rfl) dX7_wordHere_126 rfl (fun r M' L' hp64 => ?_)
            obtain ⟨rfl, rfl, rfl⟩ := hp64
            have hb63 := qtx_r hT (rq M + 3)
            refine at_bipush C dX7_wordHere_129 (by decide) (by decide) ?_
            refine at_icmp_ne C 138 dX7_wordHere_131 (by decide) (⟨by omega, by omega⟩) (⟨by omega, by omega⟩) (fun h65 => ?_) (fun h65 => ?_)
            · refine at_iconst C dX7_wordHere_138 ?_
              exact hret _ _ _ _ _ dX7_wordHere_139 (⟨congrArg sI (by unfold qWd; first | (rw [if_pos (show wLn M = 4 by omega), if_neg hn1, if_neg hn3, if_neg (fun z => by have y := (wL_4 M).mp z; omega)]; done) | (rw [if_neg (show ¬ wLn M = 4 by omega), if_pos (show wLn M = 5 by omega), if_neg hn0, if_neg (fun z => by have y := (wL_5 M).mp z; omega)]; done) | (rw [if_neg (show ¬ wLn M = 4 by omega), if_neg (show ¬ wLn M = 5 by omega), if_pos (show wLn M = 6 by omega), if_neg (fun z => by have y := (wL_2 M).mp z; omega)]; done) | (rw [if_neg (show ¬ wLn M = 4 by omega), if_neg (show ¬ wLn M = 5 by omega), if_neg (show ¬ wLn M = 6 by omega)]; done)), rfl, rfl⟩)
            · refine at_iconst C dX7_wordHere_134 ?_
              refine at_goto C 139 dX7_wordHere_135 (by decide) ?_
              exact hret _ _ _ _ _ dX7_wordHere_139 (⟨congrArg sI (by unfold qWd; rw [if_pos (by omega), if_neg hn1, if_neg hn3, if_pos ((wL_4 M).mpr ⟨by omega, by omega, by omega, by omega⟩)]), rfl, rfl⟩)
    have J52 : (¬ wLq M 1) → sAt zp l ze (sRm 3 63) zs zm za zb zt zc D G 2 0 0 Q 52 [(0, .ref (G.1 (258))), (1, .int (sI ((((wLn M) : Nat) : Int))))] [] M L := by
      intro hn1
      refine at_aload_n C 0 dX7_wordHere_52 rfl ?_
      refine at_iconst C dX7_wordHere_53 ?_
      refine at_call_i C (c_X7_letter l D G (M := M) 0 (by omega) hT) (As := [.int (sI (0))]) (obj_Ref G) (ci := 7) rfl qw_1083 qw_1080 qw_8 qw_1082 qp_46 ⟨by decide, by decide, show (parseMethodDescriptor yX7_letter.desc).map (fun d => d.parameters.length) = some 1 by decide +kernel⟩ ⟨by decide, by decide⟩ ⟨Nat.zero_le _, Nat.zero_le _⟩ (Nat.le_of_ble_eq_true rfl) dX7_wordHere_54 rfl (fun r M' L' hp67 => ?_)
      obtain ⟨rfl, rfl, rfl⟩ := hp67
      have hb66 := qtx_r hT (rq M + 0)
      refine at_bipush C dX7_wordHere_57 (by decide) (by decide) ?_
      refine at_icmp_ne C 94 dX7_wordHere_59 (by decide) (⟨by omega, by omega⟩) (⟨by omega, by omega⟩) (fun h68 => ?_) (fun h68 => ?_)
      · refine at_lv [0, 1] rfl ?_
        exact at_eq (J94 (hn1) (fun z => by have y := (wL_3 M).mp z; omega)) rfl rfl rfl rfl
      · refine at_aload_n C 0 dX7_wordHere_62 rfl ?_
        refine at_iconst C dX7_wordHere_63 ?_
        refine at_call_i C (c_X7_letter l D G (M := M) 1 (by omega) hT) (As := [.int (sI (1))]) (obj_Ref G) (ci := 7) rfl qw_1083 qw_1080 qw_8 qw_1082 qp_46 ⟨by decide, by decide, show (parseMethodDescriptor yX7_letter.desc).map (fun d => d.parameters.length) = some 1 by decide +kernel⟩ ⟨by decide, by decide⟩ ⟨Nat.zero_le _, Nat.zero_le _⟩ (Nat.le_of_ble_eq_true rfl) dX7_wordHere_64 rfl (fun r M' L' hp70 => ?_)
        obtain ⟨rfl, rfl, rfl⟩ := hp70
        have hb69 := qtx_r hT (rq M + 1)
        refine at_bipush C dX7_wordHere_67 (by decide) (by decide) ?_
        refine at_icmp_ne C 94 dX7_wordHere_69 (by decide) (⟨by omega, by omega⟩) (⟨by omega, by omega⟩) (fun h71 => ?_) (fun h71 => ?_)
        · refine at_lv [0, 1] rfl ?_
          exact at_eq (J94 (hn1) (fun z => by have y := (wL_3 M).mp z; omega)) rfl rfl rfl rfl
        · refine at_aload_n C 0 dX7_wordHere_72 rfl ?_
          refine at_iconst C dX7_wordHere_73 ?_
          refine at_call_i C (c_X7_letter l D G (M := M) 2 (by omega) hT) (As := [.int (sI (2))]) (obj_Ref G) (ci := 7) rfl qw_1083 qw_1080 qw_8 qw_1082 qp_46 ⟨by decide, by decide, show (parseMethodDescriptor yX7_letter.desc).map (fun d => d.parameters.length) = some 1 by decide +kernel⟩ ⟨by decide, by decide⟩ ⟨Nat.zero_le _, Nat.zero_le _⟩ (Nat.le_of_ble_eq_true rfl) dX7_wordHere_74 rfl (fun r M' L' hp73 => ?_)
          obtain ⟨rfl, rfl, rfl⟩ := hp73
          have hb72 := qtx_r hT (rq M + 2)
          refine at_bipush C dX7_wordHere_77 (by decide) (by decide) ?_
          refine at_icmp_ne C 94 dX7_wordHere_79 (by decide) (⟨by omega, by omega⟩) (⟨by omega, by omega⟩) (fun h74 => ?_) (fun h74 => ?_)
          · refine at_lv [0, 1] rfl ?_
            exact at_eq (J94 (hn1) (fun z => by have y := (wL_3 M).mp z; omega)) rfl rfl rfl rfl
          · refine at_aload_n C 0 dX7_wordHere_82 rfl ?_
            refine at_iconst C dX7_wordHere_83 ?_
            refine at_call_i C (c_X7_letter l D G (M := M) 3 (by omega) hT) (As := [.int (sI (3))]) (obj_Ref G) (ci := 7) rfl qw_1083 qw_1080 qw_8 qw_1082 qp_46 ⟨by decide, by decide, show (parseMethodDescriptor yX7_letter.desc).map (fun d => d.parameters.length) = some 1 by decide +kernel⟩ ⟨by decide, by decide⟩ ⟨Nat.zero_le _, Nat.zero_le _⟩ (Nat.le_of_ble_eq_true rfl) dX7_wordHere_84 rfl (fun r M' L' hp76 => ?_)
            obtain ⟨rfl, rfl, rfl⟩ := hp76
            have hb75 := qtx_r hT (rq M + 3)
            refine at_bipush C dX7_wordHere_87 (by decide) (by decide) ?_
            refine at_icmp_ne C 94 dX7_wordHere_89 (by decide) (⟨by omega, by omega⟩) (⟨by omega, by omega⟩) (fun h77 => ?_) (fun h77 => ?_)
            · refine at_lv [0, 1] rfl ?_
              exact at_eq (J94 (hn1) (fun z => by have y := (wL_3 M).mp z; omega)) rfl rfl rfl rfl
            · refine at_iconst C dX7_wordHere_92 ?_
              exact hret _ _ _ _ _ dX7_wordHere_93 (⟨congrArg sI (by unfold qWd; rw [if_pos (by omega), if_neg hn1, if_pos ((wL_3 M).mpr ⟨by omega, by omega, by omega, by omega⟩)]), rfl, rfl⟩)
    refine at_aload_n C 1 dX7_wordHere_10 rfl ?_
    refine at_iconst C dX7_wordHere_11 ?_
    refine at_call_i C (c_X7_letter l D G (M := M) 0 (by omega) hT) (As := [.int (sI (0))]) (obj_Ref G) (ci := 7) rfl qw_1083 qw_1080 qw_8 qw_1082 qp_46 ⟨by decide, by decide, show (parseMethodDescriptor yX7_letter.desc).map (fun d => d.parameters.length) = some 1 by decide +kernel⟩ ⟨by decide, by decide⟩ ⟨Nat.zero_le _, Nat.zero_le _⟩ (Nat.le_of_ble_eq_true rfl) dX7_wordHere_12 rfl (fun r M' L' hp79 => ?_)
    obtain ⟨rfl, rfl, rfl⟩ := hp79
    have hb78 := qtx_r hT (rq M + 0)
    refine at_bipush C dX7_wordHere_15 (by decide) (by decide) ?_
    refine at_icmp_ne C 52 dX7_wordHere_17 (by decide) (⟨by omega, by omega⟩) (⟨by omega, by omega⟩) (fun h80 => ?_) (fun h80 => ?_)
    · refine at_lv [1, 0] rfl ?_
      exact at_eq (J52 (fun z => by have y := (wL_1 M).mp z; omega)) rfl rfl rfl rfl
    · refine at_aload_n C 1 dX7_wordHere_20 rfl ?_
      refine at_iconst C dX7_wordHere_21 ?_
      refine at_call_i C (c_X7_letter l D G (M := M) 1 (by omega) hT) (As := [.int (sI (1))]) (obj_Ref G) (ci := 7) rfl qw_1083 qw_1080 qw_8 qw_1082 qp_46 ⟨by decide, by decide, show (parseMethodDescriptor yX7_letter.desc).map (fun d => d.parameters.length) = some 1 by decide +kernel⟩ ⟨by decide, by decide⟩ ⟨Nat.zero_le _, Nat.zero_le _⟩ (Nat.le_of_ble_eq_true rfl) dX7_wordHere_22 rfl (fun r M' L' hp82 => ?_)
      obtain ⟨rfl, rfl, rfl⟩ := hp82
      have hb81 := qtx_r hT (rq M + 1)
      refine at_bipush C dX7_wordHere_25 (by decide) (by decide) ?_
      refine at_icmp_ne C 52 dX7_wordHere_27 (by decide) (⟨by omega, by omega⟩) (⟨by omega, by omega⟩) (fun h83 => ?_) (fun h83 => ?_)
      · refine at_lv [1, 0] rfl ?_
        exact at_eq (J52 (fun z => by have y := (wL_1 M).mp z; omega)) rfl rfl rfl rfl
      · refine at_aload_n C 1 dX7_wordHere_30 rfl ?_
        refine at_iconst C dX7_wordHere_31 ?_
        refine at_call_i C (c_X7_letter l D G (M := M) 2 (by omega) hT) (As := [.int (sI (2))]) (obj_Ref G) (ci := 7) rfl qw_1083 qw_1080 qw_8 qw_1082 qp_46 ⟨by decide, by decide, show (parseMethodDescriptor yX7_letter.desc).map (fun d => d.parameters.length) = some 1 by decide +kernel⟩ ⟨by decide, by decide⟩ ⟨Nat.zero_le _, Nat.zero_le _⟩ (Nat.le_of_ble_eq_true rfl) dX7_wordHere_32 rfl (fun r M' L' hp85 => ?_)
        obtain ⟨rfl, rfl, rfl⟩ := hp85
        have hb84 := qtx_r hT (rq M + 2)
        refine at_bipush C dX7_wordHere_35 (by decide) (by decide) ?_
        refine at_icmp_ne C 52 dX7_wordHere_37 (by decide) (⟨by omega, by omega⟩) (⟨by omega, by omega⟩) (fun h86 => ?_) (fun h86 => ?_)
        · refine at_lv [1, 0] rfl ?_
          exact at_eq (J52 (fun z => by have y := (wL_1 M).mp z; omega)) rfl rfl rfl rfl
        · refine at_aload_n C 1 dX7_wordHere_40 rfl ?_
          refine at_iconst C dX7_wordHere_41 ?_
          refine at_call_i C (c_X7_letter l D G (M := M) 3 (by omega) hT) (As := [.int (sI (3))]) (obj_Ref G) (ci := 7) rfl qw_1083 qw_1080 qw_8 qw_1082 qp_46 ⟨by decide, by decide, show (parseMethodDescriptor yX7_letter.desc).map (fun d => d.parameters.length) = some 1 by decide +kernel⟩ ⟨by decide, by decide⟩ ⟨Nat.zero_le _, Nat.zero_le _⟩ (Nat.le_of_ble_eq_true rfl) dX7_wordHere_42 rfl (fun r M' L' hp88 => ?_)
          obtain ⟨rfl, rfl, rfl⟩ := hp88
          have hb87 := qtx_r hT (rq M + 3)
          refine at_bipush C dX7_wordHere_45 (by decide) (by decide) ?_
          refine at_icmp_ne C 52 dX7_wordHere_47 (by decide) (⟨by omega, by omega⟩) (⟨by omega, by omega⟩) (fun h89 => ?_) (fun h89 => ?_)
          · refine at_lv [1, 0] rfl ?_
            exact at_eq (J52 (fun z => by have y := (wL_1 M).mp z; omega)) rfl rfl rfl rfl
          · refine at_iconst C dX7_wordHere_50 ?_
            exact hret _ _ _ _ _ dX7_wordHere_51 (⟨congrArg sI (by unfold qWd; rw [if_pos (by omega), if_pos ((wL_1 M).mpr ⟨by omega, by omega, by omega, by omega⟩)]), rfl, rfl⟩)

set_option maxHeartbeats 4000000 in
set_option maxRecDepth 100000 in
theorem c_X7_number (l : Launch) (D : va_G) (G : sG) {M : sM} {L : sL} (lo hi : Int) (hlo : InR lo) (hhi : InR hi) (hT : TInv M) : sKi l D G yX7_number cX7_number 5 .boolean 2 42 [.ref (G.1 (258)), .int (sI (lo)), .int (sI (hi))] M L (fun r M' L' => r = sB (nqOk lo hi M) ∧ (M' = qNm lo hi M ∧ TInv M' ∧ L = L')) := by
  refine sKz_go (by decide) (Nat.le_of_ble_eq_true rfl) ?_
  intro zp ze zs zm za zb zt zc Q C hret
  refine at_eq (lv' := [(0, .ref (G.1 (258))), (1, .int (sI (lo))), (2, .int (sI (hi)))]) (st' := []) (M' := M) (L' := L) ?_ rfl rfl rfl rfl
  have hqn := qn_r hT
  have hqc := qc_r hT
  have hqu := qu_r hT
  have hqt := qt_r hT
  have hqs := qs_r hT
  have hqo := qo_r hT
  have hqm := qm_r hT
  have hrq := rq_r hT
  have hsp := qsp_r hT
  have hfg := qfg_r hT
  refine at_aload_n C 0 dX7_number_0 rfl ?_
  refine at_call_v C (c_X7_skip l D G (M := M) hT) (As := []) (obj_Ref G) (ci := 7) rfl qw_1064 qw_1061 qw_8 qw_1063 qp_42 ⟨by decide, by decide, show (parseMethodDescriptor yX7_skip.desc).map (fun d => d.parameters.length) = some 0 by decide +kernel⟩ ⟨by decide, by decide⟩ ⟨Nat.zero_le _, Nat.zero_le _⟩ (Nat.le_of_ble_eq_true rfl) dX7_number_1 rfl (fun M' L' hp2 => ?_)
  obtain ⟨rfl, hT1, rfl⟩ := hp2
  refine at_iconst C dX7_number_4 ?_
  refine at_istore_n C [(3, .int (sI (0))), (0, .ref (G.1 (258))), (1, .int (sI (lo))), (2, .int (sI (hi)))] dX7_number_5 (by decide) rfl ?_
  refine at_iconst C dX7_number_6 ?_
  refine at_istore C [(4, .int (sI (0))), (3, .int (sI (0))), (0, .ref (G.1 (258))), (1, .int (sI (lo))), (2, .int (sI (hi)))] dX7_number_7 (by decide) rfl ?_
  have H9 : ∀ (fu : Nat) (k : Nat), 151 - k < fu → (qsp M + k ≤ 150) → (scan isFig (M 270) (qt M) (qsp M + k) = qfg M) → sAt zp l ze (sRm 2 42) zs zm za zb zt zc D G 5 0 0 Q 9 [(0, .ref (G.1 (258))), (1, .int (sI (lo))), (2, .int (sI (hi))), (3, .int (sI ((k : Int)))), (4, .int (sI (numV (M 270) (qsp M) (qsp M + k))))] [] (qSk M) L := by
    intro fu
    induction fu with
    | zero => intro k hd hk hs; exact absurd hd (Nat.not_lt_zero _)
    | succ fu ih9 =>
      intro k hd9 hk hs
      have htx := qtx_r hT (qsp M + k)
      refine at_aload_n C 0 dX7_number_9 rfl ?_
      refine at_getf (v := .int (sI ((qSk M) 258 20))) C (obj_Ref G) (ci := 7) rfl inX7 (slot := 20) (by decide) qw_902 rfl rfl dX7_number_10 ?_
      have hb3 : _ ≤ (qSk M) 258 20 ∧ (qSk M) 258 20 ≤ _ := tv hT1 (k := 258) (j := 20) rfl
      refine at_ve (b := (((qsp M) : Nat) : Int)) (sSt_eq) ?_
      refine at_iload_n C 3 dX7_number_13 rfl ?_
      refine at_iadd C dX7_number_14 ?_
      refine at_aload_n C 0 dX7_number_15 rfl ?_
      refine at_getf (v := .int (sI ((qSk M) 258 19))) C (obj_Ref G) (ci := 7) rfl inX7 (slot := 19) (by decide) qw_901 rfl rfl dX7_number_16 ?_
      refine at_ve (b := M 258 19) (rfl) ?_
      have hb4 : _ ≤ M 258 19 ∧ M 258 19 ≤ _ := tv hT1 (k := 258) (j := 19) rfl
      refine at_ve (b := (((qt M) : Nat) : Int)) (hqt.2) ?_
      refine at_icmp_ge C 77 dX7_number_19 (by decide) (⟨by omega, by omega⟩) (⟨by omega, by omega⟩) (fun h5 => ?_) (fun h5 => ?_)
      · have hend : qfg M = qsp M + k := by rw [← hs]; exact scan_n (fun z => by first | exact absurd z.2 (by assumption) | (have z1 := z.1; omega))
        have hnv : nqV M = numV (M 270) (qsp M) (qsp M + k) := by unfold nqV; rw [hend]
        have hnr := nqV_r (M := M)
        refine at_iload_n C 3 dX7_number_77 rfl ?_
        refine at_iconst C dX7_number_78 ?_
        refine at_iconst C dX7_number_79 ?_
        refine at_stat_i C (c_X7_in l D G (k : Int) 1 2 ⟨by omega, by omega⟩ ⟨by omega, by omega⟩ ⟨by omega, by omega⟩) (As := [.int (sI ((k : Int))), .int (sI (1)), .int (sI (2))]) qw_1004 qw_1002 qw_8 qw_1003 ⟨by decide, by decide, show (parseMethodDescriptor yX7_in.desc).map (fun d => d.parameters.length) = some 3 by decide +kernel⟩ ⟨by decide, by decide⟩ ⟨Nat.zero_le _, Nat.zero_le _⟩ (Nat.le_of_ble_eq_true rfl) dX7_number_80 rfl (fun r M' L' hp6 => ?_)
        obtain ⟨rfl, rfl, rfl⟩ := hp6
        refine at_if_eqB C 96 dX7_number_83 (by decide) (fun h7 => ?_) (fun h7 => ?_)
        · have hno : ¬ nqOk lo hi M := fun z => by have z1 := z.1; have z2 := z.2; omega
          refine at_iconst C dX7_number_96 ?_
          exact hret _ _ _ _ _ dX7_number_97 (sB_f (hno)) ⟨by unfold qNm; rw [if_neg hno], hT1, rfl⟩
        · refine at_iload C 4 dX7_number_86 rfl ?_
          refine at_iload_n C 1 dX7_number_88 rfl ?_
          refine at_iload_n C 2 dX7_number_89 rfl ?_
          refine at_stat_i C (c_X7_in l D G (numV (M 270) (qsp M) (qsp M + k)) lo hi ⟨by omega, by omega⟩ ⟨by omega, by omega⟩ ⟨by omega, by omega⟩) (As := [.int (sI (numV (M 270) (qsp M) (qsp M + k))), .int (sI (lo)), .int (sI (hi))]) qw_1004 qw_1002 qw_8 qw_1003 ⟨by decide, by decide, show (parseMethodDescriptor yX7_in.desc).map (fun d => d.parameters.length) = some 3 by decide +kernel⟩ ⟨by decide, by decide⟩ ⟨Nat.zero_le _, Nat.zero_le _⟩ (Nat.le_of_ble_eq_true rfl) dX7_number_90 rfl (fun r M' L' hp8 => ?_)
          obtain ⟨rfl, rfl, rfl⟩ := hp8
          refine at_if_neB C 98 dX7_number_93 (by decide) (fun h9 => ?_) (fun h9 => ?_)
          · have hok : nqOk lo hi M := ⟨⟨by omega, by omega⟩, ⟨by omega, by omega⟩⟩
            refine at_aload_n C 0 dX7_number_98 rfl ?_
            refine at_iload C 4 dX7_number_99 rfl ?_
            refine at_putM (slot := 21) (ty := .int) C tyX7 (obj_Ref G) (ci := 7) rfl inX7 tyX7_ok nmX7 (by decide) qw_903 rfl rfl (by decide +kernel) rfl rfl (Nat.le_of_ble_eq_true rfl) rfl dX7_number_101 ?_
            have hT10 : TInv (sSt (qSk M) 258 21 (numV (M 270) (qsp M) (qsp M + k))) := tv_st hT1 (k := 258) (j := 21) rfl (⟨by omega, by omega⟩)
            refine at_aload_n C 0 dX7_number_104 rfl ?_
            refine at_dup C dX7_number_105 rfl ?_
            refine at_getf (v := .int (sI ((sSt (qSk M) 258 21 (numV (M 270) (qsp M) (qsp M + k))) 258 20))) C (obj_Ref G) (ci := 7) rfl inX7 (slot := 20) (by decide) qw_902 rfl rfl dX7_number_106 ?_
            refine at_ve (b := (qSk M) 258 20) (rfl) ?_
            have hb11 : _ ≤ (qSk M) 258 20 ∧ (qSk M) 258 20 ≤ _ := tv hT10 (k := 258) (j := 20) rfl
            refine at_ve (b := (((qsp M) : Nat) : Int)) (sSt_eq) ?_
            refine at_iload_n C 3 dX7_number_109 rfl ?_
            refine at_iadd C dX7_number_110 ?_
            refine at_ve (b := (((qsp M + k) : Nat) : Int)) (by omega) ?_
            refine at_putM (slot := 20) (ty := .int) C tyX7 (obj_Ref G) (ci := 7) rfl inX7 tyX7_ok nmX7 (by decide) qw_902 rfl rfl (by decide +kernel) rfl rfl (Nat.le_of_ble_eq_true rfl) rfl dX7_number_111 ?_
            have hT12 : TInv (sSt (sSt (qSk M) 258 21 (numV (M 270) (qsp M) (qsp M + k))) 258 20 (((qsp M + k) : Nat) : Int)) := tv_st hT10 (k := 258) (j := 20) rfl (⟨by omega, by omega⟩)
            refine at_iconst C dX7_number_114 ?_
            exact hret _ _ _ _ _ dX7_number_115 (sB_t (hok)) ⟨by unfold qNm; rw [if_pos hok]; unfold nqM; rw [hnv, hend], hT12, rfl⟩
          · have hno : ¬ nqOk lo hi M := fun z => by have z1 := z.1; have z2 := z.2; omega
            refine at_iconst C dX7_number_96 ?_
            exact hret _ _ _ _ _ dX7_number_97 (sB_f (hno)) ⟨by unfold qNm; rw [if_neg hno], hT1, rfl⟩
      · refine at_aload_n C 0 dX7_number_22 rfl ?_
        refine at_getf (v := .ref (G.1 (270))) C (obj_Ref G) (ci := 7) rfl inX7 (slot := 18) (by decide) qw_900 rfl rfl dX7_number_23 ?_
        refine at_aload_n C 0 dX7_number_26 rfl ?_
        refine at_getf (v := .int (sI ((qSk M) 258 20))) C (obj_Ref G) (ci := 7) rfl inX7 (slot := 20) (by decide) qw_902 rfl rfl dX7_number_27 ?_
        have hb13 : _ ≤ (qSk M) 258 20 ∧ (qSk M) 258 20 ≤ _ := tv hT1 (k := 258) (j := 20) rfl
        refine at_ve (b := (((qsp M) : Nat) : Int)) (sSt_eq) ?_
        refine at_iload_n C 3 dX7_number_30 rfl ?_
        refine at_iadd C dX7_number_31 ?_
        refine at_iald C ((qsp M) + k) (ar_270 G) (by omega) (by omega) dX7_number_32 ?_
        refine at_ve (b := M 270 ((qsp M) + k)) (rfl) ?_
        have hb14 : _ ≤ M 270 ((qsp M) + k) ∧ M 270 ((qsp M) + k) ≤ _ := tv hT1 (k := 270) (j := ((qsp M) + k)) rfl
        refine at_stat_i C (c_X7_isFigure l D G (M 270 ((qsp M) + k)) (by omega)) (As := [.int (sI (M 270 ((qsp M) + k)))]) qw_1090 qw_1088 qw_8 qw_1089 ⟨by decide, by decide, show (parseMethodDescriptor yX7_isFigure.desc).map (fun d => d.parameters.length) = some 1 by decide +kernel⟩ ⟨by decide, by decide⟩ ⟨Nat.zero_le _, Nat.zero_le _⟩ (Nat.le_of_ble_eq_true rfl) dX7_number_33 rfl (fun r M' L' hp15 => ?_)
        obtain ⟨rfl, rfl, rfl⟩ := hp15
        refine at_if_eqB C 77 dX7_number_36 (by decide) (fun h16 => ?_) (fun h16 => ?_)
        · have hend : qfg M = qsp M + k := by rw [← hs]; exact scan_n (fun z => by first | exact absurd z.2 (by assumption) | (have z1 := z.1; omega))
          have hnv : nqV M = numV (M 270) (qsp M) (qsp M + k) := by unfold nqV; rw [hend]
          have hnr := nqV_r (M := M)
          refine at_iload_n C 3 dX7_number_77 rfl ?_
          refine at_iconst C dX7_number_78 ?_
          refine at_iconst C dX7_number_79 ?_
          refine at_stat_i C (c_X7_in l D G (k : Int) 1 2 ⟨by omega, by omega⟩ ⟨by omega, by omega⟩ ⟨by omega, by omega⟩) (As := [.int (sI ((k : Int))), .int (sI (1)), .int (sI (2))]) qw_1004 qw_1002 qw_8 qw_1003 ⟨by decide, by decide, show (parseMethodDescriptor yX7_in.desc).map (fun d => d.parameters.length) = some 3 by decide +kernel⟩ ⟨by decide, by decide⟩ ⟨Nat.zero_le _, Nat.zero_le _⟩ (Nat.le_of_ble_eq_true rfl) dX7_number_80 rfl (fun r M' L' hp17 => ?_)
          obtain ⟨rfl, rfl, rfl⟩ := hp17
          refine at_if_eqB C 96 dX7_number_83 (by decide) (fun h18 => ?_) (fun h18 => ?_)
          · have hno : ¬ nqOk lo hi M := fun z => by have z1 := z.1; have z2 := z.2; omega
            refine at_iconst C dX7_number_96 ?_
            exact hret _ _ _ _ _ dX7_number_97 (sB_f (hno)) ⟨by unfold qNm; rw [if_neg hno], hT1, rfl⟩
          · refine at_iload C 4 dX7_number_86 rfl ?_
            refine at_iload_n C 1 dX7_number_88 rfl ?_
            refine at_iload_n C 2 dX7_number_89 rfl ?_
            refine at_stat_i C (c_X7_in l D G (numV (M 270) (qsp M) (qsp M + k)) lo hi ⟨by omega, by omega⟩ ⟨by omega, by omega⟩ ⟨by omega, by omega⟩) (As := [.int (sI (numV (M 270) (qsp M) (qsp M + k))), .int (sI (lo)), .int (sI (hi))]) qw_1004 qw_1002 qw_8 qw_1003 ⟨by decide, by decide, show (parseMethodDescriptor yX7_in.desc).map (fun d => d.parameters.length) = some 3 by decide +kernel⟩ ⟨by decide, by decide⟩ ⟨Nat.zero_le _, Nat.zero_le _⟩ (Nat.le_of_ble_eq_true rfl) dX7_number_90 rfl (fun r M' L' hp19 => ?_)
            obtain ⟨rfl, rfl, rfl⟩ := hp19
            refine at_if_neB C 98 dX7_number_93 (by decide) (fun h20 => ?_) (fun h20 => ?_)
            · have hok : nqOk lo hi M := ⟨⟨by omega, by omega⟩, ⟨by omega, by omega⟩⟩
              refine at_aload_n C 0 dX7_number_98 rfl ?_
              refine at_iload C 4 dX7_number_99 rfl ?_
              refine at_putM (slot := 21) (ty := .int) C tyX7 (obj_Ref G) (ci := 7) rfl inX7 tyX7_ok nmX7 (by decide) qw_903 rfl rfl (by decide +kernel) rfl rfl (Nat.le_of_ble_eq_true rfl) rfl dX7_number_101 ?_
              have hT21 : TInv (sSt (qSk M) 258 21 (numV (M 270) (qsp M) (qsp M + k))) := tv_st hT1 (k := 258) (j := 21) rfl (⟨by omega, by omega⟩)
              refine at_aload_n C 0 dX7_number_104 rfl ?_
              refine at_dup C dX7_number_105 rfl ?_
              refine at_getf (v := .int (sI ((sSt (qSk M) 258 21 (numV (M 270) (qsp M) (qsp M + k))) 258 20))) C (obj_Ref G) (ci := 7) rfl inX7 (slot := 20) (by decide) qw_902 rfl rfl dX7_number_106 ?_
              refine at_ve (b := (qSk M) 258 20) (rfl) ?_
              have hb22 : _ ≤ (qSk M) 258 20 ∧ (qSk M) 258 20 ≤ _ := tv hT21 (k := 258) (j := 20) rfl
              refine at_ve (b := (((qsp M) : Nat) : Int)) (sSt_eq) ?_
              refine at_iload_n C 3 dX7_number_109 rfl ?_
              refine at_iadd C dX7_number_110 ?_
              refine at_ve (b := (((qsp M + k) : Nat) : Int)) (by omega) ?_
              refine at_putM (slot := 20) (ty := .int) C tyX7 (obj_Ref G) (ci := 7) rfl inX7 tyX7_ok nmX7 (by decide) qw_902 rfl rfl (by decide +kernel) rfl rfl (Nat.le_of_ble_eq_true rfl) rfl dX7_number_111 ?_
              have hT23 : TInv (sSt (sSt (qSk M) 258 21 (numV (M 270) (qsp M) (qsp M + k))) 258 20 (((qsp M + k) : Nat) : Int)) := tv_st hT21 (k := 258) (j := 20) rfl (⟨by omega, by omega⟩)
              refine at_iconst C dX7_number_114 ?_
              exact hret _ _ _ _ _ dX7_number_115 (sB_t (hok)) ⟨by unfold qNm; rw [if_pos hok]; unfold nqM; rw [hnv, hend], hT23, rfl⟩
            · have hno : ¬ nqOk lo hi M := fun z => by have z1 := z.1; have z2 := z.2; omega
              refine at_iconst C dX7_number_96 ?_
              exact hret _ _ _ _ _ dX7_number_97 (sB_f (hno)) ⟨by unfold qNm; rw [if_neg hno], hT1, rfl⟩
        · refine at_iload_n C 3 dX7_number_39 rfl ?_
          refine at_iconst C dX7_number_40 ?_
          refine at_icmp_ge C 67 dX7_number_41 (by decide) (⟨by omega, by omega⟩) (⟨by omega, by omega⟩) (fun h24 => ?_) (fun h24 => ?_)
          · refine at_iload C 4 dX7_number_67 rfl ?_
            refine at_istore C [(4, .int (sI (numV (M 270) (qsp M) (qsp M + k)))), (0, .ref (G.1 (258))), (1, .int (sI (lo))), (2, .int (sI (hi))), (3, .int (sI ((k : Int))))] dX7_number_69 (by decide) rfl ?_
            refine at_iinc C 4 [(3, .int (sI ((k : Int) + 1))), (4, .int (sI (numV (M 270) (qsp M) (qsp M + k)))), (0, .ref (G.1 (258))), (1, .int (sI (lo))), (2, .int (sI (hi)))] dX7_number_71 rfl (by decide) rfl ?_
            refine at_goto C 9 dX7_number_74 (by decide) ?_
            refine at_lv [2, 3, 4, 0, 1] rfl ?_
            exact at_eq (ih9 (k + 1) (by omega) (by omega) (by rw [← hs]; exact (scan_y (p := qsp M + k) (by omega) (by assumption)).symm)) (lvc_s (lvc_s (lvc_s (lvc_i (by omega) (lvc_i (numV_k (by omega)) rfl))))) rfl (rfl) (rfl)
          · refine at_bipush C dX7_number_44 (by decide) (by decide) ?_
            refine at_iload C 4 dX7_number_46 rfl ?_
            refine at_imul C dX7_number_48 ?_
            refine at_aload_n C 0 dX7_number_49 rfl ?_
            refine at_getf (v := .ref (G.1 (270))) C (obj_Ref G) (ci := 7) rfl inX7 (slot := 18) (by decide) qw_900 rfl rfl dX7_number_50 ?_
            refine at_aload_n C 0 dX7_number_53 rfl ?_
            refine at_getf (v := .int (sI ((qSk M) 258 20))) C (obj_Ref G) (ci := 7) rfl inX7 (slot := 20) (by decide) qw_902 rfl rfl dX7_number_54 ?_
            have hb25 : _ ≤ (qSk M) 258 20 ∧ (qSk M) 258 20 ≤ _ := tv hT1 (k := 258) (j := 20) rfl
            refine at_ve (b := (((qsp M) : Nat) : Int)) (sSt_eq) ?_
            refine at_iload_n C 3 dX7_number_57 rfl ?_
            refine at_iadd C dX7_number_58 ?_
            refine at_iald C ((qsp M) + k) (ar_270 G) (by omega) (by omega) dX7_number_59 ?_
            refine at_ve (b := M 270 ((qsp M) + k)) (rfl) ?_
            have hb26 : _ ≤ M 270 ((qsp M) + k) ∧ M 270 ((qsp M) + k) ≤ _ := tv hT1 (k := 270) (j := ((qsp M) + k)) rfl
            refine at_iadd C dX7_number_60 ?_
            refine at_bipush C dX7_number_61 (by decide) (by decide) ?_
            refine at_isub C dX7_number_63 ?_
            refine at_goto C 69 dX7_number_64 (by decide) ?_
            refine at_istore C [(4, .int (sI (((10 * (numV (M 270) (qsp M) (qsp M + k))) + (M 270 ((qsp M) + k))) - 48))), (0, .ref (G.1 (258))), (1, .int (sI (lo))), (2, .int (sI (hi))), (3, .int (sI ((k : Int))))] dX7_number_69 (by decide) rfl ?_
            refine at_iinc C 4 [(3, .int (sI ((k : Int) + 1))), (4, .int (sI (((10 * (numV (M 270) (qsp M) (qsp M + k))) + (M 270 ((qsp M) + k))) - 48))), (0, .ref (G.1 (258))), (1, .int (sI (lo))), (2, .int (sI (hi)))] dX7_number_71 rfl (by decide) rfl ?_
            refine at_goto C 9 dX7_number_74 (by decide) ?_
            refine at_lv [2, 3, 4, 0, 1] rfl ?_
            exact at_eq (ih9 (k + 1) (by omega) (by omega) (by rw [← hs]; exact (scan_y (p := qsp M + k) (by omega) (by assumption)).symm)) (lvc_s (lvc_s (lvc_s (lvc_i (by omega) (lvc_i (numV_s (by omega) (by omega)) rfl))))) rfl (rfl) (rfl)
  refine at_lv [2, 3, 4, 1, 0] rfl ?_
  exact at_eq (H9 _ 0 (Nat.lt_succ_self _) (by omega) (rfl)) (lvc_s (lvc_s (lvc_s (lvc_i (rfl) (lvc_i (by unfold numV; rw [if_pos (by omega)]) rfl))))) rfl (rfl) (rfl)

set_option maxHeartbeats 4000000 in
set_option maxRecDepth 100000 in
theorem c_X7_ends (l : Launch) (D : va_G) (G : sG) {M : sM} {L : sL} (hT : TInv M) : sKi l D G yX7_ends cX7_ends 1 .boolean 2 40 [.ref (G.1 (258))] M L (fun r M' L' => r = sB ((qEnd M).1 = true) ∧ (M' = (qEnd M).2 ∧ TInv M' ∧ L = L')) := by
  refine sKz_go (by decide) (Nat.le_of_ble_eq_true rfl) ?_
  intro zp ze zs zm za zb zt zc Q C hret
  refine at_eq (lv' := [(0, .ref (G.1 (258)))]) (st' := []) (M' := M) (L' := L) ?_ rfl rfl rfl rfl
  have hqn := qn_r hT
  have hqc := qc_r hT
  have hqu := qu_r hT
  have hqt := qt_r hT
  have hqs := qs_r hT
  have hqo := qo_r hT
  have hqm := qm_r hT
  have hrq := rq_r hT
  have hsp := qsp_r hT
  have hqr := qHr_r hT (qsp M)
  refine at_aload_n C 0 dX7_ends_0 rfl ?_
  refine at_call_v C (c_X7_skip l D G (M := M) hT) (As := []) (obj_Ref G) (ci := 7) rfl qw_1064 qw_1061 qw_8 qw_1063 qp_42 ⟨by decide, by decide, show (parseMethodDescriptor yX7_skip.desc).map (fun d => d.parameters.length) = some 0 by decide +kernel⟩ ⟨by decide, by decide⟩ ⟨Nat.zero_le _, Nat.zero_le _⟩ (Nat.le_of_ble_eq_true rfl) dX7_ends_1 rfl (fun M' L' hp2 => ?_)
  obtain ⟨rfl, hT1, rfl⟩ := hp2
  refine at_aload_n C 0 dX7_ends_4 rfl ?_
  refine at_call_i C (c_X7_here l D G (M := (qSk M)) hT1) (As := []) (obj_Ref G) (ci := 7) rfl qw_1068 qw_1065 qw_8 qw_1067 qp_43 ⟨by decide, by decide, show (parseMethodDescriptor yX7_here.desc).map (fun d => d.parameters.length) = some 0 by decide +kernel⟩ ⟨by decide, by decide⟩ ⟨Nat.zero_le _, Nat.zero_le _⟩ (Nat.le_of_ble_eq_true rfl) dX7_ends_5 rfl (fun r M' L' hp3 => ?_)
  obtain ⟨rfl, rfl, rfl⟩ := hp3
  refine at_ve (b := qHr M (qsp M)) (qHere_e M (qsp M)) ?_
  refine at_bipush C dX7_ends_8 (by decide) (by decide) ?_
  refine at_icmp_eq C 15 dX7_ends_10 (by decide) (⟨by omega, by omega⟩) (⟨by omega, by omega⟩) (fun h4 => ?_) (fun h4 => ?_)
  · have hy := qHr_y (M := M) (p := qsp M) (by omega)
    have hok : enOk M := ⟨hy.1, by omega⟩
    refine at_aload_n C 0 dX7_ends_15 rfl ?_
    refine at_dup C dX7_ends_16 rfl ?_
    refine at_getf (v := .int (sI ((qSk M) 258 20))) C (obj_Ref G) (ci := 7) rfl inX7 (slot := 20) (by decide) qw_902 rfl rfl dX7_ends_17 ?_
    have hb5 : _ ≤ (qSk M) 258 20 ∧ (qSk M) 258 20 ≤ _ := tv hT1 (k := 258) (j := 20) rfl
    refine at_ve (b := (((qsp M) : Nat) : Int)) (sSt_eq) ?_
    refine at_iconst C dX7_ends_20 ?_
    refine at_iadd C dX7_ends_21 ?_
    refine at_putM (slot := 20) (ty := .int) C tyX7 (obj_Ref G) (ci := 7) rfl inX7 tyX7_ok nmX7 (by decide) qw_902 rfl rfl (by decide +kernel) rfl rfl (Nat.le_of_ble_eq_true rfl) rfl dX7_ends_22 ?_
    have hT6 : TInv (sSt (qSk M) 258 20 ((((qsp M) : Nat) : Int) + 1)) := tv_st hT1 (k := 258) (j := 20) rfl (⟨by omega, by omega⟩)
    refine at_iconst C dX7_ends_25 ?_
    exact hret _ _ _ _ _ dX7_ends_26 (sB_t (by rw [qEnd_y hok])) ⟨by rw [qEnd_y hok]; rfl, hT6, rfl⟩
  · have hno : ¬ enOk M := fun z => by have z1 : qHr M (qsp M) = M 270 (qsp M) := if_pos z.1; have z2 := z.2; omega
    refine at_iconst C dX7_ends_13 ?_
    exact hret _ _ _ _ _ dX7_ends_14 (sB_f (by rw [qEnd_n hno]; exact fun z => Bool.noConfusion z)) ⟨by rw [qEnd_n hno], hT1, rfl⟩

set_option maxHeartbeats 4000000 in
set_option maxRecDepth 100000 in
theorem c_X7_readsSoul (l : Launch) (D : va_G) (G : sG) {M : sM} {L : sL} (hs : M 258 1 < 6) (hT : TInv M) : sKi l D G yX7_readsSoul cX7_readsSoul 4 .boolean 3 66 [.ref (G.1 (258))] M L (fun r M' L' => r = sB ((qpSoul M).1 = true) ∧ (M' = (qpSoul M).2 ∧ TInv M' ∧ L = L')) := by
  refine sKz_go (by decide) (Nat.le_of_ble_eq_true rfl) ?_
  intro zp ze zs zm za zb zt zc Q C hret
  refine at_eq (lv' := [(0, .ref (G.1 (258)))]) (st' := []) (M' := M) (L' := L) ?_ rfl rfl rfl rfl
  have hqn := qn_r hT
  have hqc := qc_r hT
  have hqu := qu_r hT
  have hqt := qt_r hT
  have hqs := qs_r hT
  have hqo := qo_r hT
  have hqm := qm_r hT
  have hrq := rq_r hT
  refine at_aload_n C 0 dX7_readsSoul_0 rfl ?_
  refine at_iconst C dX7_readsSoul_1 ?_
  refine at_iconst C dX7_readsSoul_2 ?_
  refine at_call_i C (c_X7_number l D G (M := M) 0 5 ⟨by omega, by omega⟩ ⟨by omega, by omega⟩ hT) (As := [.int (sI (0)), .int (sI (5))]) (obj_Ref G) (ci := 7) rfl qw_1087 qw_1084 qw_8 qw_1086 qp_47 ⟨by decide, by decide, show (parseMethodDescriptor yX7_number.desc).map (fun d => d.parameters.length) = some 2 by decide +kernel⟩ ⟨by decide, by decide⟩ ⟨Nat.zero_le _, Nat.zero_le _⟩ (Nat.le_of_ble_eq_true rfl) dX7_readsSoul_3 rfl (fun r M' L' hp2 => ?_)
  obtain ⟨rfl, rfl, hT1, rfl⟩ := hp2
  refine at_if_neB C 11 dX7_readsSoul_6 (by decide) (fun h3 => ?_) (fun h3 => ?_)
  · have ho5 : nqOk 0 5 M := by assumption
    have hT4 : TInv (nqM M) := TInv_e (if_pos ho5) hT1
    refine at_m (M' := (nqM M)) (if_pos ho5) ?_
    have hb6 := nqV_r (M := M)
    refine at_aload_n C 0 dX7_readsSoul_11 rfl ?_
    refine at_getf (v := .int (sI ((nqM M) 258 21))) C (obj_Ref G) (ci := 7) rfl inX7 (slot := 21) (by decide) qw_903 rfl rfl dX7_readsSoul_12 ?_
    have hb7 : _ ≤ (nqM M) 258 21 ∧ (nqM M) 258 21 ≤ _ := tv hT4 (k := 258) (j := 21) rfl
    refine at_ve (b := nqV M) (nqM_21 _) ?_
    refine at_istore_n C [(1, .int (sI (nqV M))), (0, .ref (G.1 (258)))] dX7_readsSoul_15 (by decide) rfl ?_
    refine at_aload_n C 1 dX7_readsSoul_16 rfl ?_
    refine at_iconst C dX7_readsSoul_17 ?_
    refine at_bipush C dX7_readsSoul_18 (by decide) (by decide) ?_
    refine at_call_i C (c_X7_number l D G (M := (nqM M)) 1 9 ⟨by omega, by omega⟩ ⟨by omega, by omega⟩ hT4) (As := [.int (sI (1)), .int (sI (9))]) (obj_Ref G) (ci := 7) rfl qw_1087 qw_1084 qw_8 qw_1086 qp_47 ⟨by decide, by decide, show (parseMethodDescriptor yX7_number.desc).map (fun d => d.parameters.length) = some 2 by decide +kernel⟩ ⟨by decide, by decide⟩ ⟨Nat.zero_le _, Nat.zero_le _⟩ (Nat.le_of_ble_eq_true rfl) dX7_readsSoul_20 rfl (fun r M' L' hp9 => ?_)
    obtain ⟨rfl, rfl, hT8, rfl⟩ := hp9
    refine at_if_neB C 28 dX7_readsSoul_23 (by decide) (fun h10 => ?_) (fun h10 => ?_)
    · have ho12 : nqOk 1 9 (nqM M) := by assumption
      have hT11 : TInv (nqM (nqM M)) := TInv_e (if_pos ho12) hT8
      refine at_m (M' := (nqM (nqM M))) (if_pos ho12) ?_
      have hb13 := nqV_r (M := (nqM M))
      refine at_aload_n C 1 dX7_readsSoul_28 rfl ?_
      refine at_getf (v := .int (sI ((nqM (nqM M)) 258 21))) C (obj_Ref G) (ci := 7) rfl inX7 (slot := 21) (by decide) qw_903 rfl rfl dX7_readsSoul_29 ?_
      have hb14 : _ ≤ (nqM (nqM M)) 258 21 ∧ (nqM (nqM M)) 258 21 ≤ _ := tv hT11 (k := 258) (j := 21) rfl
      refine at_ve (b := nqV (nqM M)) (nqM_21 _) ?_
      refine at_istore_n C [(2, .int (sI (nqV (nqM M)))), (1, .int (sI (nqV M))), (0, .ref (G.1 (258)))] dX7_readsSoul_32 (by decide) rfl ?_
      refine at_aload_n C 2 dX7_readsSoul_33 rfl ?_
      refine at_iconst C dX7_readsSoul_34 ?_
      refine at_bipush C dX7_readsSoul_35 (by decide) (by decide) ?_
      refine at_call_i C (c_X7_number l D G (M := (nqM (nqM M))) 0 11 ⟨by omega, by omega⟩ ⟨by omega, by omega⟩ hT11) (As := [.int (sI (0)), .int (sI (11))]) (obj_Ref G) (ci := 7) rfl qw_1087 qw_1084 qw_8 qw_1086 qp_47 ⟨by decide, by decide, show (parseMethodDescriptor yX7_number.desc).map (fun d => d.parameters.length) = some 2 by decide +kernel⟩ ⟨by decide, by decide⟩ ⟨Nat.zero_le _, Nat.zero_le _⟩ (Nat.le_of_ble_eq_true rfl) dX7_readsSoul_37 rfl (fun r M' L' hp16 => ?_)
      obtain ⟨rfl, rfl, hT15, rfl⟩ := hp16
      refine at_if_neB C 45 dX7_readsSoul_40 (by decide) (fun h17 => ?_) (fun h17 => ?_)
      · have ho19 : nqOk 0 11 (nqM (nqM M)) := by assumption
        have hT18 : TInv (nqM (nqM (nqM M))) := TInv_e (if_pos ho19) hT15
        refine at_m (M' := (nqM (nqM (nqM M)))) (if_pos ho19) ?_
        have hb20 := nqV_r (M := (nqM (nqM M)))
        refine at_aload_n C 2 dX7_readsSoul_45 rfl ?_
        refine at_getf (v := .int (sI ((nqM (nqM (nqM M))) 258 21))) C (obj_Ref G) (ci := 7) rfl inX7 (slot := 21) (by decide) qw_903 rfl rfl dX7_readsSoul_46 ?_
        have hb21 : _ ≤ (nqM (nqM (nqM M))) 258 21 ∧ (nqM (nqM (nqM M))) 258 21 ≤ _ := tv hT18 (k := 258) (j := 21) rfl
        refine at_ve (b := nqV (nqM (nqM M))) (nqM_21 _) ?_
        refine at_istore_n C [(3, .int (sI (nqV (nqM (nqM M))))), (2, .int (sI (nqV (nqM M)))), (1, .int (sI (nqV M))), (0, .ref (G.1 (258)))] dX7_readsSoul_49 (by decide) rfl ?_
        refine at_aload_n C 3 dX7_readsSoul_50 rfl ?_
        refine at_call_i C (c_X7_ends l D G (M := (nqM (nqM (nqM M)))) hT18) (As := []) (obj_Ref G) (ci := 7) rfl qw_1094 qw_1091 qw_8 qw_1093 qp_48 ⟨by decide, by decide, show (parseMethodDescriptor yX7_ends.desc).map (fun d => d.parameters.length) = some 0 by decide +kernel⟩ ⟨by decide, by decide⟩ ⟨Nat.zero_le _, Nat.zero_le _⟩ (Nat.le_of_ble_eq_true rfl) dX7_readsSoul_51 rfl (fun r M' L' hp23 => ?_)
        obtain ⟨rfl, rfl, hT22, rfl⟩ := hp23
        refine at_if_neB C 59 dX7_readsSoul_54 (by decide) (fun h24 => ?_) (fun h24 => ?_)
        · have heo : (qEnd (nqM (nqM (nqM M)))).1 = true := by assumption
          have hs1 : ((qEnd (nqM (nqM (nqM M)))).2) 258 1 < 6 := by rw [qEnd_at (by decide)]; exact hs
          have hz0 := ho5.2
          have hz1 := ho12.2
          have hz2 := ho19.2
          refine at_aload_n C 3 dX7_readsSoul_59 rfl ?_
          refine at_iload_n C 2 dX7_readsSoul_60 rfl ?_
          refine at_iload_n C 1 dX7_readsSoul_61 rfl ?_
          refine at_iload_n C 0 dX7_readsSoul_62 rfl ?_
          refine at_call_i C (c_X7_addSoul l D G (nqV M) (nqV (nqM M)) (nqV (nqM (nqM M))) ⟨by omega, by omega⟩ ⟨by omega, by omega⟩ ⟨by omega, by omega⟩ (by omega) hT22) (As := [.int (sI (nqV M)), .int (sI (nqV (nqM M))), .int (sI (nqV (nqM (nqM M))))]) (obj_Ref G) (ci := 7) rfl qw_1024 qw_1021 qw_8 qw_1023 qp_36 ⟨by decide, by decide, show (parseMethodDescriptor yX7_addSoul.desc).map (fun d => d.parameters.length) = some 3 by decide +kernel⟩ ⟨by decide, by decide⟩ ⟨Nat.zero_le _, Nat.zero_le _⟩ (Nat.le_of_ble_eq_true rfl) dX7_readsSoul_63 rfl (fun r M' L' hp26 => ?_)
          obtain ⟨rfl, rfl, hT25, rfl⟩ := hp26
          refine at_pop C dX7_readsSoul_66 rfl ?_
          refine at_iconst C dX7_readsSoul_67 ?_
          exact hret _ _ _ _ _ dX7_readsSoul_68 (sB_t (by unfold qpSoul; rw [if_pos ho5, if_pos ho12, if_pos ho19, if_pos heo])) ⟨by unfold qpSoul; rw [if_pos ho5, if_pos ho12, if_pos ho19, if_pos heo], hT25, rfl⟩
        · have hen : ¬ (qEnd (nqM (nqM (nqM M)))).1 = true := by assumption
          refine at_iconst C dX7_readsSoul_57 ?_
          exact hret _ _ _ _ _ dX7_readsSoul_58 (sB_f (by unfold qpSoul; rw [if_pos ho5, if_pos ho12, if_pos ho19, if_neg hen]; exact fun z => Bool.noConfusion z)) ⟨by unfold qpSoul; rw [if_pos ho5, if_pos ho12, if_pos ho19, if_neg hen], hT22, rfl⟩
      · have ho28 : ¬ nqOk 0 11 (nqM (nqM M)) := by assumption
        have hT27 : TInv (qSk (nqM (nqM M))) := TInv_e (if_neg ho28) hT15
        refine at_m (M' := (qSk (nqM (nqM M)))) (if_neg ho28) ?_
        refine at_iconst C dX7_readsSoul_43 ?_
        exact hret _ _ _ _ _ dX7_readsSoul_44 (sB_f (by unfold qpSoul; rw [if_pos ho5, if_pos ho12, if_neg ho28]; exact fun z => Bool.noConfusion z)) ⟨by unfold qpSoul; rw [if_pos ho5, if_pos ho12, if_neg ho28], hT27, rfl⟩
    · have ho30 : ¬ nqOk 1 9 (nqM M) := by assumption
      have hT29 : TInv (qSk (nqM M)) := TInv_e (if_neg ho30) hT8
      refine at_m (M' := (qSk (nqM M))) (if_neg ho30) ?_
      refine at_iconst C dX7_readsSoul_26 ?_
      exact hret _ _ _ _ _ dX7_readsSoul_27 (sB_f (by unfold qpSoul; rw [if_pos ho5, if_neg ho30]; exact fun z => Bool.noConfusion z)) ⟨by unfold qpSoul; rw [if_pos ho5, if_neg ho30], hT29, rfl⟩
  · have ho32 : ¬ nqOk 0 5 M := by assumption
    have hT31 : TInv (qSk M) := TInv_e (if_neg ho32) hT1
    refine at_m (M' := (qSk M)) (if_neg ho32) ?_
    refine at_iconst C dX7_readsSoul_9 ?_
    exact hret _ _ _ _ _ dX7_readsSoul_10 (sB_f (by unfold qpSoul; rw [if_neg ho32]; exact fun z => Bool.noConfusion z)) ⟨by unfold qpSoul; rw [if_neg ho32], hT31, rfl⟩

set_option maxHeartbeats 4000000 in
set_option maxRecDepth 100000 in
theorem c_X7_readsCaller (l : Launch) (D : va_G) (G : sG) {M : sM} {L : sL} (hs : M 258 2 < 6) (hT : TInv M) : sKi l D G yX7_readsCaller cX7_readsCaller 2 .boolean 3 66 [.ref (G.1 (258))] M L (fun r M' L' => r = sB ((qpCaller M).1 = true) ∧ (M' = (qpCaller M).2 ∧ TInv M' ∧ L = L')) := by
  refine sKz_go (by decide) (Nat.le_of_ble_eq_true rfl) ?_
  intro zp ze zs zm za zb zt zc Q C hret
  refine at_eq (lv' := [(0, .ref (G.1 (258)))]) (st' := []) (M' := M) (L' := L) ?_ rfl rfl rfl rfl
  have hqn := qn_r hT
  have hqc := qc_r hT
  have hqu := qu_r hT
  have hqt := qt_r hT
  have hqs := qs_r hT
  have hqo := qo_r hT
  have hqm := qm_r hT
  have hrq := rq_r hT
  refine at_aload_n C 0 dX7_readsCaller_0 rfl ?_
  refine at_iconst C dX7_readsCaller_1 ?_
  refine at_iconst C dX7_readsCaller_2 ?_
  refine at_call_i C (c_X7_number l D G (M := M) 0 5 ⟨by omega, by omega⟩ ⟨by omega, by omega⟩ hT) (As := [.int (sI (0)), .int (sI (5))]) (obj_Ref G) (ci := 7) rfl qw_1087 qw_1084 qw_8 qw_1086 qp_47 ⟨by decide, by decide, show (parseMethodDescriptor yX7_number.desc).map (fun d => d.parameters.length) = some 2 by decide +kernel⟩ ⟨by decide, by decide⟩ ⟨Nat.zero_le _, Nat.zero_le _⟩ (Nat.le_of_ble_eq_true rfl) dX7_readsCaller_3 rfl (fun r M' L' hp2 => ?_)
  obtain ⟨rfl, rfl, hT1, rfl⟩ := hp2
  refine at_if_neB C 11 dX7_readsCaller_6 (by decide) (fun h3 => ?_) (fun h3 => ?_)
  · have ho5 : nqOk 0 5 M := by assumption
    have hT4 : TInv (nqM M) := TInv_e (if_pos ho5) hT1
    refine at_m (M' := (nqM M)) (if_pos ho5) ?_
    have hb6 := nqV_r (M := M)
    refine at_aload_n C 0 dX7_readsCaller_11 rfl ?_
    refine at_getf (v := .int (sI ((nqM M) 258 21))) C (obj_Ref G) (ci := 7) rfl inX7 (slot := 21) (by decide) qw_903 rfl rfl dX7_readsCaller_12 ?_
    have hb7 : _ ≤ (nqM M) 258 21 ∧ (nqM M) 258 21 ≤ _ := tv hT4 (k := 258) (j := 21) rfl
    refine at_ve (b := nqV M) (nqM_21 _) ?_
    refine at_istore_n C [(1, .int (sI (nqV M))), (0, .ref (G.1 (258)))] dX7_readsCaller_15 (by decide) rfl ?_
    refine at_aload_n C 1 dX7_readsCaller_16 rfl ?_
    refine at_call_i C (c_X7_ends l D G (M := (nqM M)) hT4) (As := []) (obj_Ref G) (ci := 7) rfl qw_1094 qw_1091 qw_8 qw_1093 qp_48 ⟨by decide, by decide, show (parseMethodDescriptor yX7_ends.desc).map (fun d => d.parameters.length) = some 0 by decide +kernel⟩ ⟨by decide, by decide⟩ ⟨Nat.zero_le _, Nat.zero_le _⟩ (Nat.le_of_ble_eq_true rfl) dX7_readsCaller_17 rfl (fun r M' L' hp9 => ?_)
    obtain ⟨rfl, rfl, hT8, rfl⟩ := hp9
    refine at_if_neB C 25 dX7_readsCaller_20 (by decide) (fun h10 => ?_) (fun h10 => ?_)
    · have heo : (qEnd (nqM M)).1 = true := by assumption
      have hs1 : ((qEnd (nqM M)).2) 258 2 < 6 := by rw [qEnd_at (by decide)]; exact hs
      have hz0 := ho5.2
      refine at_aload_n C 1 dX7_readsCaller_25 rfl ?_
      refine at_iload_n C 0 dX7_readsCaller_26 rfl ?_
      refine at_call_i C (c_X7_addCaller l D G (nqV M) ⟨by omega, by omega⟩ (by omega) hT8) (As := [.int (sI (nqV M))]) (obj_Ref G) (ci := 7) rfl qw_1032 qw_1029 qw_8 qw_1031 qp_37 ⟨by decide, by decide, show (parseMethodDescriptor yX7_addCaller.desc).map (fun d => d.parameters.length) = some 1 by decide +kernel⟩ ⟨by decide, by decide⟩ ⟨Nat.zero_le _, Nat.zero_le _⟩ (Nat.le_of_ble_eq_true rfl) dX7_readsCaller_27 rfl (fun r M' L' hp12 => ?_)
      obtain ⟨rfl, rfl, hT11, rfl⟩ := hp12
      refine at_pop C dX7_readsCaller_30 rfl ?_
      refine at_iconst C dX7_readsCaller_31 ?_
      exact hret _ _ _ _ _ dX7_readsCaller_32 (sB_t (by unfold qpCaller; rw [if_pos ho5, if_pos heo])) ⟨by unfold qpCaller; rw [if_pos ho5, if_pos heo], hT11, rfl⟩
    · have hen : ¬ (qEnd (nqM M)).1 = true := by assumption
      refine at_iconst C dX7_readsCaller_23 ?_
      exact hret _ _ _ _ _ dX7_readsCaller_24 (sB_f (by unfold qpCaller; rw [if_pos ho5, if_neg hen]; exact fun z => Bool.noConfusion z)) ⟨by unfold qpCaller; rw [if_pos ho5, if_neg hen], hT8, rfl⟩
  · have ho14 : ¬ nqOk 0 5 M := by assumption
    have hT13 : TInv (qSk M) := TInv_e (if_neg ho14) hT1
    refine at_m (M' := (qSk M)) (if_neg ho14) ?_
    refine at_iconst C dX7_readsCaller_9 ?_
    exact hret _ _ _ _ _ dX7_readsCaller_10 (sB_f (by unfold qpCaller; rw [if_neg ho14]; exact fun z => Bool.noConfusion z)) ⟨by unfold qpCaller; rw [if_neg ho14], hT13, rfl⟩

set_option maxHeartbeats 4000000 in
set_option maxRecDepth 100000 in
theorem c_X7_goesBy_z (l : Launch) (D : va_G) (G : sG) {M : sM} {L : sL} (d : Int) (hd : -1 ≤ d ∧ d ≤ 1) (hz : M 258 23 = 0) (hT : TInv M) : sKi l D G yX7_goesBy cX7_goesBy 4 .int 3 62 [.ref (G.1 (258)), .int (sI (d))] M L (fun r M' L' => r = sI (qGoC M d) ∧ M' = qGo M d ∧ TInv M' ∧ L = L') := by
  refine sKi_go (by decide) (Nat.le_of_ble_eq_true rfl) ?_
  intro zp ze zs zm za zb zt zc Q C hret
  refine at_eq (lv' := [(0, .ref (G.1 (258))), (1, .int (sI (d)))]) (st' := []) (M' := M) (L' := L) ?_ rfl rfl rfl rfl
  have hqn := qn_r hT
  have hqc := qc_r hT
  have hqu := qu_r hT
  have hqt := qt_r hT
  have hqs := qs_r hT
  have hqo := qo_r hT
  have hqm := qm_r hT
  have hrq := rq_r hT
  refine at_aload_n C 0 dX7_goesBy_0 rfl ?_
  refine at_aload_n C 0 dX7_goesBy_1 rfl ?_
  refine at_getf (v := .int (sI (M 258 4))) C (obj_Ref G) (ci := 7) rfl inX7 (slot := 4) (by decide) qw_886 rfl rfl dX7_goesBy_2 ?_
  have hb1 : _ ≤ M 258 4 ∧ M 258 4 ≤ _ := tv hT (k := 258) (j := 4) rfl
  refine at_iload_n C 1 dX7_goesBy_5 rfl ?_
  refine at_iadd C dX7_goesBy_6 ?_
  refine at_stat_i C (c_X7_onShore l D G ((M 258 4) + d) ⟨by omega, by omega⟩) (As := [.int (sI ((M 258 4) + d))]) qw_1117 qw_1115 qw_8 qw_1116 ⟨by decide, by decide, show (parseMethodDescriptor yX7_onShore.desc).map (fun d => d.parameters.length) = some 1 by decide +kernel⟩ ⟨by decide, by decide⟩ ⟨Nat.zero_le _, Nat.zero_le _⟩ (Nat.le_of_ble_eq_true rfl) dX7_goesBy_7 rfl (fun r M' L' hp2 => ?_)
  obtain ⟨rfl, rfl, rfl⟩ := hp2
  refine at_ve (b := qCl M d) (rfl) ?_
  have hcl : 0 ≤ qCl M d ∧ qCl M d ≤ 11 := by unfold qCl; omega
  refine at_putM (slot := 4) (ty := .int) C tyX7 (obj_Ref G) (ci := 7) rfl inX7 tyX7_ok nmX7 (by decide) qw_886 rfl rfl (by decide +kernel) rfl rfl (Nat.le_of_ble_eq_true rfl) rfl dX7_goesBy_10 ?_
  have hT3 : TInv (sSt M 258 4 (qCl M d)) := tv_st hT (k := 258) (j := 4) rfl (⟨by omega, by omega⟩)
  refine at_aload_n C 0 dX7_goesBy_13 rfl ?_
  refine at_aload_n C 0 dX7_goesBy_14 rfl ?_
  refine at_getf (v := .int (sI ((sSt M 258 4 (qCl M d)) 258 4))) C (obj_Ref G) (ci := 7) rfl inX7 (slot := 4) (by decide) qw_886 rfl rfl dX7_goesBy_15 ?_
  refine at_ve (b := qCl M d) (sSt_eq) ?_
  refine at_call_i C (c_X7_countAt l D G (qCl M d) ⟨by omega, by omega⟩ hT3) (As := [.int (sI (qCl M d))]) (obj_Ref G) (ci := 7) rfl qw_1121 qw_1118 qw_8 qw_1120 qp_54 ⟨by decide, by decide, show (parseMethodDescriptor yX7_countAt.desc).map (fun d => d.parameters.length) = some 1 by decide +kernel⟩ ⟨by decide, by decide⟩ ⟨Nat.zero_le _, Nat.zero_le _⟩ (Nat.le_of_ble_eq_true rfl) dX7_goesBy_18 rfl (fun r M' L' hp5 => ?_)
  obtain ⟨rfl, rfl, rfl⟩ := hp5
  have hb4 : 0 ≤ qCnt (sSt M 258 4 (qCl M d)) (qCl M d) ∧ qCnt (sSt M 258 4 (qCl M d)) (qCl M d) ≤ qn (sSt M 258 4 (qCl M d)) := cnt_r _ _
  refine at_ve (b := qGoC M d) (rfl) ?_
  have hgc : 0 ≤ qGoC M d ∧ qGoC M d ≤ qn M := cnt_r _ _
  refine at_istore_n C [(2, .int (sI (qGoC M d))), (0, .ref (G.1 (258))), (1, .int (sI (d)))] dX7_goesBy_21 (by decide) rfl ?_
  refine at_iconst C dX7_goesBy_22 ?_
  refine at_istore_n C [(3, .int (sI (0))), (2, .int (sI (qGoC M d))), (0, .ref (G.1 (258))), (1, .int (sI (d)))] dX7_goesBy_23 (by decide) rfl ?_
  have H24 : ∀ (fu : Nat) (k : Nat), qn M - k < fu → (k ≤ qn M) → (TInv (qgN M k (qCl M d))) → sAt zp l ze (sRm 3 62) zs zm za zb zt zc D G 4 0 0 Q 24 [(0, .ref (G.1 (258))), (1, .int (sI (d))), (2, .int (sI (qGoC M d))), (3, .int (sI ((k : Int))))] [] (qgN M k (qCl M d)) L := by
    intro fu
    induction fu with
    | zero => intro k hd hk hTk; exact absurd hd (Nat.not_lt_zero _)
    | succ fu ih24 =>
      intro k hd24 hk hTk
      have hb3 := tv hT (k := 263) (j := k) (lo := -2) (hi := 11) rfl
      have g4 : qgN M k (qCl M d) 258 4 = (qCl M d) := rfl
      refine at_iload_n C 3 dX7_goesBy_24 rfl ?_
      refine at_aload_n C 0 dX7_goesBy_25 rfl ?_
      refine at_getf (v := .int (sI ((qgN M k (qCl M d)) 258 1))) C (obj_Ref G) (ci := 7) rfl inX7 (slot := 1) (by decide) qw_883 rfl rfl dX7_goesBy_26 ?_
      refine at_ve (b := M 258 1) (rfl) ?_
      have hb6 : _ ≤ M 258 1 ∧ M 258 1 ≤ _ := tv hTk (k := 258) (j := 1) rfl
      refine at_ve (b := (((qn M) : Nat) : Int)) (hqn.2) ?_
      refine at_icmp_ge C 65 dX7_goesBy_29 (by decide) (⟨by omega, by omega⟩) (⟨by omega, by omega⟩) (fun h7 => ?_) (fun h7 => ?_)
      · have hG : qgN M k (qCl M d) = qGa M d := by unfold qGa; rw [show qn M = k by omega]
        have hTG : TInv (qGa M d) := hG ▸ hTk
        refine at_m (M' := (qGa M d)) (hG) ?_
        refine at_aload_n C 0 dX7_goesBy_65 rfl ?_
        refine at_getf (v := .int (sI ((qGa M d) 258 3))) C (obj_Ref G) (ci := 7) rfl inX7 (slot := 3) (by decide) qw_885 rfl rfl dX7_goesBy_66 ?_
        refine at_ve (b := M 258 3) (rfl) ?_
        have hb8 : _ ≤ M 258 3 ∧ M 258 3 ≤ _ := tv hTG (k := 258) (j := 3) rfl
        refine at_sipush C dX7_goesBy_69 (by decide) (by decide) ?_
        refine at_icmp_lt C 82 dX7_goesBy_72 (by decide) (⟨by omega, by omega⟩) (⟨by omega, by omega⟩) (fun h9 => ?_) (fun h9 => ?_)
        · refine at_aload_n C 0 dX7_goesBy_82 rfl ?_
          refine at_call_v C (c_X7_passes l D G (M := (qGa M d)) (show M 258 3 < 2000 by omega) hTG) (As := []) (obj_Ref G) (ci := 7) rfl qw_1125 qw_1122 qw_8 qw_1124 qp_55 ⟨by decide, by decide, show (parseMethodDescriptor yX7_passes.desc).map (fun d => d.parameters.length) = some 0 by decide +kernel⟩ ⟨by decide, by decide⟩ ⟨Nat.zero_le _, Nat.zero_le _⟩ (Nat.le_of_ble_eq_true rfl) dX7_goesBy_83 rfl (fun M' L' hp11 => ?_)
          obtain ⟨rfl, hT10, rfl⟩ := hp11
          refine at_iload_n C 2 dX7_goesBy_86 rfl ?_
          exact hret _ _ _ _ _ dX7_goesBy_87 (⟨rfl, (if_pos (by omega)).symm, hT10, rfl⟩)
        · refine at_aload_n C 0 dX7_goesBy_75 rfl ?_
          refine at_getf (v := .int (sI ((qGa M d) 258 23))) C (obj_Ref G) (ci := 7) rfl inX7 (slot := 23) (by decide) qw_905 rfl rfl dX7_goesBy_76 ?_
          refine at_ve (b := M 258 23) (rfl) ?_
          have hb12 : _ ≤ M 258 23 ∧ M 258 23 ≤ _ := tv hTG (k := 258) (j := 23) rfl
          refine at_if_eq C 86 dX7_goesBy_79 (by decide) (⟨by omega, by omega⟩) (fun h13 => ?_) (fun h13 => ?_)
          · refine at_iload_n C 2 dX7_goesBy_86 rfl ?_
            exact hret _ _ _ _ _ dX7_goesBy_87 (⟨rfl, (if_neg (by omega)).symm, hTG, rfl⟩)
          · refine at_aload_n C 0 dX7_goesBy_82 rfl ?_
            refine at_call_v C (c_X7_passes l D G (M := (qGa M d)) (show M 258 3 < 2000 by omega) hTG) (As := []) (obj_Ref G) (ci := 7) rfl qw_1125 qw_1122 qw_8 qw_1124 qp_55 ⟨by decide, by decide, show (parseMethodDescriptor yX7_passes.desc).map (fun d => d.parameters.length) = some 0 by decide +kernel⟩ ⟨by decide, by decide⟩ ⟨Nat.zero_le _, Nat.zero_le _⟩ (Nat.le_of_ble_eq_true rfl) dX7_goesBy_83 rfl (fun M' L' hp15 => ?_)
            obtain ⟨rfl, hT14, rfl⟩ := hp15
            refine at_iload_n C 2 dX7_goesBy_86 rfl ?_
            exact hret _ _ _ _ _ dX7_goesBy_87 (⟨rfl, (if_pos (by omega)).symm, hT14, rfl⟩)
      · refine at_aload_n C 0 dX7_goesBy_32 rfl ?_
        refine at_getf (v := .ref (G.1 (263))) C (obj_Ref G) (ci := 7) rfl inX7 (slot := 11) (by decide) qw_893 rfl rfl dX7_goesBy_33 ?_
        refine at_iload_n C 3 dX7_goesBy_36 rfl ?_
        refine at_iald C k (ar_263 G) (rfl) (by omega) dX7_goesBy_37 ?_
        have hb16 : _ ≤ (qgN M k (qCl M d)) 263 k ∧ (qgN M k (qCl M d)) 263 k ≤ _ := tv hTk (k := 263) (j := k) rfl
        refine at_ve (b := M 263 k) (qgN_3 M k _) ?_
        refine at_aload_n C 0 dX7_goesBy_38 rfl ?_
        refine at_getf (v := .int (sI ((qgN M k (qCl M d)) 258 4))) C (obj_Ref G) (ci := 7) rfl inX7 (slot := 4) (by decide) qw_886 rfl rfl dX7_goesBy_39 ?_
        have hb17 : _ ≤ (qgN M k (qCl M d)) 258 4 ∧ (qgN M k (qCl M d)) 258 4 ≤ _ := tv hTk (k := 258) (j := 4) rfl
        refine at_ve (b := qCl M d) (rfl) ?_
        refine at_icmp_ne C 59 dX7_goesBy_42 (by decide) (⟨by omega, by omega⟩) (⟨by omega, by omega⟩) (fun h18 => ?_) (fun h18 => ?_)
        · refine at_iinc C 3 [(3, .int (sI ((k : Int) + 1))), (0, .ref (G.1 (258))), (1, .int (sI (d))), (2, .int (sI (qGoC M d)))] dX7_goesBy_59 rfl (by decide) rfl ?_
          refine at_goto C 24 dX7_goesBy_62 (by decide) ?_
          refine at_lv [1, 2, 3, 0] rfl ?_
          exact at_eq (ih24 (k + 1) (by omega) (by omega) (by rw [← qgN_b (M := M) (k := k) (by omega)]; exact hTk)) (lvc_s (lvc_s (lvc_s (lvc_i (by omega) rfl)))) rfl (qgN_b (M := M) (k := k) (by omega)) (rfl)
        · refine at_aload_n C 0 dX7_goesBy_45 rfl ?_
          refine at_getf (v := .ref (G.1 (263))) C (obj_Ref G) (ci := 7) rfl inX7 (slot := 11) (by decide) qw_893 rfl rfl dX7_goesBy_46 ?_
          refine at_iload_n C 3 dX7_goesBy_49 rfl ?_
          refine at_iconst C dX7_goesBy_50 ?_
          refine at_iast C k (ar_263 G) (rfl) (by omega) dX7_goesBy_51 ?_
          have hT19 : TInv (sSt (qgN M k (qCl M d)) 263 k (-1)) := tv_st hTk (k := 263) rfl (⟨by omega, by omega⟩)
          refine at_aload_n C 0 dX7_goesBy_52 rfl ?_
          refine at_getf (v := .ref (G.1 (265))) C (obj_Ref G) (ci := 7) rfl inX7 (slot := 13) (by decide) qw_895 rfl rfl dX7_goesBy_53 ?_
          refine at_iload_n C 3 dX7_goesBy_56 rfl ?_
          refine at_iconst C dX7_goesBy_57 ?_
          refine at_iast C k (ar_265 G) (rfl) (by omega) dX7_goesBy_58 ?_
          have hT20 : TInv (sSt (sSt (qgN M k (qCl M d)) 263 k (-1)) 265 k 0) := tv_st hT19 (k := 265) rfl (⟨by omega, by omega⟩)
          refine at_iinc C 3 [(3, .int (sI ((k : Int) + 1))), (0, .ref (G.1 (258))), (1, .int (sI (d))), (2, .int (sI (qGoC M d)))] dX7_goesBy_59 rfl (by decide) rfl ?_
          refine at_goto C 24 dX7_goesBy_62 (by decide) ?_
          refine at_lv [1, 2, 3, 0] rfl ?_
          exact at_eq (ih24 (k + 1) (by omega) (by omega) (by rw [← qgN_a (M := M) (k := k) (by omega)]; exact hT20)) (lvc_s (lvc_s (lvc_s (lvc_i (by omega) rfl)))) rfl (qgN_a (M := M) (k := k) (by omega)) (rfl)
  refine at_lv [2, 3, 1, 0] rfl ?_
  exact at_eq (H24 _ 0 (Nat.lt_succ_self _) (by omega) ((qgN_0 M (qCl M d)) ▸ hT3)) (lvc_s (lvc_s (lvc_s (lvc_i (rfl) rfl)))) rfl (qgN_0 M _) (rfl)

set_option maxHeartbeats 4000000 in
set_option maxRecDepth 100000 in
theorem c_X7_readsWalk (l : Launch) (D : va_G) (G : sG) {M : sM} {L : sL} (hz : M 258 23 = 0) (hT : TInv M) : sKi l D G yX7_readsWalk cX7_readsWalk 1 .boolean 4 85 [.ref (G.1 (258))] M L (fun r M' L' => r = sB ((qpWalk M).1 = true) ∧ (M' = (qpWalk M).2 ∧ TInv M' ∧ L = L')) := by
  refine sKz_go (by decide) (Nat.le_of_ble_eq_true rfl) ?_
  intro zp ze zs zm za zb zt zc Q C hret
  refine at_eq (lv' := [(0, .ref (G.1 (258)))]) (st' := []) (M' := M) (L' := L) ?_ rfl rfl rfl rfl
  have hqn := qn_r hT
  have hqc := qc_r hT
  have hqu := qu_r hT
  have hqt := qt_r hT
  have hqs := qs_r hT
  have hqo := qo_r hT
  have hqm := qm_r hT
  have hrq := rq_r hT
  refine at_aload_n C 0 dX7_readsWalk_0 rfl ?_
  refine at_iconst C dX7_readsWalk_1 ?_
  refine at_iconst C dX7_readsWalk_2 ?_
  refine at_call_i C (c_X7_number l D G (M := M) 0 2 ⟨by omega, by omega⟩ ⟨by omega, by omega⟩ hT) (As := [.int (sI (0)), .int (sI (2))]) (obj_Ref G) (ci := 7) rfl qw_1087 qw_1084 qw_8 qw_1086 qp_47 ⟨by decide, by decide, show (parseMethodDescriptor yX7_number.desc).map (fun d => d.parameters.length) = some 2 by decide +kernel⟩ ⟨by decide, by decide⟩ ⟨Nat.zero_le _, Nat.zero_le _⟩ (Nat.le_of_ble_eq_true rfl) dX7_readsWalk_3 rfl (fun r M' L' hp2 => ?_)
  obtain ⟨rfl, rfl, hT1, rfl⟩ := hp2
  refine at_if_neB C 11 dX7_readsWalk_6 (by decide) (fun h3 => ?_) (fun h3 => ?_)
  · have ho5 : nqOk 0 2 M := by assumption
    have hT4 : TInv (nqM M) := TInv_e (if_pos ho5) hT1
    refine at_m (M' := (nqM M)) (if_pos ho5) ?_
    have hb6 := nqV_r (M := M)
    have hz1 : nqM M 258 23 = 0 := hz
    refine at_aload_n C 0 dX7_readsWalk_11 rfl ?_
    refine at_aload_n C 0 dX7_readsWalk_12 rfl ?_
    refine at_getf (v := .int (sI ((nqM M) 258 21))) C (obj_Ref G) (ci := 7) rfl inX7 (slot := 21) (by decide) qw_903 rfl rfl dX7_readsWalk_13 ?_
    have hb7 : _ ≤ (nqM M) 258 21 ∧ (nqM M) 258 21 ≤ _ := tv hT4 (k := 258) (j := 21) rfl
    refine at_ve (b := nqV M) (nqM_21 _) ?_
    have hz0 := ho5.2
    refine at_iconst C dX7_readsWalk_16 ?_
    refine at_isub C dX7_readsWalk_17 ?_
    refine at_call_i C (c_X7_goesBy_z l D G (M := (nqM M)) ((nqV M) - 1) ⟨by omega, by omega⟩ (by first | assumption | omega) hT4) (As := [.int (sI ((nqV M) - 1))]) (obj_Ref G) (ci := 7) rfl qw_1114 qw_1111 qw_8 qw_1113 qp_53 ⟨by decide, by decide, show (parseMethodDescriptor yX7_goesBy.desc).map (fun d => d.parameters.length) = some 1 by decide +kernel⟩ ⟨by decide, by decide⟩ ⟨Nat.zero_le _, Nat.zero_le _⟩ (Nat.le_of_ble_eq_true rfl) dX7_readsWalk_18 rfl (fun r M' L' hp9 => ?_)
    obtain ⟨rfl, rfl, hT8, rfl⟩ := hp9
    refine at_pop C dX7_readsWalk_21 rfl ?_
    refine at_aload_n C 0 dX7_readsWalk_22 rfl ?_
    refine at_call_i C (c_X7_ends l D G (M := (qGo (nqM M) ((nqV M) - 1))) hT8) (As := []) (obj_Ref G) (ci := 7) rfl qw_1094 qw_1091 qw_8 qw_1093 qp_48 ⟨by decide, by decide, show (parseMethodDescriptor yX7_ends.desc).map (fun d => d.parameters.length) = some 0 by decide +kernel⟩ ⟨by decide, by decide⟩ ⟨Nat.zero_le _, Nat.zero_le _⟩ (Nat.le_of_ble_eq_true rfl) dX7_readsWalk_23 rfl (fun r M' L' hp11 => ?_)
    obtain ⟨rfl, rfl, hT10, rfl⟩ := hp11
    exact hret _ _ _ _ _ dX7_readsWalk_26 (sB_c (by unfold qpWalk; rw [if_pos ho5])) ⟨by unfold qpWalk; rw [if_pos ho5], hT10, rfl⟩
  · have ho13 : ¬ nqOk 0 2 M := by assumption
    have hT12 : TInv (qSk M) := TInv_e (if_neg ho13) hT1
    refine at_m (M' := (qSk M)) (if_neg ho13) ?_
    refine at_iconst C dX7_readsWalk_9 ?_
    exact hret _ _ _ _ _ dX7_readsWalk_10 (sB_f (by unfold qpWalk; rw [if_neg ho13]; exact fun z => Bool.noConfusion z)) ⟨by unfold qpWalk; rw [if_neg ho13], hT12, rfl⟩

set_option maxHeartbeats 4000000 in
set_option maxRecDepth 100000 in
theorem c_X7_readsTides (l : Launch) (D : va_G) (G : sG) {M : sM} {L : sL} (hT : TInv M) : sKi l D G yX7_readsTides cX7_readsTides 2 .boolean 3 66 [.ref (G.1 (258))] M L (fun r M' L' => r = sB ((qpTides M).1 = true) ∧ (M' = (qpTides M).2 ∧ TInv M' ∧ L = L')) := by
  refine sKz_go (by decide) (Nat.le_of_ble_eq_true rfl) ?_
  intro zp ze zs zm za zb zt zc Q C hret
  refine at_eq (lv' := [(0, .ref (G.1 (258)))]) (st' := []) (M' := M) (L' := L) ?_ rfl rfl rfl rfl
  have hqn := qn_r hT
  have hqc := qc_r hT
  have hqu := qu_r hT
  have hqt := qt_r hT
  have hqs := qs_r hT
  have hqo := qo_r hT
  have hqm := qm_r hT
  have hrq := rq_r hT
  refine at_aload_n C 0 dX7_readsTides_0 rfl ?_
  refine at_iconst C dX7_readsTides_1 ?_
  refine at_bipush C dX7_readsTides_2 (by decide) (by decide) ?_
  refine at_call_i C (c_X7_number l D G (M := M) 1 99 ⟨by omega, by omega⟩ ⟨by omega, by omega⟩ hT) (As := [.int (sI (1)), .int (sI (99))]) (obj_Ref G) (ci := 7) rfl qw_1087 qw_1084 qw_8 qw_1086 qp_47 ⟨by decide, by decide, show (parseMethodDescriptor yX7_number.desc).map (fun d => d.parameters.length) = some 2 by decide +kernel⟩ ⟨by decide, by decide⟩ ⟨Nat.zero_le _, Nat.zero_le _⟩ (Nat.le_of_ble_eq_true rfl) dX7_readsTides_4 rfl (fun r M' L' hp2 => ?_)
  obtain ⟨rfl, rfl, hT1, rfl⟩ := hp2
  refine at_if_neB C 12 dX7_readsTides_7 (by decide) (fun h3 => ?_) (fun h3 => ?_)
  · have ho5 : nqOk 1 99 M := by assumption
    have hT4 : TInv (nqM M) := TInv_e (if_pos ho5) hT1
    refine at_m (M' := (nqM M)) (if_pos ho5) ?_
    have hb6 := nqV_r (M := M)
    refine at_aload_n C 0 dX7_readsTides_12 rfl ?_
    refine at_getf (v := .int (sI ((nqM M) 258 21))) C (obj_Ref G) (ci := 7) rfl inX7 (slot := 21) (by decide) qw_903 rfl rfl dX7_readsTides_13 ?_
    have hb7 : _ ≤ (nqM M) 258 21 ∧ (nqM M) 258 21 ≤ _ := tv hT4 (k := 258) (j := 21) rfl
    refine at_ve (b := nqV M) (nqM_21 _) ?_
    have hz0 := ho5.2
    refine at_istore_n C [(1, .int (sI (nqV M))), (0, .ref (G.1 (258)))] dX7_readsTides_16 (by decide) rfl ?_
    have H17 : ∀ (fu : Nat) (k : Nat), (nqV M).toNat - k < fu → (k ≤ (nqV M).toNat) → (k = 0 ∨ nqM M 258 3 + k ≤ 999) → (TInv (qPs (nqM M) k)) → sAt zp l ze (sRm 3 66) zs zm za zb zt zc D G 2 0 0 Q 17 [(0, .ref (G.1 (258))), (1, .int (sI (nqV M - (k : Int))))] [] (qPs (nqM M) k) L := by
      intro fu
      induction fu with
      | zero => intro k hd hk hk2 hTk; exact absurd hd (Nat.not_lt_zero _)
      | succ fu ih17 =>
        intro k hd17 hk hk2 hTk
        have g3 : qPs (nqM M) k 258 3 = nqM M 258 3 + k := qPs_3 _ _
        refine at_iload_n C 1 dX7_readsTides_17 rfl ?_
        refine at_if_le C 41 dX7_readsTides_18 (by decide) (⟨by omega, by omega⟩) (fun h8 => ?_) (fun h8 => ?_)
        · have hP : qPs (nqM M) k = qPt (nqM M) (nqV M).toNat := by unfold qPt; rw [show min (nqV M).toNat (999 - nqM M 258 3).toNat = k by omega]
          have hTP : TInv (qPt (nqM M) (nqV M).toNat) := TInv_e hP hTk
          refine at_m (M' := (qPt (nqM M) (nqV M).toNat)) (hP) ?_
          refine at_aload_n C 0 dX7_readsTides_41 rfl ?_
          refine at_call_i C (c_X7_ends l D G (M := (qPt (nqM M) (nqV M).toNat)) hTP) (As := []) (obj_Ref G) (ci := 7) rfl qw_1094 qw_1091 qw_8 qw_1093 qp_48 ⟨by decide, by decide, show (parseMethodDescriptor yX7_ends.desc).map (fun d => d.parameters.length) = some 0 by decide +kernel⟩ ⟨by decide, by decide⟩ ⟨Nat.zero_le _, Nat.zero_le _⟩ (Nat.le_of_ble_eq_true rfl) dX7_readsTides_42 rfl (fun r M' L' hp10 => ?_)
          obtain ⟨rfl, rfl, hT9, rfl⟩ := hp10
          exact hret _ _ _ _ _ dX7_readsTides_45 (sB_c (by unfold qpTides; rw [if_pos ho5])) ⟨by unfold qpTides; rw [if_pos ho5], hT9, rfl⟩
        · refine at_aload_n C 0 dX7_readsTides_21 rfl ?_
          refine at_getf (v := .int (sI ((qPs (nqM M) k) 258 3))) C (obj_Ref G) (ci := 7) rfl inX7 (slot := 3) (by decide) qw_885 rfl rfl dX7_readsTides_22 ?_
          have hb11 : _ ≤ (qPs (nqM M) k) 258 3 ∧ (qPs (nqM M) k) 258 3 ≤ _ := tv hTk (k := 258) (j := 3) rfl
          refine at_ve (b := nqM M 258 3 + k) (g3) ?_
          refine at_sipush C dX7_readsTides_25 (by decide) (by decide) ?_
          refine at_icmp_ge C 41 dX7_readsTides_28 (by decide) (⟨by omega, by omega⟩) (⟨by omega, by omega⟩) (fun h12 => ?_) (fun h12 => ?_)
          · have hP : qPs (nqM M) k = qPt (nqM M) (nqV M).toNat := by unfold qPt; rw [show min (nqV M).toNat (999 - nqM M 258 3).toNat = k by omega]
            have hTP : TInv (qPt (nqM M) (nqV M).toNat) := TInv_e hP hTk
            refine at_m (M' := (qPt (nqM M) (nqV M).toNat)) (hP) ?_
            refine at_aload_n C 0 dX7_readsTides_41 rfl ?_
            refine at_call_i C (c_X7_ends l D G (M := (qPt (nqM M) (nqV M).toNat)) hTP) (As := []) (obj_Ref G) (ci := 7) rfl qw_1094 qw_1091 qw_8 qw_1093 qp_48 ⟨by decide, by decide, show (parseMethodDescriptor yX7_ends.desc).map (fun d => d.parameters.length) = some 0 by decide +kernel⟩ ⟨by decide, by decide⟩ ⟨Nat.zero_le _, Nat.zero_le _⟩ (Nat.le_of_ble_eq_true rfl) dX7_readsTides_42 rfl (fun r M' L' hp14 => ?_)
            obtain ⟨rfl, rfl, hT13, rfl⟩ := hp14
            exact hret _ _ _ _ _ dX7_readsTides_45 (sB_c (by unfold qpTides; rw [if_pos ho5])) ⟨by unfold qpTides; rw [if_pos ho5], hT13, rfl⟩
          · refine at_aload_n C 0 dX7_readsTides_31 rfl ?_
            refine at_call_v C (c_X7_passes l D G (M := (qPs (nqM M) k)) (by omega) hTk) (As := []) (obj_Ref G) (ci := 7) rfl qw_1125 qw_1122 qw_8 qw_1124 qp_55 ⟨by decide, by decide, show (parseMethodDescriptor yX7_passes.desc).map (fun d => d.parameters.length) = some 0 by decide +kernel⟩ ⟨by decide, by decide⟩ ⟨Nat.zero_le _, Nat.zero_le _⟩ (Nat.le_of_ble_eq_true rfl) dX7_readsTides_32 rfl (fun M' L' hp16 => ?_)
            obtain ⟨rfl, hT15, rfl⟩ := hp16
            refine at_iinc C 1 [(1, .int (sI ((nqV M - (k : Int)) + (-1)))), (0, .ref (G.1 (258)))] dX7_readsTides_35 rfl (by decide) rfl ?_
            refine at_goto C 17 dX7_readsTides_38 (by decide) ?_
            refine at_lv [1, 0] rfl ?_
            exact at_eq (ih17 (k + 1) (by omega) (by omega) (by omega) (hT15)) (lvc_s (lvc_i (by omega) rfl)) rfl (rfl) (rfl)
    refine at_lv [1, 0] rfl ?_
    exact at_eq (H17 _ 0 (Nat.lt_succ_self _) (by omega) (by omega) (hT4)) (lvc_s (lvc_i (by omega) rfl)) rfl (rfl) (rfl)
  · have ho18 : ¬ nqOk 1 99 M := by assumption
    have hT17 : TInv (qSk M) := TInv_e (if_neg ho18) hT1
    refine at_m (M' := (qSk M)) (if_neg ho18) ?_
    refine at_iconst C dX7_readsTides_10 ?_
    exact hret _ _ _ _ _ dX7_readsTides_11 (sB_f (by unfold qpTides; rw [if_neg ho18]; exact fun z => Bool.noConfusion z)) ⟨by unfold qpTides; rw [if_neg ho18], hT17, rfl⟩

set_option maxHeartbeats 4000000 in
set_option maxRecDepth 100000 in
theorem c_X7_readsCall (l : Launch) (D : va_G) (G : sG) {M : sM} {L : sL} (hT : TInv M) : sKi l D G yX7_readsCall cX7_readsCall 2 .boolean 7 153 [.ref (G.1 (258))] M L (fun r M' L' => r = sB ((qpCall M).1 = true) ∧ (M' = (qpCall M).2 ∧ TInv M' ∧ L = L')) := by
  refine sKz_go (by decide) (Nat.le_of_ble_eq_true rfl) ?_
  intro zp ze zs zm za zb zt zc Q C hret
  refine at_eq (lv' := [(0, .ref (G.1 (258)))]) (st' := []) (M' := M) (L' := L) ?_ rfl rfl rfl rfl
  have hqn := qn_r hT
  have hqc := qc_r hT
  have hqu := qu_r hT
  have hqt := qt_r hT
  have hqs := qs_r hT
  have hqo := qo_r hT
  have hqm := qm_r hT
  have hrq := rq_r hT
  have hsp := qsp_r hT
  refine at_aload_n C 0 dX7_readsCall_0 rfl ?_
  refine at_call_v C (c_X7_skip l D G (M := M) hT) (As := []) (obj_Ref G) (ci := 7) rfl qw_1064 qw_1061 qw_8 qw_1063 qp_42 ⟨by decide, by decide, show (parseMethodDescriptor yX7_skip.desc).map (fun d => d.parameters.length) = some 0 by decide +kernel⟩ ⟨by decide, by decide⟩ ⟨Nat.zero_le _, Nat.zero_le _⟩ (Nat.le_of_ble_eq_true rfl) dX7_readsCall_1 rfl (fun M' L' hp2 => ?_)
  obtain ⟨rfl, hT1, rfl⟩ := hp2
  refine at_aload_n C 0 dX7_readsCall_4 rfl ?_
  refine at_getf (v := .int (sI ((qSk M) 258 20))) C (obj_Ref G) (ci := 7) rfl inX7 (slot := 20) (by decide) qw_902 rfl rfl dX7_readsCall_5 ?_
  have hb3 : _ ≤ (qSk M) 258 20 ∧ (qSk M) 258 20 ≤ _ := tv hT1 (k := 258) (j := 20) rfl
  refine at_ve (b := (((qsp M) : Nat) : Int)) (sSt_eq) ?_
  refine at_istore_n C [(1, .int (sI ((((qsp M) : Nat) : Int)))), (0, .ref (G.1 (258)))] dX7_readsCall_8 (by decide) rfl ?_
  refine at_aload_n C 1 dX7_readsCall_9 rfl ?_
  refine at_iconst C dX7_readsCall_10 ?_
  refine at_aload_n C 1 dX7_readsCall_11 rfl ?_
  refine at_getf (v := .int (sI ((qSk M) 258 2))) C (obj_Ref G) (ci := 7) rfl inX7 (slot := 2) (by decide) qw_884 rfl rfl dX7_readsCall_12 ?_
  refine at_ve (b := M 258 2) (rfl) ?_
  have hb4 : _ ≤ M 258 2 ∧ M 258 2 ≤ _ := tv hT1 (k := 258) (j := 2) rfl
  refine at_iconst C dX7_readsCall_15 ?_
  refine at_isub C dX7_readsCall_16 ?_
  refine at_call_i C (c_X7_number l D G (M := (qSk M)) 0 ((M 258 2) - 1) ⟨by omega, by omega⟩ ⟨by omega, by omega⟩ hT1) (As := [.int (sI (0)), .int (sI ((M 258 2) - 1))]) (obj_Ref G) (ci := 7) rfl qw_1087 qw_1084 qw_8 qw_1086 qp_47 ⟨by decide, by decide, show (parseMethodDescriptor yX7_number.desc).map (fun d => d.parameters.length) = some 2 by decide +kernel⟩ ⟨by decide, by decide⟩ ⟨Nat.zero_le _, Nat.zero_le _⟩ (Nat.le_of_ble_eq_true rfl) dX7_readsCall_17 rfl (fun r M' L' hp6 => ?_)
  obtain ⟨rfl, rfl, hT5, rfl⟩ := hp6
  refine at_if_neB C 25 dX7_readsCall_20 (by decide) (fun h7 => ?_) (fun h7 => ?_)
  · have ho9 : nqOk 0 ((M 258 2) - 1) (qSk M) := by assumption
    have hT8 : TInv (nqM (qSk M)) := TInv_e (if_pos ho9) hT5
    refine at_m (M' := (nqM (qSk M))) (if_pos ho9) ?_
    have hb10 := nqV_r (M := (qSk M))
    have hz0 := ho9.2
    have hcc := qc_r hT
    refine at_aload_n C 1 dX7_readsCall_25 rfl ?_
    refine at_aload_n C 1 dX7_readsCall_26 rfl ?_
    refine at_getf (v := .int (sI ((nqM (qSk M)) 258 21))) C (obj_Ref G) (ci := 7) rfl inX7 (slot := 21) (by decide) qw_903 rfl rfl dX7_readsCall_27 ?_
    have hb11 : _ ≤ (nqM (qSk M)) 258 21 ∧ (nqM (qSk M)) 258 21 ≤ _ := tv hT8 (k := 258) (j := 21) rfl
    refine at_ve (b := (((nqV (qSk M)).toNat : Nat) : Int)) (by rw [nqM_21]; omega) ?_
    refine at_call_i C (c_X7_wouldTake l D G ((nqV (qSk M)).toNat) (by omega) hT8) (As := [.int (sI ((((nqV (qSk M)).toNat : Nat) : Int)))]) (obj_Ref G) (ci := 7) rfl qw_1140 qw_1137 qw_8 qw_1139 qp_58 ⟨by decide, by decide, show (parseMethodDescriptor yX7_wouldTake.desc).map (fun d => d.parameters.length) = some 1 by decide +kernel⟩ ⟨by decide, by decide⟩ ⟨Nat.zero_le _, Nat.zero_le _⟩ (Nat.le_of_ble_eq_true rfl) dX7_readsCall_30 rfl (fun r M' L' hp14 => ?_)
    obtain ⟨rfl, rfl, rfl⟩ := hp14
    have hb12 := qCho_r (nqM (qSk M)) ((nqV (qSk M)).toNat)
    have hb13 := qn_r hT8
    refine at_iconst C dX7_readsCall_33 ?_
    refine at_icmp_ne C 44 dX7_readsCall_34 (by decide) (⟨by omega, by omega⟩) (⟨by omega, by omega⟩) (fun h15 => ?_) (fun h15 => ?_)
    · have hcy : qCho (nqM (qSk M)) (nqV (qSk M)).toNat ≠ -1 := by omega
      refine at_aload_n C 1 dX7_readsCall_44 rfl ?_
      refine at_aload_n C 1 dX7_readsCall_45 rfl ?_
      refine at_getf (v := .int (sI ((nqM (qSk M)) 258 21))) C (obj_Ref G) (ci := 7) rfl inX7 (slot := 21) (by decide) qw_903 rfl rfl dX7_readsCall_46 ?_
      have hb16 : _ ≤ (nqM (qSk M)) 258 21 ∧ (nqM (qSk M)) 258 21 ≤ _ := tv hT8 (k := 258) (j := 21) rfl
      refine at_ve (b := (((nqV (qSk M)).toNat : Nat) : Int)) (by rw [nqM_21]; omega) ?_
      refine at_aload_n C 1 dX7_readsCall_49 rfl ?_
      refine at_aload_n C 1 dX7_readsCall_50 rfl ?_
      refine at_getf (v := .int (sI ((nqM (qSk M)) 258 21))) C (obj_Ref G) (ci := 7) rfl inX7 (slot := 21) (by decide) qw_903 rfl rfl dX7_readsCall_51 ?_
      have hb17 : _ ≤ (nqM (qSk M)) 258 21 ∧ (nqM (qSk M)) 258 21 ≤ _ := tv hT8 (k := 258) (j := 21) rfl
      refine at_ve (b := (((nqV (qSk M)).toNat : Nat) : Int)) (by rw [nqM_21]; omega) ?_
      refine at_call_i C (c_X7_wouldTake l D G ((nqV (qSk M)).toNat) (by omega) hT8) (As := [.int (sI ((((nqV (qSk M)).toNat : Nat) : Int)))]) (obj_Ref G) (ci := 7) rfl qw_1140 qw_1137 qw_8 qw_1139 qp_58 ⟨by decide, by decide, show (parseMethodDescriptor yX7_wouldTake.desc).map (fun d => d.parameters.length) = some 1 by decide +kernel⟩ ⟨by decide, by decide⟩ ⟨Nat.zero_le _, Nat.zero_le _⟩ (Nat.le_of_ble_eq_true rfl) dX7_readsCall_54 rfl (fun r M' L' hp20 => ?_)
      obtain ⟨rfl, rfl, rfl⟩ := hp20
      have hb18 := qCho_r (nqM (qSk M)) ((nqV (qSk M)).toNat)
      have hb19 := qn_r hT8
      refine at_ve (b := (((qCho (nqM (qSk M)) (nqV (qSk M)).toNat).toNat : Nat) : Int)) (by omega) ?_
      refine at_call_v C (c_X7_takesOne l D G ((nqV (qSk M)).toNat) ((qCho (nqM (qSk M)) (nqV (qSk M)).toNat).toNat) (by omega) (by omega) hT8) (As := [.int (sI ((((nqV (qSk M)).toNat : Nat) : Int))), .int (sI ((((qCho (nqM (qSk M)) (nqV (qSk M)).toNat).toNat : Nat) : Int)))]) (obj_Ref G) (ci := 7) rfl qw_1184 qw_1181 qw_8 qw_1183 qp_66 ⟨by decide, by decide, show (parseMethodDescriptor yX7_takesOne.desc).map (fun d => d.parameters.length) = some 2 by decide +kernel⟩ ⟨by decide, by decide⟩ ⟨Nat.zero_le _, Nat.zero_le _⟩ (Nat.le_of_ble_eq_true rfl) dX7_readsCall_57 rfl (fun M' L' hp22 => ?_)
      obtain ⟨rfl, hT21, rfl⟩ := hp22
      refine at_aload_n C 1 dX7_readsCall_60 rfl ?_
      refine at_call_i C (c_X7_ends l D G (M := (qTk (nqM (qSk M)) ((nqV (qSk M)).toNat) ((qCho (nqM (qSk M)) (nqV (qSk M)).toNat).toNat))) hT21) (As := []) (obj_Ref G) (ci := 7) rfl qw_1094 qw_1091 qw_8 qw_1093 qp_48 ⟨by decide, by decide, show (parseMethodDescriptor yX7_ends.desc).map (fun d => d.parameters.length) = some 0 by decide +kernel⟩ ⟨by decide, by decide⟩ ⟨Nat.zero_le _, Nat.zero_le _⟩ (Nat.le_of_ble_eq_true rfl) dX7_readsCall_61 rfl (fun r M' L' hp24 => ?_)
      obtain ⟨rfl, rfl, hT23, rfl⟩ := hp24
      exact hret _ _ _ _ _ dX7_readsCall_64 (sB_c (by unfold qpCall; rw [if_pos ho9, if_neg hcy])) ⟨by unfold qpCall; rw [if_pos ho9, if_neg hcy], hT23, rfl⟩
    · have hcn : qCho (nqM (qSk M)) (nqV (qSk M)).toNat = -1 := by omega
      refine at_aload_n C 1 dX7_readsCall_37 rfl ?_
      refine at_iload_n C 0 dX7_readsCall_38 rfl ?_
      refine at_putM (slot := 20) (ty := .int) C tyX7 (obj_Ref G) (ci := 7) rfl inX7 tyX7_ok nmX7 (by decide) qw_902 rfl rfl (by decide +kernel) rfl rfl (Nat.le_of_ble_eq_true rfl) rfl dX7_readsCall_39 ?_
      have hT25 : TInv (sSt (nqM (qSk M)) 258 20 (((qsp M) : Nat) : Int)) := tv_st hT8 (k := 258) (j := 20) rfl (⟨by omega, by omega⟩)
      refine at_iconst C dX7_readsCall_42 ?_
      exact hret _ _ _ _ _ dX7_readsCall_43 (sB_f (by unfold qpCall; rw [if_pos ho9, if_pos hcn]; exact fun z => Bool.noConfusion z)) ⟨by unfold qpCall; rw [if_pos ho9, if_pos hcn], hT25, rfl⟩
  · have ho27 : ¬ nqOk 0 ((M 258 2) - 1) (qSk M) := by assumption
    have hT26 : TInv (qSk (qSk M)) := TInv_e (if_neg ho27) hT5
    refine at_m (M' := (qSk (qSk M))) (if_neg ho27) ?_
    refine at_iconst C dX7_readsCall_23 ?_
    exact hret _ _ _ _ _ dX7_readsCall_24 (sB_f (by unfold qpCall; rw [if_neg ho27]; exact fun z => Bool.noConfusion z)) ⟨by unfold qpCall; rw [if_neg ho27], hT26, rfl⟩

set_option maxHeartbeats 4000000 in
set_option maxRecDepth 100000 in
theorem c_X7_readsItem (l : Launch) (D : va_G) (G : sG) {M : sM} {L : sL} (hz : M 258 23 = 0) (hT : TInv M) : sKi l D G yX7_readsItem cX7_readsItem 2 .boolean 8 174 [.ref (G.1 (258))] M L (fun r M' L' => r = sB ((qpItem M).1 = true) ∧ (M' = (qpItem M).2 ∧ TInv M' ∧ L = L')) := by
  refine sKz_go (by decide) (Nat.le_of_ble_eq_true rfl) ?_
  intro zp ze zs zm za zb zt zc Q C hret
  refine at_eq (lv' := [(0, .ref (G.1 (258)))]) (st' := []) (M' := M) (L' := L) ?_ rfl rfl rfl rfl
  have hqn := qn_r hT
  have hqc := qc_r hT
  have hqu := qu_r hT
  have hqt := qt_r hT
  have hqs := qs_r hT
  have hqo := qo_r hT
  have hqm := qm_r hT
  have hrq := rq_r hT
  refine at_aload_n C 0 dX7_readsItem_0 rfl ?_
  refine at_call_i C (c_X7_wordHere l D G (M := M) hT) (As := []) (obj_Ref G) (ci := 7) rfl qw_1072 qw_1069 qw_8 qw_1071 qp_44 ⟨by decide, by decide, show (parseMethodDescriptor yX7_wordHere.desc).map (fun d => d.parameters.length) = some 0 by decide +kernel⟩ ⟨by decide, by decide⟩ ⟨Nat.zero_le _, Nat.zero_le _⟩ (Nat.le_of_ble_eq_true rfl) dX7_readsItem_1 rfl (fun r M' L' hp2 => ?_)
  obtain ⟨rfl, rfl, rfl⟩ := hp2
  have hb1 := qWd_r M
  refine at_istore_n C [(1, .int (sI (qWd M))), (0, .ref (G.1 (258)))] dX7_readsItem_4 (by decide) rfl ?_
  refine at_iload_n C 0 dX7_readsItem_5 rfl ?_
  refine at_iconst C dX7_readsItem_6 ?_
  refine at_icmp_lt C 38 dX7_readsItem_7 (by decide) (⟨by omega, by omega⟩) (⟨by omega, by omega⟩) (fun h3 => ?_) (fun h3 => ?_)
  · refine at_iconst C dX7_readsItem_38 ?_
    exact hret _ _ _ _ _ dX7_readsItem_39 (sB_f (by unfold qpItem; rw [if_pos (by omega)]; exact fun z => Bool.noConfusion z)) ⟨by unfold qpItem; rw [if_pos (by omega)], hT, rfl⟩
  · refine at_iload_n C 0 dX7_readsItem_10 rfl ?_
    refine at_iconst C dX7_readsItem_11 ?_
    refine at_icmp_ne C 24 dX7_readsItem_12 (by decide) (⟨by omega, by omega⟩) (⟨by omega, by omega⟩) (fun h4 => ?_) (fun h4 => ?_)
    · refine at_iload_n C 0 dX7_readsItem_24 rfl ?_
      refine at_iconst C dX7_readsItem_25 ?_
      refine at_icmp_ne C 40 dX7_readsItem_26 (by decide) (⟨by omega, by omega⟩) (⟨by omega, by omega⟩) (fun h5 => ?_) (fun h5 => ?_)
      · refine at_aload_n C 1 dX7_readsItem_40 rfl ?_
        refine at_dup C dX7_readsItem_41 rfl ?_
        refine at_getf (v := .int (sI (M 258 20))) C (obj_Ref G) (ci := 7) rfl inX7 (slot := 20) (by decide) qw_902 rfl rfl dX7_readsItem_42 ?_
        have hb6 : _ ≤ M 258 20 ∧ M 258 20 ≤ _ := tv hT (k := 258) (j := 20) rfl
        refine at_ve (b := (((rq M) : Nat) : Int)) (hrq.2) ?_
        refine at_aload_n C 1 dX7_readsItem_45 rfl ?_
        refine at_call_i C (c_X7_wordSize l D G (M := M) hT) (As := []) (obj_Ref G) (ci := 7) rfl qw_1076 qw_1073 qw_8 qw_1075 qp_45 ⟨by decide, by decide, show (parseMethodDescriptor yX7_wordSize.desc).map (fun d => d.parameters.length) = some 0 by decide +kernel⟩ ⟨by decide, by decide⟩ ⟨Nat.zero_le _, Nat.zero_le _⟩ (Nat.le_of_ble_eq_true rfl) dX7_readsItem_46 rfl (fun r M' L' hp8 => ?_)
        obtain ⟨rfl, rfl, rfl⟩ := hp8
        have hb7 := wLn_r hT
        refine at_iadd C dX7_readsItem_49 ?_
        refine at_ve (b := (((rq M + wLn M) : Nat) : Int)) (by omega) ?_
        refine at_putM (slot := 20) (ty := .int) C tyX7 (obj_Ref G) (ci := 7) rfl inX7 tyX7_ok nmX7 (by decide) qw_902 rfl rfl (by decide +kernel) rfl rfl (Nat.le_of_ble_eq_true rfl) rfl dX7_readsItem_50 ?_
        have hT9 : TInv (sSt M 258 20 (((rq M + wLn M) : Nat) : Int)) := tv_st hT (k := 258) (j := 20) rfl (⟨by omega, by omega⟩)
        have hz1 : (sSt M 258 20 ((rq M + wLn M : Nat) : Int)) 258 23 = 0 := hz
        have hs1 : (sSt M 258 20 ((rq M + wLn M : Nat) : Int)) 258 1 = M 258 1 := rfl
        have hs2 : (sSt M 258 20 ((rq M + wLn M : Nat) : Int)) 258 2 = M 258 2 := rfl
        refine at_iload_n C 0 dX7_readsItem_53 rfl ?_
        refine at_iconst C dX7_readsItem_54 ?_
        refine at_icmp_ne C 65 dX7_readsItem_55 (by decide) (⟨by omega, by omega⟩) (⟨by omega, by omega⟩) (fun h10 => ?_) (fun h10 => ?_)
        · refine at_iload_n C 0 dX7_readsItem_65 rfl ?_
          refine at_iconst C dX7_readsItem_66 ?_
          refine at_icmp_ne C 77 dX7_readsItem_67 (by decide) (⟨by omega, by omega⟩) (⟨by omega, by omega⟩) (fun h11 => ?_) (fun h11 => ?_)
          · refine at_iload_n C 0 dX7_readsItem_77 rfl ?_
            refine at_iconst C dX7_readsItem_78 ?_
            refine at_icmp_ne C 89 dX7_readsItem_79 (by decide) (⟨by omega, by omega⟩) (⟨by omega, by omega⟩) (fun h12 => ?_) (fun h12 => ?_)
            · refine at_iload_n C 0 dX7_readsItem_89 rfl ?_
              refine at_iconst C dX7_readsItem_90 ?_
              refine at_icmp_ne C 101 dX7_readsItem_91 (by decide) (⟨by omega, by omega⟩) (⟨by omega, by omega⟩) (fun h13 => ?_) (fun h13 => ?_)
              · refine at_aload_n C 1 dX7_readsItem_101 rfl ?_
                refine at_call_i C (c_X7_readsTides l D G (M := (sSt M 258 20 (((rq M + wLn M) : Nat) : Int))) hT9) (As := []) (obj_Ref G) (ci := 7) rfl qw_1188 qw_1185 qw_8 qw_1187 qp_67 ⟨by decide, by decide, show (parseMethodDescriptor yX7_readsTides.desc).map (fun d => d.parameters.length) = some 0 by decide +kernel⟩ ⟨by decide, by decide⟩ ⟨Nat.zero_le _, Nat.zero_le _⟩ (Nat.le_of_ble_eq_true rfl) dX7_readsItem_102 rfl (fun r M' L' hp15 => ?_)
                obtain ⟨rfl, rfl, hT14, rfl⟩ := hp15
                exact hret _ _ _ _ _ dX7_readsItem_105 (sB_c (by unfold qpItem; rw [if_neg (by omega), if_neg (by omega), if_neg (by omega), if_neg (by omega), if_neg (by omega)])) ⟨by unfold qpItem; rw [if_neg (by omega), if_neg (by omega), if_neg (by omega), if_neg (by omega), if_neg (by omega)], hT14, rfl⟩
              · refine at_aload_n C 1 dX7_readsItem_94 rfl ?_
                refine at_call_i C (c_X7_readsCall l D G (M := (sSt M 258 20 (((rq M + wLn M) : Nat) : Int))) hT9) (As := []) (obj_Ref G) (ci := 7) rfl qw_1136 qw_1133 qw_8 qw_1135 qp_57 ⟨by decide, by decide, show (parseMethodDescriptor yX7_readsCall.desc).map (fun d => d.parameters.length) = some 0 by decide +kernel⟩ ⟨by decide, by decide⟩ ⟨Nat.zero_le _, Nat.zero_le _⟩ (Nat.le_of_ble_eq_true rfl) dX7_readsItem_95 rfl (fun r M' L' hp17 => ?_)
                obtain ⟨rfl, rfl, hT16, rfl⟩ := hp17
                refine at_goto C 105 dX7_readsItem_98 (by decide) ?_
                exact hret _ _ _ _ _ dX7_readsItem_105 (sB_c (by unfold qpItem; rw [if_neg (by omega), if_neg (by omega), if_neg (by omega), if_neg (by omega), if_pos (by omega)])) ⟨by unfold qpItem; rw [if_neg (by omega), if_neg (by omega), if_neg (by omega), if_neg (by omega), if_pos (by omega)], hT16, rfl⟩
            · refine at_aload_n C 1 dX7_readsItem_82 rfl ?_
              refine at_call_i C (c_X7_readsWalk l D G (M := (sSt M 258 20 (((rq M + wLn M) : Nat) : Int))) (by first | assumption | omega) hT9) (As := []) (obj_Ref G) (ci := 7) rfl qw_1110 qw_1107 qw_8 qw_1109 qp_52 ⟨by decide, by decide, show (parseMethodDescriptor yX7_readsWalk.desc).map (fun d => d.parameters.length) = some 0 by decide +kernel⟩ ⟨by decide, by decide⟩ ⟨Nat.zero_le _, Nat.zero_le _⟩ (Nat.le_of_ble_eq_true rfl) dX7_readsItem_83 rfl (fun r M' L' hp19 => ?_)
              obtain ⟨rfl, rfl, hT18, rfl⟩ := hp19
              refine at_goto C 105 dX7_readsItem_86 (by decide) ?_
              exact hret _ _ _ _ _ dX7_readsItem_105 (sB_c (by unfold qpItem; rw [if_neg (by omega), if_neg (by omega), if_neg (by omega), if_pos (by omega)])) ⟨by unfold qpItem; rw [if_neg (by omega), if_neg (by omega), if_neg (by omega), if_pos (by omega)], hT18, rfl⟩
          · refine at_aload_n C 1 dX7_readsItem_70 rfl ?_
            refine at_call_i C (c_X7_readsCaller l D G (M := (sSt M 258 20 (((rq M + wLn M) : Nat) : Int))) (by first | assumption | omega) hT9) (As := []) (obj_Ref G) (ci := 7) rfl qw_1106 qw_1103 qw_8 qw_1105 qp_51 ⟨by decide, by decide, show (parseMethodDescriptor yX7_readsCaller.desc).map (fun d => d.parameters.length) = some 0 by decide +kernel⟩ ⟨by decide, by decide⟩ ⟨Nat.zero_le _, Nat.zero_le _⟩ (Nat.le_of_ble_eq_true rfl) dX7_readsItem_71 rfl (fun r M' L' hp21 => ?_)
            obtain ⟨rfl, rfl, hT20, rfl⟩ := hp21
            refine at_goto C 105 dX7_readsItem_74 (by decide) ?_
            exact hret _ _ _ _ _ dX7_readsItem_105 (sB_c (by unfold qpItem; rw [if_neg (by omega), if_neg (by omega), if_pos (by omega)])) ⟨by unfold qpItem; rw [if_neg (by omega), if_neg (by omega), if_pos (by omega)], hT20, rfl⟩
        · refine at_aload_n C 1 dX7_readsItem_58 rfl ?_
          refine at_call_i C (c_X7_readsSoul l D G (M := (sSt M 258 20 (((rq M + wLn M) : Nat) : Int))) (by first | assumption | omega) hT9) (As := []) (obj_Ref G) (ci := 7) rfl qw_1102 qw_1099 qw_8 qw_1101 qp_50 ⟨by decide, by decide, show (parseMethodDescriptor yX7_readsSoul.desc).map (fun d => d.parameters.length) = some 0 by decide +kernel⟩ ⟨by decide, by decide⟩ ⟨Nat.zero_le _, Nat.zero_le _⟩ (Nat.le_of_ble_eq_true rfl) dX7_readsItem_59 rfl (fun r M' L' hp23 => ?_)
          obtain ⟨rfl, rfl, hT22, rfl⟩ := hp23
          refine at_goto C 105 dX7_readsItem_62 (by decide) ?_
          exact hret _ _ _ _ _ dX7_readsItem_105 (sB_c (by unfold qpItem; rw [if_neg (by omega), if_pos (by omega)])) ⟨by unfold qpItem; rw [if_neg (by omega), if_pos (by omega)], hT22, rfl⟩
      · refine at_aload_n C 1 dX7_readsItem_29 rfl ?_
        refine at_getf (v := .int (sI (M 258 2))) C (obj_Ref G) (ci := 7) rfl inX7 (slot := 2) (by decide) qw_884 rfl rfl dX7_readsItem_30 ?_
        have hb24 : _ ≤ M 258 2 ∧ M 258 2 ≤ _ := tv hT (k := 258) (j := 2) rfl
        refine at_ve (b := (((qc M) : Nat) : Int)) (hqc.2) ?_
        refine at_bipush C dX7_readsItem_33 (by decide) (by decide) ?_
        refine at_icmp_ne C 40 dX7_readsItem_35 (by decide) (⟨by omega, by omega⟩) (⟨by omega, by omega⟩) (fun h25 => ?_) (fun h25 => ?_)
        · refine at_aload_n C 1 dX7_readsItem_40 rfl ?_
          refine at_dup C dX7_readsItem_41 rfl ?_
          refine at_getf (v := .int (sI (M 258 20))) C (obj_Ref G) (ci := 7) rfl inX7 (slot := 20) (by decide) qw_902 rfl rfl dX7_readsItem_42 ?_
          have hb26 : _ ≤ M 258 20 ∧ M 258 20 ≤ _ := tv hT (k := 258) (j := 20) rfl
          refine at_ve (b := (((rq M) : Nat) : Int)) (hrq.2) ?_
          refine at_aload_n C 1 dX7_readsItem_45 rfl ?_
          refine at_call_i C (c_X7_wordSize l D G (M := M) hT) (As := []) (obj_Ref G) (ci := 7) rfl qw_1076 qw_1073 qw_8 qw_1075 qp_45 ⟨by decide, by decide, show (parseMethodDescriptor yX7_wordSize.desc).map (fun d => d.parameters.length) = some 0 by decide +kernel⟩ ⟨by decide, by decide⟩ ⟨Nat.zero_le _, Nat.zero_le _⟩ (Nat.le_of_ble_eq_true rfl) dX7_readsItem_46 rfl (fun r M' L' hp28 => ?_)
          obtain ⟨rfl, rfl, rfl⟩ := hp28
          have hb27 := wLn_r hT
          refine at_iadd C dX7_readsItem_49 ?_
          refine at_ve (b := (((rq M + wLn M) : Nat) : Int)) (by omega) ?_
          refine at_putM (slot := 20) (ty := .int) C tyX7 (obj_Ref G) (ci := 7) rfl inX7 tyX7_ok nmX7 (by decide) qw_902 rfl rfl (by decide +kernel) rfl rfl (Nat.le_of_ble_eq_true rfl) rfl dX7_readsItem_50 ?_
          have hT29 : TInv (sSt M 258 20 (((rq M + wLn M) : Nat) : Int)) := tv_st hT (k := 258) (j := 20) rfl (⟨by omega, by omega⟩)
          have hz1 : (sSt M 258 20 ((rq M + wLn M : Nat) : Int)) 258 23 = 0 := hz
          have hs1 : (sSt M 258 20 ((rq M + wLn M : Nat) : Int)) 258 1 = M 258 1 := rfl
          have hs2 : (sSt M 258 20 ((rq M + wLn M : Nat) : Int)) 258 2 = M 258 2 := rfl
          refine at_iload_n C 0 dX7_readsItem_53 rfl ?_
          refine at_iconst C dX7_readsItem_54 ?_
          refine at_icmp_ne C 65 dX7_readsItem_55 (by decide) (⟨by omega, by omega⟩) (⟨by omega, by omega⟩) (fun h30 => ?_) (fun h30 => ?_)
          · refine at_iload_n C 0 dX7_readsItem_65 rfl ?_
            refine at_iconst C dX7_readsItem_66 ?_
            refine at_icmp_ne C 77 dX7_readsItem_67 (by decide) (⟨by omega, by omega⟩) (⟨by omega, by omega⟩) (fun h31 => ?_) (fun h31 => ?_)
            · refine at_iload_n C 0 dX7_readsItem_77 rfl ?_
              refine at_iconst C dX7_readsItem_78 ?_
              refine at_icmp_ne C 89 dX7_readsItem_79 (by decide) (⟨by omega, by omega⟩) (⟨by omega, by omega⟩) (fun h32 => ?_) (fun h32 => ?_)
              · refine at_iload_n C 0 dX7_readsItem_89 rfl ?_
                refine at_iconst C dX7_readsItem_90 ?_
                refine at_icmp_ne C 101 dX7_readsItem_91 (by decide) (⟨by omega, by omega⟩) (⟨by omega, by omega⟩) (fun h33 => ?_) (fun h33 => ?_)
                · refine at_aload_n C 1 dX7_readsItem_101 rfl ?_
                  refine at_call_i C (c_X7_readsTides l D G (M := (sSt M 258 20 (((rq M + wLn M) : Nat) : Int))) hT29) (As := []) (obj_Ref G) (ci := 7) rfl qw_1188 qw_1185 qw_8 qw_1187 qp_67 ⟨by decide, by decide, show (parseMethodDescriptor yX7_readsTides.desc).map (fun d => d.parameters.length) = some 0 by decide +kernel⟩ ⟨by decide, by decide⟩ ⟨Nat.zero_le _, Nat.zero_le _⟩ (Nat.le_of_ble_eq_true rfl) dX7_readsItem_102 rfl (fun r M' L' hp35 => ?_)
                  obtain ⟨rfl, rfl, hT34, rfl⟩ := hp35
                  exact hret _ _ _ _ _ dX7_readsItem_105 (sB_c (by unfold qpItem; rw [if_neg (by omega), if_neg (by omega), if_neg (by omega), if_neg (by omega), if_neg (by omega)])) ⟨by unfold qpItem; rw [if_neg (by omega), if_neg (by omega), if_neg (by omega), if_neg (by omega), if_neg (by omega)], hT34, rfl⟩
                · refine at_aload_n C 1 dX7_readsItem_94 rfl ?_
                  refine at_call_i C (c_X7_readsCall l D G (M := (sSt M 258 20 (((rq M + wLn M) : Nat) : Int))) hT29) (As := []) (obj_Ref G) (ci := 7) rfl qw_1136 qw_1133 qw_8 qw_1135 qp_57 ⟨by decide, by decide, show (parseMethodDescriptor yX7_readsCall.desc).map (fun d => d.parameters.length) = some 0 by decide +kernel⟩ ⟨by decide, by decide⟩ ⟨Nat.zero_le _, Nat.zero_le _⟩ (Nat.le_of_ble_eq_true rfl) dX7_readsItem_95 rfl (fun r M' L' hp37 => ?_)
                  obtain ⟨rfl, rfl, hT36, rfl⟩ := hp37
                  refine at_goto C 105 dX7_readsItem_98 (by decide) ?_
                  exact hret _ _ _ _ _ dX7_readsItem_105 (sB_c (by unfold qpItem; rw [if_neg (by omega), if_neg (by omega), if_neg (by omega), if_neg (by omega), if_pos (by omega)])) ⟨by unfold qpItem; rw [if_neg (by omega), if_neg (by omega), if_neg (by omega), if_neg (by omega), if_pos (by omega)], hT36, rfl⟩
              · refine at_aload_n C 1 dX7_readsItem_82 rfl ?_
                refine at_call_i C (c_X7_readsWalk l D G (M := (sSt M 258 20 (((rq M + wLn M) : Nat) : Int))) (by first | assumption | omega) hT29) (As := []) (obj_Ref G) (ci := 7) rfl qw_1110 qw_1107 qw_8 qw_1109 qp_52 ⟨by decide, by decide, show (parseMethodDescriptor yX7_readsWalk.desc).map (fun d => d.parameters.length) = some 0 by decide +kernel⟩ ⟨by decide, by decide⟩ ⟨Nat.zero_le _, Nat.zero_le _⟩ (Nat.le_of_ble_eq_true rfl) dX7_readsItem_83 rfl (fun r M' L' hp39 => ?_)
                obtain ⟨rfl, rfl, hT38, rfl⟩ := hp39
                refine at_goto C 105 dX7_readsItem_86 (by decide) ?_
                exact hret _ _ _ _ _ dX7_readsItem_105 (sB_c (by unfold qpItem; rw [if_neg (by omega), if_neg (by omega), if_neg (by omega), if_pos (by omega)])) ⟨by unfold qpItem; rw [if_neg (by omega), if_neg (by omega), if_neg (by omega), if_pos (by omega)], hT38, rfl⟩
            · refine at_aload_n C 1 dX7_readsItem_70 rfl ?_
              refine at_call_i C (c_X7_readsCaller l D G (M := (sSt M 258 20 (((rq M + wLn M) : Nat) : Int))) (by first | assumption | omega) hT29) (As := []) (obj_Ref G) (ci := 7) rfl qw_1106 qw_1103 qw_8 qw_1105 qp_51 ⟨by decide, by decide, show (parseMethodDescriptor yX7_readsCaller.desc).map (fun d => d.parameters.length) = some 0 by decide +kernel⟩ ⟨by decide, by decide⟩ ⟨Nat.zero_le _, Nat.zero_le _⟩ (Nat.le_of_ble_eq_true rfl) dX7_readsItem_71 rfl (fun r M' L' hp41 => ?_)
              obtain ⟨rfl, rfl, hT40, rfl⟩ := hp41
              refine at_goto C 105 dX7_readsItem_74 (by decide) ?_
              exact hret _ _ _ _ _ dX7_readsItem_105 (sB_c (by unfold qpItem; rw [if_neg (by omega), if_neg (by omega), if_pos (by omega)])) ⟨by unfold qpItem; rw [if_neg (by omega), if_neg (by omega), if_pos (by omega)], hT40, rfl⟩
          · refine at_aload_n C 1 dX7_readsItem_58 rfl ?_
            refine at_call_i C (c_X7_readsSoul l D G (M := (sSt M 258 20 (((rq M + wLn M) : Nat) : Int))) (by first | assumption | omega) hT29) (As := []) (obj_Ref G) (ci := 7) rfl qw_1102 qw_1099 qw_8 qw_1101 qp_50 ⟨by decide, by decide, show (parseMethodDescriptor yX7_readsSoul.desc).map (fun d => d.parameters.length) = some 0 by decide +kernel⟩ ⟨by decide, by decide⟩ ⟨Nat.zero_le _, Nat.zero_le _⟩ (Nat.le_of_ble_eq_true rfl) dX7_readsItem_59 rfl (fun r M' L' hp43 => ?_)
            obtain ⟨rfl, rfl, hT42, rfl⟩ := hp43
            refine at_goto C 105 dX7_readsItem_62 (by decide) ?_
            exact hret _ _ _ _ _ dX7_readsItem_105 (sB_c (by unfold qpItem; rw [if_neg (by omega), if_pos (by omega)])) ⟨by unfold qpItem; rw [if_neg (by omega), if_pos (by omega)], hT42, rfl⟩
        · refine at_iconst C dX7_readsItem_38 ?_
          exact hret _ _ _ _ _ dX7_readsItem_39 (sB_f (by unfold qpItem; rw [if_pos (by omega)]; exact fun z => Bool.noConfusion z)) ⟨by unfold qpItem; rw [if_pos (by omega)], hT, rfl⟩
    · refine at_aload_n C 1 dX7_readsItem_15 rfl ?_
      refine at_getf (v := .int (sI (M 258 1))) C (obj_Ref G) (ci := 7) rfl inX7 (slot := 1) (by decide) qw_883 rfl rfl dX7_readsItem_16 ?_
      have hb44 : _ ≤ M 258 1 ∧ M 258 1 ≤ _ := tv hT (k := 258) (j := 1) rfl
      refine at_ve (b := (((qn M) : Nat) : Int)) (hqn.2) ?_
      refine at_bipush C dX7_readsItem_19 (by decide) (by decide) ?_
      refine at_icmp_eq C 38 dX7_readsItem_21 (by decide) (⟨by omega, by omega⟩) (⟨by omega, by omega⟩) (fun h45 => ?_) (fun h45 => ?_)
      · refine at_iconst C dX7_readsItem_38 ?_
        exact hret _ _ _ _ _ dX7_readsItem_39 (sB_f (by unfold qpItem; rw [if_pos (by omega)]; exact fun z => Bool.noConfusion z)) ⟨by unfold qpItem; rw [if_pos (by omega)], hT, rfl⟩
      · refine at_iload_n C 0 dX7_readsItem_24 rfl ?_
        refine at_iconst C dX7_readsItem_25 ?_
        refine at_icmp_ne C 40 dX7_readsItem_26 (by decide) (⟨by omega, by omega⟩) (⟨by omega, by omega⟩) (fun h46 => ?_) (fun h46 => ?_)
        · refine at_aload_n C 1 dX7_readsItem_40 rfl ?_
          refine at_dup C dX7_readsItem_41 rfl ?_
          refine at_getf (v := .int (sI (M 258 20))) C (obj_Ref G) (ci := 7) rfl inX7 (slot := 20) (by decide) qw_902 rfl rfl dX7_readsItem_42 ?_
          have hb47 : _ ≤ M 258 20 ∧ M 258 20 ≤ _ := tv hT (k := 258) (j := 20) rfl
          refine at_ve (b := (((rq M) : Nat) : Int)) (hrq.2) ?_
          refine at_aload_n C 1 dX7_readsItem_45 rfl ?_
          refine at_call_i C (c_X7_wordSize l D G (M := M) hT) (As := []) (obj_Ref G) (ci := 7) rfl qw_1076 qw_1073 qw_8 qw_1075 qp_45 ⟨by decide, by decide, show (parseMethodDescriptor yX7_wordSize.desc).map (fun d => d.parameters.length) = some 0 by decide +kernel⟩ ⟨by decide, by decide⟩ ⟨Nat.zero_le _, Nat.zero_le _⟩ (Nat.le_of_ble_eq_true rfl) dX7_readsItem_46 rfl (fun r M' L' hp49 => ?_)
          obtain ⟨rfl, rfl, rfl⟩ := hp49
          have hb48 := wLn_r hT
          refine at_iadd C dX7_readsItem_49 ?_
          refine at_ve (b := (((rq M + wLn M) : Nat) : Int)) (by omega) ?_
          refine at_putM (slot := 20) (ty := .int) C tyX7 (obj_Ref G) (ci := 7) rfl inX7 tyX7_ok nmX7 (by decide) qw_902 rfl rfl (by decide +kernel) rfl rfl (Nat.le_of_ble_eq_true rfl) rfl dX7_readsItem_50 ?_
          have hT50 : TInv (sSt M 258 20 (((rq M + wLn M) : Nat) : Int)) := tv_st hT (k := 258) (j := 20) rfl (⟨by omega, by omega⟩)
          have hz1 : (sSt M 258 20 ((rq M + wLn M : Nat) : Int)) 258 23 = 0 := hz
          have hs1 : (sSt M 258 20 ((rq M + wLn M : Nat) : Int)) 258 1 = M 258 1 := rfl
          have hs2 : (sSt M 258 20 ((rq M + wLn M : Nat) : Int)) 258 2 = M 258 2 := rfl
          refine at_iload_n C 0 dX7_readsItem_53 rfl ?_
          refine at_iconst C dX7_readsItem_54 ?_
          refine at_icmp_ne C 65 dX7_readsItem_55 (by decide) (⟨by omega, by omega⟩) (⟨by omega, by omega⟩) (fun h51 => ?_) (fun h51 => ?_)
          · refine at_iload_n C 0 dX7_readsItem_65 rfl ?_
            refine at_iconst C dX7_readsItem_66 ?_
            refine at_icmp_ne C 77 dX7_readsItem_67 (by decide) (⟨by omega, by omega⟩) (⟨by omega, by omega⟩) (fun h52 => ?_) (fun h52 => ?_)
            · refine at_iload_n C 0 dX7_readsItem_77 rfl ?_
              refine at_iconst C dX7_readsItem_78 ?_
              refine at_icmp_ne C 89 dX7_readsItem_79 (by decide) (⟨by omega, by omega⟩) (⟨by omega, by omega⟩) (fun h53 => ?_) (fun h53 => ?_)
              · refine at_iload_n C 0 dX7_readsItem_89 rfl ?_
                refine at_iconst C dX7_readsItem_90 ?_
                refine at_icmp_ne C 101 dX7_readsItem_91 (by decide) (⟨by omega, by omega⟩) (⟨by omega, by omega⟩) (fun h54 => ?_) (fun h54 => ?_)
                · refine at_aload_n C 1 dX7_readsItem_101 rfl ?_
                  refine at_call_i C (c_X7_readsTides l D G (M := (sSt M 258 20 (((rq M + wLn M) : Nat) : Int))) hT50) (As := []) (obj_Ref G) (ci := 7) rfl qw_1188 qw_1185 qw_8 qw_1187 qp_67 ⟨by decide, by decide, show (parseMethodDescriptor yX7_readsTides.desc).map (fun d => d.parameters.length) = some 0 by decide +kernel⟩ ⟨by decide, by decide⟩ ⟨Nat.zero_le _, Nat.zero_le _⟩ (Nat.le_of_ble_eq_true rfl) dX7_readsItem_102 rfl (fun r M' L' hp56 => ?_)
                  obtain ⟨rfl, rfl, hT55, rfl⟩ := hp56
                  exact hret _ _ _ _ _ dX7_readsItem_105 (sB_c (by unfold qpItem; rw [if_neg (by omega), if_neg (by omega), if_neg (by omega), if_neg (by omega), if_neg (by omega)])) ⟨by unfold qpItem; rw [if_neg (by omega), if_neg (by omega), if_neg (by omega), if_neg (by omega), if_neg (by omega)], hT55, rfl⟩
                · refine at_aload_n C 1 dX7_readsItem_94 rfl ?_
                  refine at_call_i C (c_X7_readsCall l D G (M := (sSt M 258 20 (((rq M + wLn M) : Nat) : Int))) hT50) (As := []) (obj_Ref G) (ci := 7) rfl qw_1136 qw_1133 qw_8 qw_1135 qp_57 ⟨by decide, by decide, show (parseMethodDescriptor yX7_readsCall.desc).map (fun d => d.parameters.length) = some 0 by decide +kernel⟩ ⟨by decide, by decide⟩ ⟨Nat.zero_le _, Nat.zero_le _⟩ (Nat.le_of_ble_eq_true rfl) dX7_readsItem_95 rfl (fun r M' L' hp58 => ?_)
                  obtain ⟨rfl, rfl, hT57, rfl⟩ := hp58
                  refine at_goto C 105 dX7_readsItem_98 (by decide) ?_
                  exact hret _ _ _ _ _ dX7_readsItem_105 (sB_c (by unfold qpItem; rw [if_neg (by omega), if_neg (by omega), if_neg (by omega), if_neg (by omega), if_pos (by omega)])) ⟨by unfold qpItem; rw [if_neg (by omega), if_neg (by omega), if_neg (by omega), if_neg (by omega), if_pos (by omega)], hT57, rfl⟩
              · refine at_aload_n C 1 dX7_readsItem_82 rfl ?_
                refine at_call_i C (c_X7_readsWalk l D G (M := (sSt M 258 20 (((rq M + wLn M) : Nat) : Int))) (by first | assumption | omega) hT50) (As := []) (obj_Ref G) (ci := 7) rfl qw_1110 qw_1107 qw_8 qw_1109 qp_52 ⟨by decide, by decide, show (parseMethodDescriptor yX7_readsWalk.desc).map (fun d => d.parameters.length) = some 0 by decide +kernel⟩ ⟨by decide, by decide⟩ ⟨Nat.zero_le _, Nat.zero_le _⟩ (Nat.le_of_ble_eq_true rfl) dX7_readsItem_83 rfl (fun r M' L' hp60 => ?_)
                obtain ⟨rfl, rfl, hT59, rfl⟩ := hp60
                refine at_goto C 105 dX7_readsItem_86 (by decide) ?_
                exact hret _ _ _ _ _ dX7_readsItem_105 (sB_c (by unfold qpItem; rw [if_neg (by omega), if_neg (by omega), if_neg (by omega), if_pos (by omega)])) ⟨by unfold qpItem; rw [if_neg (by omega), if_neg (by omega), if_neg (by omega), if_pos (by omega)], hT59, rfl⟩
            · refine at_aload_n C 1 dX7_readsItem_70 rfl ?_
              refine at_call_i C (c_X7_readsCaller l D G (M := (sSt M 258 20 (((rq M + wLn M) : Nat) : Int))) (by first | assumption | omega) hT50) (As := []) (obj_Ref G) (ci := 7) rfl qw_1106 qw_1103 qw_8 qw_1105 qp_51 ⟨by decide, by decide, show (parseMethodDescriptor yX7_readsCaller.desc).map (fun d => d.parameters.length) = some 0 by decide +kernel⟩ ⟨by decide, by decide⟩ ⟨Nat.zero_le _, Nat.zero_le _⟩ (Nat.le_of_ble_eq_true rfl) dX7_readsItem_71 rfl (fun r M' L' hp62 => ?_)
              obtain ⟨rfl, rfl, hT61, rfl⟩ := hp62
              refine at_goto C 105 dX7_readsItem_74 (by decide) ?_
              exact hret _ _ _ _ _ dX7_readsItem_105 (sB_c (by unfold qpItem; rw [if_neg (by omega), if_neg (by omega), if_pos (by omega)])) ⟨by unfold qpItem; rw [if_neg (by omega), if_neg (by omega), if_pos (by omega)], hT61, rfl⟩
          · refine at_aload_n C 1 dX7_readsItem_58 rfl ?_
            refine at_call_i C (c_X7_readsSoul l D G (M := (sSt M 258 20 (((rq M + wLn M) : Nat) : Int))) (by first | assumption | omega) hT50) (As := []) (obj_Ref G) (ci := 7) rfl qw_1102 qw_1099 qw_8 qw_1101 qp_50 ⟨by decide, by decide, show (parseMethodDescriptor yX7_readsSoul.desc).map (fun d => d.parameters.length) = some 0 by decide +kernel⟩ ⟨by decide, by decide⟩ ⟨Nat.zero_le _, Nat.zero_le _⟩ (Nat.le_of_ble_eq_true rfl) dX7_readsItem_59 rfl (fun r M' L' hp64 => ?_)
            obtain ⟨rfl, rfl, hT63, rfl⟩ := hp64
            refine at_goto C 105 dX7_readsItem_62 (by decide) ?_
            exact hret _ _ _ _ _ dX7_readsItem_105 (sB_c (by unfold qpItem; rw [if_neg (by omega), if_pos (by omega)])) ⟨by unfold qpItem; rw [if_neg (by omega), if_pos (by omega)], hT63, rfl⟩
        · refine at_aload_n C 1 dX7_readsItem_29 rfl ?_
          refine at_getf (v := .int (sI (M 258 2))) C (obj_Ref G) (ci := 7) rfl inX7 (slot := 2) (by decide) qw_884 rfl rfl dX7_readsItem_30 ?_
          have hb65 : _ ≤ M 258 2 ∧ M 258 2 ≤ _ := tv hT (k := 258) (j := 2) rfl
          refine at_ve (b := (((qc M) : Nat) : Int)) (hqc.2) ?_
          refine at_bipush C dX7_readsItem_33 (by decide) (by decide) ?_
          refine at_icmp_ne C 40 dX7_readsItem_35 (by decide) (⟨by omega, by omega⟩) (⟨by omega, by omega⟩) (fun h66 => ?_) (fun h66 => ?_)
          · refine at_aload_n C 1 dX7_readsItem_40 rfl ?_
            refine at_dup C dX7_readsItem_41 rfl ?_
            refine at_getf (v := .int (sI (M 258 20))) C (obj_Ref G) (ci := 7) rfl inX7 (slot := 20) (by decide) qw_902 rfl rfl dX7_readsItem_42 ?_
            have hb67 : _ ≤ M 258 20 ∧ M 258 20 ≤ _ := tv hT (k := 258) (j := 20) rfl
            refine at_ve (b := (((rq M) : Nat) : Int)) (hrq.2) ?_
            refine at_aload_n C 1 dX7_readsItem_45 rfl ?_
            refine at_call_i C (c_X7_wordSize l D G (M := M) hT) (As := []) (obj_Ref G) (ci := 7) rfl qw_1076 qw_1073 qw_8 qw_1075 qp_45 ⟨by decide, by decide, show (parseMethodDescriptor yX7_wordSize.desc).map (fun d => d.parameters.length) = some 0 by decide +kernel⟩ ⟨by decide, by decide⟩ ⟨Nat.zero_le _, Nat.zero_le _⟩ (Nat.le_of_ble_eq_true rfl) dX7_readsItem_46 rfl (fun r M' L' hp69 => ?_)
            obtain ⟨rfl, rfl, rfl⟩ := hp69
            have hb68 := wLn_r hT
            refine at_iadd C dX7_readsItem_49 ?_
            refine at_ve (b := (((rq M + wLn M) : Nat) : Int)) (by omega) ?_
            refine at_putM (slot := 20) (ty := .int) C tyX7 (obj_Ref G) (ci := 7) rfl inX7 tyX7_ok nmX7 (by decide) qw_902 rfl rfl (by decide +kernel) rfl rfl (Nat.le_of_ble_eq_true rfl) rfl dX7_readsItem_50 ?_
            have hT70 : TInv (sSt M 258 20 (((rq M + wLn M) : Nat) : Int)) := tv_st hT (k := 258) (j := 20) rfl (⟨by omega, by omega⟩)
            have hz1 : (sSt M 258 20 ((rq M + wLn M : Nat) : Int)) 258 23 = 0 := hz
            have hs1 : (sSt M 258 20 ((rq M + wLn M : Nat) : Int)) 258 1 = M 258 1 := rfl
            have hs2 : (sSt M 258 20 ((rq M + wLn M : Nat) : Int)) 258 2 = M 258 2 := rfl
            refine at_iload_n C 0 dX7_readsItem_53 rfl ?_
            refine at_iconst C dX7_readsItem_54 ?_
            refine at_icmp_ne C 65 dX7_readsItem_55 (by decide) (⟨by omega, by omega⟩) (⟨by omega, by omega⟩) (fun h71 => ?_) (fun h71 => ?_)
            · refine at_iload_n C 0 dX7_readsItem_65 rfl ?_
              refine at_iconst C dX7_readsItem_66 ?_
              refine at_icmp_ne C 77 dX7_readsItem_67 (by decide) (⟨by omega, by omega⟩) (⟨by omega, by omega⟩) (fun h72 => ?_) (fun h72 => ?_)
              · refine at_iload_n C 0 dX7_readsItem_77 rfl ?_
                refine at_iconst C dX7_readsItem_78 ?_
                refine at_icmp_ne C 89 dX7_readsItem_79 (by decide) (⟨by omega, by omega⟩) (⟨by omega, by omega⟩) (fun h73 => ?_) (fun h73 => ?_)
                · refine at_iload_n C 0 dX7_readsItem_89 rfl ?_
                  refine at_iconst C dX7_readsItem_90 ?_
                  refine at_icmp_ne C 101 dX7_readsItem_91 (by decide) (⟨by omega, by omega⟩) (⟨by omega, by omega⟩) (fun h74 => ?_) (fun h74 => ?_)
                  · refine at_aload_n C 1 dX7_readsItem_101 rfl ?_
                    refine at_call_i C (c_X7_readsTides l D G (M := (sSt M 258 20 (((rq M + wLn M) : Nat) : Int))) hT70) (As := []) (obj_Ref G) (ci := 7) rfl qw_1188 qw_1185 qw_8 qw_1187 qp_67 ⟨by decide, by decide, show (parseMethodDescriptor yX7_readsTides.desc).map (fun d => d.parameters.length) = some 0 by decide +kernel⟩ ⟨by decide, by decide⟩ ⟨Nat.zero_le _, Nat.zero_le _⟩ (Nat.le_of_ble_eq_true rfl) dX7_readsItem_102 rfl (fun r M' L' hp76 => ?_)
                    obtain ⟨rfl, rfl, hT75, rfl⟩ := hp76
                    exact hret _ _ _ _ _ dX7_readsItem_105 (sB_c (by unfold qpItem; rw [if_neg (by omega), if_neg (by omega), if_neg (by omega), if_neg (by omega), if_neg (by omega)])) ⟨by unfold qpItem; rw [if_neg (by omega), if_neg (by omega), if_neg (by omega), if_neg (by omega), if_neg (by omega)], hT75, rfl⟩
                  · refine at_aload_n C 1 dX7_readsItem_94 rfl ?_
                    refine at_call_i C (c_X7_readsCall l D G (M := (sSt M 258 20 (((rq M + wLn M) : Nat) : Int))) hT70) (As := []) (obj_Ref G) (ci := 7) rfl qw_1136 qw_1133 qw_8 qw_1135 qp_57 ⟨by decide, by decide, show (parseMethodDescriptor yX7_readsCall.desc).map (fun d => d.parameters.length) = some 0 by decide +kernel⟩ ⟨by decide, by decide⟩ ⟨Nat.zero_le _, Nat.zero_le _⟩ (Nat.le_of_ble_eq_true rfl) dX7_readsItem_95 rfl (fun r M' L' hp78 => ?_)
                    obtain ⟨rfl, rfl, hT77, rfl⟩ := hp78
                    refine at_goto C 105 dX7_readsItem_98 (by decide) ?_
                    exact hret _ _ _ _ _ dX7_readsItem_105 (sB_c (by unfold qpItem; rw [if_neg (by omega), if_neg (by omega), if_neg (by omega), if_neg (by omega), if_pos (by omega)])) ⟨by unfold qpItem; rw [if_neg (by omega), if_neg (by omega), if_neg (by omega), if_neg (by omega), if_pos (by omega)], hT77, rfl⟩
                · refine at_aload_n C 1 dX7_readsItem_82 rfl ?_
                  refine at_call_i C (c_X7_readsWalk l D G (M := (sSt M 258 20 (((rq M + wLn M) : Nat) : Int))) (by first | assumption | omega) hT70) (As := []) (obj_Ref G) (ci := 7) rfl qw_1110 qw_1107 qw_8 qw_1109 qp_52 ⟨by decide, by decide, show (parseMethodDescriptor yX7_readsWalk.desc).map (fun d => d.parameters.length) = some 0 by decide +kernel⟩ ⟨by decide, by decide⟩ ⟨Nat.zero_le _, Nat.zero_le _⟩ (Nat.le_of_ble_eq_true rfl) dX7_readsItem_83 rfl (fun r M' L' hp80 => ?_)
                  obtain ⟨rfl, rfl, hT79, rfl⟩ := hp80
                  refine at_goto C 105 dX7_readsItem_86 (by decide) ?_
                  exact hret _ _ _ _ _ dX7_readsItem_105 (sB_c (by unfold qpItem; rw [if_neg (by omega), if_neg (by omega), if_neg (by omega), if_pos (by omega)])) ⟨by unfold qpItem; rw [if_neg (by omega), if_neg (by omega), if_neg (by omega), if_pos (by omega)], hT79, rfl⟩
              · refine at_aload_n C 1 dX7_readsItem_70 rfl ?_
                refine at_call_i C (c_X7_readsCaller l D G (M := (sSt M 258 20 (((rq M + wLn M) : Nat) : Int))) (by first | assumption | omega) hT70) (As := []) (obj_Ref G) (ci := 7) rfl qw_1106 qw_1103 qw_8 qw_1105 qp_51 ⟨by decide, by decide, show (parseMethodDescriptor yX7_readsCaller.desc).map (fun d => d.parameters.length) = some 0 by decide +kernel⟩ ⟨by decide, by decide⟩ ⟨Nat.zero_le _, Nat.zero_le _⟩ (Nat.le_of_ble_eq_true rfl) dX7_readsItem_71 rfl (fun r M' L' hp82 => ?_)
                obtain ⟨rfl, rfl, hT81, rfl⟩ := hp82
                refine at_goto C 105 dX7_readsItem_74 (by decide) ?_
                exact hret _ _ _ _ _ dX7_readsItem_105 (sB_c (by unfold qpItem; rw [if_neg (by omega), if_neg (by omega), if_pos (by omega)])) ⟨by unfold qpItem; rw [if_neg (by omega), if_neg (by omega), if_pos (by omega)], hT81, rfl⟩
            · refine at_aload_n C 1 dX7_readsItem_58 rfl ?_
              refine at_call_i C (c_X7_readsSoul l D G (M := (sSt M 258 20 (((rq M + wLn M) : Nat) : Int))) (by first | assumption | omega) hT70) (As := []) (obj_Ref G) (ci := 7) rfl qw_1102 qw_1099 qw_8 qw_1101 qp_50 ⟨by decide, by decide, show (parseMethodDescriptor yX7_readsSoul.desc).map (fun d => d.parameters.length) = some 0 by decide +kernel⟩ ⟨by decide, by decide⟩ ⟨Nat.zero_le _, Nat.zero_le _⟩ (Nat.le_of_ble_eq_true rfl) dX7_readsItem_59 rfl (fun r M' L' hp84 => ?_)
              obtain ⟨rfl, rfl, hT83, rfl⟩ := hp84
              refine at_goto C 105 dX7_readsItem_62 (by decide) ?_
              exact hret _ _ _ _ _ dX7_readsItem_105 (sB_c (by unfold qpItem; rw [if_neg (by omega), if_pos (by omega)])) ⟨by unfold qpItem; rw [if_neg (by omega), if_pos (by omega)], hT83, rfl⟩
          · refine at_iconst C dX7_readsItem_38 ?_
            exact hret _ _ _ _ _ dX7_readsItem_39 (sB_f (by unfold qpItem; rw [if_pos (by omega)]; exact fun z => Bool.noConfusion z)) ⟨by unfold qpItem; rw [if_pos (by omega)], hT, rfl⟩

set_option maxHeartbeats 4000000 in
set_option maxRecDepth 100000 in
theorem c_X7_readsFirst (l : Launch) (D : va_G) (G : sG) {M : sM} {L : sL} (hT : TInv M) : sKi l D G yX7_readsFirst cX7_readsFirst 2 .boolean 4 84 [.ref (G.1 (258))] M L (fun r M' L' => r = sB ((qpFirst M).1 = true) ∧ (M' = (qpFirst M).2 ∧ TInv M' ∧ L = L')) := by
  refine sKz_go (by decide) (Nat.le_of_ble_eq_true rfl) ?_
  intro zp ze zs zm za zb zt zc Q C hret
  refine at_eq (lv' := [(0, .ref (G.1 (258)))]) (st' := []) (M' := M) (L' := L) ?_ rfl rfl rfl rfl
  have hqn := qn_r hT
  have hqc := qc_r hT
  have hqu := qu_r hT
  have hqt := qt_r hT
  have hqs := qs_r hT
  have hqo := qo_r hT
  have hqm := qm_r hT
  have hrq := rq_r hT
  have hsp := qsp_r hT
  refine at_aload_n C 0 dX7_readsFirst_0 rfl ?_
  refine at_call_v C (c_X7_skip l D G (M := M) hT) (As := []) (obj_Ref G) (ci := 7) rfl qw_1064 qw_1061 qw_8 qw_1063 qp_42 ⟨by decide, by decide, show (parseMethodDescriptor yX7_skip.desc).map (fun d => d.parameters.length) = some 0 by decide +kernel⟩ ⟨by decide, by decide⟩ ⟨Nat.zero_le _, Nat.zero_le _⟩ (Nat.le_of_ble_eq_true rfl) dX7_readsFirst_1 rfl (fun M' L' hp2 => ?_)
  obtain ⟨rfl, hT1, rfl⟩ := hp2
  refine at_aload_n C 0 dX7_readsFirst_4 rfl ?_
  refine at_call_i C (c_X7_wordHere l D G (M := (qSk M)) hT1) (As := []) (obj_Ref G) (ci := 7) rfl qw_1072 qw_1069 qw_8 qw_1071 qp_44 ⟨by decide, by decide, show (parseMethodDescriptor yX7_wordHere.desc).map (fun d => d.parameters.length) = some 0 by decide +kernel⟩ ⟨by decide, by decide⟩ ⟨Nat.zero_le _, Nat.zero_le _⟩ (Nat.le_of_ble_eq_true rfl) dX7_readsFirst_5 rfl (fun r M' L' hp4 => ?_)
  obtain ⟨rfl, rfl, rfl⟩ := hp4
  have hb3 := qWd_r (qSk M)
  refine at_if_eq C 13 dX7_readsFirst_8 (by decide) (⟨by omega, by omega⟩) (fun h5 => ?_) (fun h5 => ?_)
  · have hw : qWd (qSk M) = 0 := by omega
    have hw5 := qWd_0 hw
    have hwr := wLn_r (qSk_T hT)
    have hrs : rq (qSk M) = qsp M := rq_sk
    refine at_aload_n C 0 dX7_readsFirst_13 rfl ?_
    refine at_dup C dX7_readsFirst_14 rfl ?_
    refine at_getf (v := .int (sI ((qSk M) 258 20))) C (obj_Ref G) (ci := 7) rfl inX7 (slot := 20) (by decide) qw_902 rfl rfl dX7_readsFirst_15 ?_
    have hb6 : _ ≤ (qSk M) 258 20 ∧ (qSk M) 258 20 ≤ _ := tv hT1 (k := 258) (j := 20) rfl
    refine at_ve (b := (((qsp M) : Nat) : Int)) (sSt_eq) ?_
    refine at_iconst C dX7_readsFirst_18 ?_
    refine at_iadd C dX7_readsFirst_19 ?_
    refine at_putM (slot := 20) (ty := .int) C tyX7 (obj_Ref G) (ci := 7) rfl inX7 tyX7_ok nmX7 (by decide) qw_902 rfl rfl (by decide +kernel) rfl rfl (Nat.le_of_ble_eq_true rfl) rfl dX7_readsFirst_20 ?_
    have hT7 : TInv (sSt (qSk M) 258 20 ((((qsp M) : Nat) : Int) + 5)) := tv_st hT1 (k := 258) (j := 20) rfl (⟨by omega, by omega⟩)
    refine at_aload_n C 0 dX7_readsFirst_23 rfl ?_
    refine at_call_v C (c_X7_begin l D G hT7) (As := []) (obj_Ref G) (ci := 7) rfl qw_881 qw_878 qw_8 qw_880 qp_32 ⟨by decide, by decide, show (parseMethodDescriptor yX7_begin.desc).map (fun d => d.parameters.length) = some 0 by decide +kernel⟩ ⟨by decide, by decide⟩ ⟨Nat.zero_le _, Nat.zero_le _⟩ (Nat.le_of_ble_eq_true rfl) dX7_readsFirst_24 rfl (fun M' L' hp9 => ?_)
    obtain ⟨rfl, hT8, rfl⟩ := hp9
    refine at_iconst C dX7_readsFirst_27 ?_
    refine at_istore_n C [(1, .int (sI (0))), (0, .ref (G.1 (258)))] dX7_readsFirst_28 (by decide) rfl ?_
    have H29 : ∀ (fu : Nat) (c : Nat) (M1 : sM), 12 - c < fu → (c ≤ 12) → (TInv M1) → (qpCurN 12 0 (qF0 M) = qpCurN (12 - c) c M1) → sAt zp l ze (sRm 4 84) zs zm za zb zt zc D G 2 0 0 Q 29 [(0, .ref (G.1 (258))), (1, .int (sI ((c : Int))))] [] M1 L := by
      intro fu
      induction fu with
      | zero => intro c M1 hd hc hT1 he; exact absurd hd (Nat.not_lt_zero _)
      | succ fu ih29 =>
        intro c M1 hd29 hc hT1 he
        refine at_iload_n C 1 dX7_readsFirst_29 rfl ?_
        refine at_bipush C dX7_readsFirst_30 (by decide) (by decide) ?_
        refine at_icmp_ge C 64 dX7_readsFirst_32 (by decide) (⟨by omega, by omega⟩) (⟨by omega, by omega⟩) (fun h10 => ?_) (fun h10 => ?_)
        · have ef : qpCurN 12 0 (qF0 M) = (true, M1) := by rw [he, show 12 - c = 0 by omega]; rfl
          refine at_aload_n C 0 dX7_readsFirst_64 rfl ?_
          refine at_call_i C (c_X7_ends l D G (M := M1) hT1) (As := []) (obj_Ref G) (ci := 7) rfl qw_1094 qw_1091 qw_8 qw_1093 qp_48 ⟨by decide, by decide, show (parseMethodDescriptor yX7_ends.desc).map (fun d => d.parameters.length) = some 0 by decide +kernel⟩ ⟨by decide, by decide⟩ ⟨Nat.zero_le _, Nat.zero_le _⟩ (Nat.le_of_ble_eq_true rfl) dX7_readsFirst_65 rfl (fun r M' L' hp12 => ?_)
          obtain ⟨rfl, rfl, hT11, rfl⟩ := hp12
          exact hret _ _ _ _ _ dX7_readsFirst_68 (sB_c (by unfold qpFirst; rw [if_pos hw, ef, if_pos rfl])) ⟨by unfold qpFirst; rw [if_pos hw, ef, if_pos rfl], hT11, rfl⟩
        · refine at_aload_n C 0 dX7_readsFirst_35 rfl ?_
          refine at_iconst C dX7_readsFirst_36 ?_
          refine at_iconst C dX7_readsFirst_37 ?_
          refine at_call_i C (c_X7_number l D G (M := M1) 0 4 ⟨by omega, by omega⟩ ⟨by omega, by omega⟩ hT1) (As := [.int (sI (0)), .int (sI (4))]) (obj_Ref G) (ci := 7) rfl qw_1087 qw_1084 qw_8 qw_1086 qp_47 ⟨by decide, by decide, show (parseMethodDescriptor yX7_number.desc).map (fun d => d.parameters.length) = some 2 by decide +kernel⟩ ⟨by decide, by decide⟩ ⟨Nat.zero_le _, Nat.zero_le _⟩ (Nat.le_of_ble_eq_true rfl) dX7_readsFirst_38 rfl (fun r M' L' hp14 => ?_)
          obtain ⟨rfl, rfl, hT13, rfl⟩ := hp14
          refine at_if_neB C 46 dX7_readsFirst_41 (by decide) (fun h15 => ?_) (fun h15 => ?_)
          · have ho17 : nqOk 0 4 M1 := by assumption
            have hT16 : TInv (nqM M1) := TInv_e (if_pos ho17) hT13
            refine at_m (M' := (nqM M1)) (if_pos ho17) ?_
            have hb18 := nqV_r (M := M1)
            have hz0 := ho17.2
            refine at_aload_n C 0 dX7_readsFirst_46 rfl ?_
            refine at_getf (v := .ref (G.1 (260))) C (obj_Ref G) (ci := 7) rfl inX7 (slot := 8) (by decide) qw_890 rfl rfl dX7_readsFirst_47 ?_
            refine at_iload_n C 1 dX7_readsFirst_50 rfl ?_
            refine at_aload_n C 0 dX7_readsFirst_51 rfl ?_
            refine at_getf (v := .int (sI ((nqM M1) 258 21))) C (obj_Ref G) (ci := 7) rfl inX7 (slot := 21) (by decide) qw_903 rfl rfl dX7_readsFirst_52 ?_
            have hb19 : _ ≤ (nqM M1) 258 21 ∧ (nqM M1) 258 21 ≤ _ := tv hT16 (k := 258) (j := 21) rfl
            refine at_ve (b := nqV M1) (nqM_21 _) ?_
            refine at_iconst C dX7_readsFirst_55 ?_
            refine at_isub C dX7_readsFirst_56 ?_
            refine at_iast C c (ar_260 G) (rfl) (by omega) dX7_readsFirst_57 ?_
            have hT20 : TInv (sSt (nqM M1) 260 c ((nqV M1) - 2)) := tv_st hT16 (k := 260) rfl (⟨by omega, by omega⟩)
            refine at_iinc C 1 [(1, .int (sI ((c : Int) + 1))), (0, .ref (G.1 (258)))] dX7_readsFirst_58 rfl (by decide) rfl ?_
            refine at_goto C 29 dX7_readsFirst_61 (by decide) ?_
            refine at_lv [1, 0] rfl ?_
            exact at_eq (ih29 (c + 1) (sSt (nqM M1) 260 c ((nqV M1) - 2)) (by omega) (by omega) (hT20) (by rw [he, show 12 - c = (12 - (c + 1)) + 1 by omega, qpCurN_y ho17])) (lvc_s (lvc_i (by omega) rfl)) rfl (rfl) (rfl)
          · have ho22 : ¬ nqOk 0 4 M1 := by assumption
            have hT21 : TInv (qSk M1) := TInv_e (if_neg ho22) hT13
            refine at_m (M' := (qSk M1)) (if_neg ho22) ?_
            have ef : qpCurN 12 0 (qF0 M) = (false, (qSk M1)) := by rw [he, show 12 - c = (12 - (c + 1)) + 1 by omega, qpCurN_n ho22]
            refine at_iconst C dX7_readsFirst_44 ?_
            exact hret _ _ _ _ _ dX7_readsFirst_45 (sB_f (by unfold qpFirst; rw [if_pos hw, ef, if_neg Bool.false_ne_true]; exact fun z => Bool.noConfusion z)) ⟨by unfold qpFirst; rw [if_pos hw, ef, if_neg Bool.false_ne_true], hT21, rfl⟩
    refine at_lv [1, 0] rfl ?_
    exact at_eq (H29 _ 0 (qBeg (sSt (qSk M) 258 20 ((((qsp M) : Nat) : Int) + 5))) (Nat.lt_succ_self _) (by omega) (hT8) (rfl)) (lvc_s (lvc_i (rfl) rfl)) rfl (rfl) (rfl)
  · have hw : ¬ qWd (qSk M) = 0 := by omega
    refine at_iconst C dX7_readsFirst_11 ?_
    exact hret _ _ _ _ _ dX7_readsFirst_12 (sB_f (by unfold qpFirst; rw [if_neg hw]; exact fun z => Bool.noConfusion z)) ⟨by unfold qpFirst; rw [if_neg hw], hT1, rfl⟩
