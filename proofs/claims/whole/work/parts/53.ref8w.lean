set_option maxHeartbeats 4000000 in
set_option maxRecDepth 100000 in
theorem c_X7_soulsAt (l : Launch) (D : va_G) (G : sG) {M : sM} {L : sL} (c m : Nat) (hc : c < 12) (hm : m < 1000) (hT : TInv M) : sKi l D G yX7_soulsAt cX7_soulsAt 5 .int 3 65 [.ref (G.1 (258)), .int (sI ((c : Int))), .int (sI ((m : Int)))] M L (fun r M' L' => r = sI (((qFd M m c : Nat) : Int)) ∧ M = M' ∧ L = L') := by
  refine sKi_go (by decide) (Nat.le_of_ble_eq_true rfl) ?_
  intro zp ze zs zm za zb zt zc Q C hret
  refine at_eq (lv' := [(0, .ref (G.1 (258))), (1, .int (sI ((c : Int)))), (2, .int (sI ((m : Int))))]) (st' := []) (M' := M) (L' := L) ?_ rfl rfl rfl rfl
  have hqn := qn_r hT
  have hqc := qc_r hT
  have hqu := qu_r hT
  have hqt := qt_r hT
  have hqs := qs_r hT
  have hqo := qo_r hT
  have hqm := qm_r hT
  refine at_iconst C dX7_soulsAt_0 ?_
  refine at_istore_n C [(3, .int (sI (0))), (0, .ref (G.1 (258))), (1, .int (sI ((c : Int)))), (2, .int (sI ((m : Int))))] dX7_soulsAt_1 (by decide) rfl ?_
  refine at_iconst C dX7_soulsAt_2 ?_
  refine at_istore C [(4, .int (sI (0))), (3, .int (sI (0))), (0, .ref (G.1 (258))), (1, .int (sI ((c : Int)))), (2, .int (sI ((m : Int))))] dX7_soulsAt_3 (by decide) rfl ?_
  have H5 : ∀ (fu : Nat) (k : Nat), qn M - k < fu → (k ≤ qn M) → sAt zp l ze (sRm 3 65) zs zm za zb zt zc D G 5 0 0 Q 5 [(0, .ref (G.1 (258))), (1, .int (sI ((c : Int)))), (2, .int (sI ((m : Int)))), (3, .int (sI ((((bits (fun s => 0 ≤ M 263 s ∧ driN (M 260) m (M 263 s) = (c : Int)) k) : Nat) : Int)))), (4, .int (sI ((k : Int))))] [] M L := by
    intro fu
    induction fu with
    | zero => intro k hd hk; exact absurd hd (Nat.not_lt_zero _)
    | succ fu ih5 =>
      intro k hd5 hk
      have hbl : bits (fun s => 0 ≤ M 263 s ∧ driN (M 260) m (M 263 s) = (c : Int)) k < 64 := bits_lt6 _ (by omega)
      have hb3 := tv hT (k := 263) (j := k) (lo := -2) (hi := 11) rfl
      refine at_iload C 4 dX7_soulsAt_5 rfl ?_
      refine at_aload_n C 0 dX7_soulsAt_7 rfl ?_
      refine at_getf (v := .int (sI (M 258 1))) C (obj_Ref G) (ci := 7) rfl inX7 (slot := 1) (by decide) qw_883 rfl rfl dX7_soulsAt_8 ?_
      have hb1 : _ ≤ M 258 1 ∧ M 258 1 ≤ _ := tv hT (k := 258) (j := 1) rfl
      refine at_ve (b := (((qn M) : Nat) : Int)) (hqn.2) ?_
      refine at_icmp_ge C 57 dX7_soulsAt_11 (by decide) (⟨by omega, by omega⟩) (⟨by omega, by omega⟩) (fun h2 => ?_) (fun h2 => ?_)
      · refine at_iload_n C 3 dX7_soulsAt_57 rfl ?_
        exact hret _ _ _ _ _ dX7_soulsAt_58 (⟨congrArg sI (by unfold qFd; rw [show qn M = k by omega]), rfl, rfl⟩)
      · refine at_iload_n C 3 dX7_soulsAt_14 rfl ?_
        refine at_aload_n C 0 dX7_soulsAt_15 rfl ?_
        refine at_getf (v := .ref (G.1 (263))) C (obj_Ref G) (ci := 7) rfl inX7 (slot := 11) (by decide) qw_893 rfl rfl dX7_soulsAt_16 ?_
        refine at_iload C 4 dX7_soulsAt_19 rfl ?_
        refine at_iald C k (ar_263 G) (rfl) (by omega) dX7_soulsAt_21 ?_
        have hb3 : _ ≤ M 263 k ∧ M 263 k ≤ _ := tv hT (k := 263) (j := k) rfl
        refine at_if_lt C 48 dX7_soulsAt_22 (by decide) (⟨by omega, by omega⟩) (fun h4 => ?_) (fun h4 => ?_)
        · refine at_iconst C dX7_soulsAt_48 ?_
          refine at_ior C ((((bits (fun s => 0 ≤ M 263 s ∧ driN (M 260) m (M 263 s) = (c : Int)) k) : Nat) : Int)) dX7_soulsAt_49 (zb_or0 _) ?_
          refine at_istore_n C [(3, .int (sI ((((bits (fun s => 0 ≤ M 263 s ∧ driN (M 260) m (M 263 s) = (c : Int)) k) : Nat) : Int)))), (0, .ref (G.1 (258))), (1, .int (sI ((c : Int)))), (2, .int (sI ((m : Int)))), (4, .int (sI ((k : Int))))] dX7_soulsAt_50 (by decide) rfl ?_
          refine at_iinc C 4 [(4, .int (sI ((k : Int) + 1))), (3, .int (sI ((((bits (fun s => 0 ≤ M 263 s ∧ driN (M 260) m (M 263 s) = (c : Int)) k) : Nat) : Int)))), (0, .ref (G.1 (258))), (1, .int (sI ((c : Int)))), (2, .int (sI ((m : Int))))] dX7_soulsAt_51 rfl (by decide) rfl ?_
          refine at_goto C 5 dX7_soulsAt_54 (by decide) ?_
          refine at_lv [2, 3, 4, 1, 0] rfl ?_
          exact at_eq (ih5 (k + 1) (by omega) (by omega)) (lvc_s (lvc_s (lvc_s (lvc_i (by rw [bits_n (p := (fun s => 0 ≤ M 263 s ∧ driN (M 260) m (M 263 s) = (c : Int))) (fun z => by have z1 := z.1; have z2 := z.2; omega)]) (lvc_i (by omega) rfl))))) rfl (rfl) (rfl)
        · refine at_aload_n C 0 dX7_soulsAt_25 rfl ?_
          refine at_aload_n C 0 dX7_soulsAt_26 rfl ?_
          refine at_getf (v := .ref (G.1 (263))) C (obj_Ref G) (ci := 7) rfl inX7 (slot := 11) (by decide) qw_893 rfl rfl dX7_soulsAt_27 ?_
          refine at_iload C 4 dX7_soulsAt_30 rfl ?_
          refine at_iald C k (ar_263 G) (rfl) (by omega) dX7_soulsAt_32 ?_
          have hb5 : _ ≤ M 263 k ∧ M 263 k ≤ _ := tv hT (k := 263) (j := k) rfl
          refine at_iload_n C 2 dX7_soulsAt_33 rfl ?_
          refine at_call_i C (c_X7_driftBehind l D G (M 263 k) ⟨by omega, by omega⟩ m (by omega) hT) (As := [.int (sI (M 263 k)), .int (sI ((m : Int)))]) (obj_Ref G) (ci := 7) rfl qw_1256 qw_1253 qw_8 qw_1255 qp_75 ⟨by decide, by decide, show (parseMethodDescriptor yX7_driftBehind.desc).map (fun d => d.parameters.length) = some 2 by decide +kernel⟩ ⟨by decide, by decide⟩ ⟨Nat.zero_le _, Nat.zero_le _⟩ (Nat.le_of_ble_eq_true rfl) dX7_soulsAt_34 rfl (fun r M' L' hp7 => ?_)
          obtain ⟨rfl, rfl, rfl⟩ := hp7
          have hb6 := driN_r (M 260) (c := M 263 k) ⟨by omega, by omega⟩ m
          refine at_iload_n C 1 dX7_soulsAt_37 rfl ?_
          refine at_icmp_ne C 48 dX7_soulsAt_38 (by decide) (⟨by omega, by omega⟩) (⟨by omega, by omega⟩) (fun h8 => ?_) (fun h8 => ?_)
          · refine at_iconst C dX7_soulsAt_48 ?_
            refine at_ior C ((((bits (fun s => 0 ≤ M 263 s ∧ driN (M 260) m (M 263 s) = (c : Int)) k) : Nat) : Int)) dX7_soulsAt_49 (zb_or0 _) ?_
            refine at_istore_n C [(3, .int (sI ((((bits (fun s => 0 ≤ M 263 s ∧ driN (M 260) m (M 263 s) = (c : Int)) k) : Nat) : Int)))), (0, .ref (G.1 (258))), (1, .int (sI ((c : Int)))), (2, .int (sI ((m : Int)))), (4, .int (sI ((k : Int))))] dX7_soulsAt_50 (by decide) rfl ?_
            refine at_iinc C 4 [(4, .int (sI ((k : Int) + 1))), (3, .int (sI ((((bits (fun s => 0 ≤ M 263 s ∧ driN (M 260) m (M 263 s) = (c : Int)) k) : Nat) : Int)))), (0, .ref (G.1 (258))), (1, .int (sI ((c : Int)))), (2, .int (sI ((m : Int))))] dX7_soulsAt_51 rfl (by decide) rfl ?_
            refine at_goto C 5 dX7_soulsAt_54 (by decide) ?_
            refine at_lv [2, 3, 4, 1, 0] rfl ?_
            exact at_eq (ih5 (k + 1) (by omega) (by omega)) (lvc_s (lvc_s (lvc_s (lvc_i (by rw [bits_n (p := (fun s => 0 ≤ M 263 s ∧ driN (M 260) m (M 263 s) = (c : Int))) (fun z => by have z1 := z.1; have z2 := z.2; omega)]) (lvc_i (by omega) rfl))))) rfl (rfl) (rfl)
          · refine at_iconst C dX7_soulsAt_41 ?_
            refine at_iload C 4 dX7_soulsAt_42 rfl ?_
            refine at_ishl C ((((2 ^ k) : Nat) : Int)) dX7_soulsAt_44 (zb_shl (by omega)) ?_
            refine at_goto C 49 dX7_soulsAt_45 (by decide) ?_
            refine at_ior C ((((bits (fun s => 0 ≤ M 263 s ∧ driN (M 260) m (M 263 s) = (c : Int)) k ||| 2 ^ k) : Nat) : Int)) dX7_soulsAt_49 (zb_or _ _) ?_
            refine at_istore_n C [(3, .int (sI ((((bits (fun s => 0 ≤ M 263 s ∧ driN (M 260) m (M 263 s) = (c : Int)) k ||| 2 ^ k) : Nat) : Int)))), (0, .ref (G.1 (258))), (1, .int (sI ((c : Int)))), (2, .int (sI ((m : Int)))), (4, .int (sI ((k : Int))))] dX7_soulsAt_50 (by decide) rfl ?_
            refine at_iinc C 4 [(4, .int (sI ((k : Int) + 1))), (3, .int (sI ((((bits (fun s => 0 ≤ M 263 s ∧ driN (M 260) m (M 263 s) = (c : Int)) k ||| 2 ^ k) : Nat) : Int)))), (0, .ref (G.1 (258))), (1, .int (sI ((c : Int)))), (2, .int (sI ((m : Int))))] dX7_soulsAt_51 rfl (by decide) rfl ?_
            refine at_goto C 5 dX7_soulsAt_54 (by decide) ?_
            refine at_lv [2, 3, 4, 1, 0] rfl ?_
            exact at_eq (ih5 (k + 1) (by omega) (by omega)) (lvc_s (lvc_s (lvc_s (lvc_i (by rw [bits_y (p := (fun s => 0 ≤ M 263 s ∧ driN (M 260) m (M 263 s) = (c : Int))) ⟨by omega, by omega⟩]) (lvc_i (by omega) rfl))))) rfl (rfl) (rfl)
  refine at_lv [2, 3, 4, 1, 0] rfl ?_
  exact at_eq (H5 _ 0 (Nat.lt_succ_self _) (by omega)) (lvc_s (lvc_s (lvc_s (lvc_i (rfl) (lvc_i (rfl) rfl))))) rfl (rfl) (rfl)

set_option maxHeartbeats 4000000 in
set_option maxRecDepth 100000 in
theorem c_X7_setFound (l : Launch) (D : va_G) (G : sG) {M : sM} {L : sL} (hT : TInv M) : sKv l D G yX7_setFound cX7_setFound 3 4 89 [.ref (G.1 (258))] M L (fun M' L' => M' = qFM M ∧ TInv M' ∧ L = L') := by
  refine sKv_go (by decide) (Nat.le_of_ble_eq_true rfl) ?_
  intro zp ze zs zm za zb zt zc Q C hret
  refine at_eq (lv' := [(0, .ref (G.1 (258)))]) (st' := []) (M' := M) (L' := L) ?_ rfl rfl rfl rfl
  have hqn := qn_r hT
  have hqc := qc_r hT
  have hqu := qu_r hT
  have hqt := qt_r hT
  have hqs := qs_r hT
  have hqo := qo_r hT
  have hqm := qm_r hT
  refine at_iconst C dX7_setFound_0 ?_
  refine at_istore_n C [(1, .int (sI (0))), (0, .ref (G.1 (258)))] dX7_setFound_1 (by decide) rfl ?_
  have H2 : ∀ (fu : Nat) (m : Nat), 20 - m < fu → (m ≤ 20) → (TInv (fil M 275 (qFf M) (12 * m))) → sAt zp l ze (sRm 4 89) zs zm za zb zt zc D G 3 0 0 Q 2 [(0, .ref (G.1 (258))), (1, .int (sI ((m : Int))))] [] (fil M 275 (qFf M) (12 * m)) L := by
    intro fu
    induction fu with
    | zero => intro m hd hm hTm; exact absurd hd (Nat.not_lt_zero _)
    | succ fu ih2 =>
      intro m hd2 hm hTm
      refine at_iload_n C 1 dX7_setFound_2 rfl ?_
      refine at_bipush C dX7_setFound_3 (by decide) (by decide) ?_
      refine at_icmp_ge C 45 dX7_setFound_5 (by decide) (⟨by omega, by omega⟩) (⟨by omega, by omega⟩) (fun h1 => ?_) (fun h1 => ?_)
      · refine at_m (M' := (qFM M)) (by unfold qFM; rw [show 12 * m = 240 by omega]) ?_
        exact hret _ _ _ _ dX7_setFound_45 (⟨rfl, (TInv_e (M := (fil M 275 (qFf M) (12 * m))) (N := (qFM M)) (by unfold qFM; rw [show 12 * m = 240 by omega]) hTm), rfl⟩)
      · refine at_iconst C dX7_setFound_8 ?_
        refine at_istore_n C [(2, .int (sI (0))), (0, .ref (G.1 (258))), (1, .int (sI ((m : Int))))] dX7_setFound_9 (by decide) rfl ?_
        have H10 : ∀ (fu : Nat) (c : Nat), 12 - c < fu → (c ≤ 12) → (TInv (fil M 275 (qFf M) (12 * m + c))) → sAt zp l ze (sRm 4 89) zs zm za zb zt zc D G 3 0 0 Q 10 [(0, .ref (G.1 (258))), (1, .int (sI ((m : Int)))), (2, .int (sI ((c : Int))))] [] (fil M 275 (qFf M) (12 * m + c)) L := by
          intro fu
          induction fu with
          | zero => intro c hd hc hTc; exact absurd hd (Nat.not_lt_zero _)
          | succ fu ih10 =>
            intro c hd10 hc hTc
            have hfd := qFd_lt hT m c
            refine at_iload_n C 2 dX7_setFound_10 rfl ?_
            refine at_bipush C dX7_setFound_11 (by decide) (by decide) ?_
            refine at_icmp_ge C 39 dX7_setFound_13 (by decide) (⟨by omega, by omega⟩) (⟨by omega, by omega⟩) (fun h2 => ?_) (fun h2 => ?_)
            · refine at_iinc C 1 [(1, .int (sI ((m : Int) + 1))), (0, .ref (G.1 (258))), (2, .int (sI ((c : Int))))] dX7_setFound_39 rfl (by decide) rfl ?_
              refine at_goto C 2 dX7_setFound_42 (by decide) ?_
              refine at_lv [1, 0] rfl ?_
              exact at_eq (ih2 (m + 1) (by omega) (by omega) (by rw [show 12 * (m + 1) = 12 * m + c by omega]; exact hTc)) (lvc_s (lvc_i (by omega) rfl)) rfl (by rw [show 12 * (m + 1) = 12 * m + c by omega]) (rfl)
            · refine at_aload_n C 0 dX7_setFound_16 rfl ?_
              refine at_getf (v := .ref (G.1 (275))) C (obj_Ref G) (ci := 7) rfl inX7 (slot := 28) (by decide) qw_910 rfl rfl dX7_setFound_17 ?_
              refine at_bipush C dX7_setFound_20 (by decide) (by decide) ?_
              refine at_iload_n C 1 dX7_setFound_22 rfl ?_
              refine at_imul C dX7_setFound_23 ?_
              refine at_iload_n C 2 dX7_setFound_24 rfl ?_
              refine at_iadd C dX7_setFound_25 ?_
              refine at_aload_n C 0 dX7_setFound_26 rfl ?_
              refine at_iload_n C 2 dX7_setFound_27 rfl ?_
              refine at_iload_n C 1 dX7_setFound_28 rfl ?_
              refine at_call_i C (c_X7_soulsAt l D G (M := (fil M 275 (qFf M) (12 * m + c))) c m (by omega) (by omega) hTc) (As := [.int (sI ((c : Int))), .int (sI ((m : Int)))]) (obj_Ref G) (ci := 7) rfl qw_1275 qw_1272 qw_8 qw_1274 qp_77 ⟨by decide, by decide, show (parseMethodDescriptor yX7_soulsAt.desc).map (fun d => d.parameters.length) = some 2 by decide +kernel⟩ ⟨by decide, by decide⟩ ⟨Nat.zero_le _, Nat.zero_le _⟩ (Nat.le_of_ble_eq_true rfl) dX7_setFound_29 rfl (fun r M' L' hp3 => ?_)
              obtain ⟨rfl, rfl, rfl⟩ := hp3
              refine at_ve (b := (((qFd M m c) : Nat) : Int)) (rfl) ?_
              refine at_iast C ((12 * m) + c) (ar_275 G) (by omega) (by omega) dX7_setFound_32 ?_
              have hT4 : TInv (sSt (fil M 275 (qFf M) (12 * m + c)) 275 ((12 * m) + c) (((qFd M m c) : Nat) : Int)) := tv_st hTc (k := 275) rfl (⟨by omega, by omega⟩)
              refine at_iinc C 2 [(2, .int (sI ((c : Int) + 1))), (0, .ref (G.1 (258))), (1, .int (sI ((m : Int))))] dX7_setFound_33 rfl (by decide) rfl ?_
              refine at_goto C 10 dX7_setFound_36 (by decide) ?_
              refine at_lv [1, 2, 0] rfl ?_
              exact at_eq (ih10 (c + 1) (by omega) (by omega) (TInv_e (qFl_s (by omega)) hT4)) (lvc_s (lvc_s (lvc_i (by omega) rfl))) rfl (qFl_s (by omega)) (rfl)
        refine at_lv [1, 2, 0] rfl ?_
        exact at_eq (H10 _ 0 (Nat.lt_succ_self _) (by omega) (hTm)) (lvc_s (lvc_s (lvc_i (rfl) rfl))) rfl (rfl) (rfl)
  refine at_lv [1, 0] rfl ?_
  exact at_eq (H2 _ 0 (Nat.lt_succ_self _) (by omega) (TInv_e (fil_0 M 275 (qFf M)) hT)) (lvc_s (lvc_i (rfl) rfl)) rfl (fil_0 M 275 (qFf M)) (rfl)

set_option maxHeartbeats 4000000 in
set_option maxRecDepth 100000 in
theorem c_X7_mayStep (l : Launch) (D : va_G) (G : sG) {M : sM} {L : sL} (m c x : Nat) (d : Int) (hm : m < 20) (hc : c < 12) (hx : x < 64) (hd : -1 ≤ d ∧ d ≤ 1) (hT : TInv M) : sKi l D G yX7_mayStep cX7_mayStep 6 .boolean 1 20 [.ref (G.1 (258)), .int (sI ((m : Int))), .int (sI ((c : Int))), .int (sI (d)), .int (sI ((x : Int)))] M L (fun r M' L' => r = sB (mayP M L m c d x) ∧ (M = M' ∧ L = L')) := by
  refine sKz_go (by decide) (Nat.le_of_ble_eq_true rfl) ?_
  intro zp ze zs zm za zb zt zc Q C hret
  refine at_eq (lv' := [(0, .ref (G.1 (258))), (1, .int (sI ((m : Int)))), (2, .int (sI ((c : Int)))), (3, .int (sI (d))), (4, .int (sI ((x : Int))))]) (st' := []) (M' := M) (L' := L) ?_ rfl rfl rfl rfl
  have hqn := qn_r hT
  have hqc := qc_r hT
  have hqu := qu_r hT
  have hqt := qt_r hT
  have hqs := qs_r hT
  have hqo := qo_r hT
  have hqm := qm_r hT
  have hto := qTo_lt c d
  have hfr := tv hT (k := 275) (j := 12 * m + qTo c d) (lo := 0) (hi := 63) rfl
  have hsd : (sDel x (fdM M m (qTo c d))) < 64 := sDel_lt hx
  refine at_iload_n C 2 dX7_mayStep_0 rfl ?_
  refine at_iload_n C 3 dX7_mayStep_1 rfl ?_
  refine at_iadd C dX7_mayStep_2 ?_
  refine at_stat_i C (c_X7_onShore l D G ((c : Int) + d) ⟨by omega, by omega⟩) (As := [.int (sI ((c : Int) + d))]) qw_1117 qw_1115 qw_8 qw_1116 ⟨by decide, by decide, show (parseMethodDescriptor yX7_onShore.desc).map (fun d => d.parameters.length) = some 1 by decide +kernel⟩ ⟨by decide, by decide⟩ ⟨Nat.zero_le _, Nat.zero_le _⟩ (Nat.le_of_ble_eq_true rfl) dX7_mayStep_3 rfl (fun r M' L' hp1 => ?_)
  obtain ⟨rfl, rfl, rfl⟩ := hp1
  refine at_ve (b := (((qTo c d) : Nat) : Int)) (by unfold qTo; omega) ?_
  refine at_istore C [(5, .int (sI ((((qTo c d) : Nat) : Int)))), (0, .ref (G.1 (258))), (1, .int (sI ((m : Int)))), (2, .int (sI ((c : Int)))), (3, .int (sI (d))), (4, .int (sI ((x : Int))))] dX7_mayStep_6 (by decide) rfl ?_
  refine at_aload_n C 1 dX7_mayStep_8 rfl ?_
  refine at_getf (v := .ref (G.1 (274))) C (obj_Ref G) (ci := 7) rfl inX7 (slot := 27) (by decide) qw_909 rfl rfl dX7_mayStep_9 ?_
  refine at_bipush C dX7_mayStep_12 (by decide) (by decide) ?_
  refine at_iload_n C 2 dX7_mayStep_14 rfl ?_
  refine at_iconst C dX7_mayStep_15 ?_
  refine at_iadd C dX7_mayStep_16 ?_
  refine at_imul C dX7_mayStep_17 ?_
  refine at_iload C 0 dX7_mayStep_18 rfl ?_
  refine at_iadd C dX7_mayStep_20 ?_
  refine at_lald C ((12 * (m + 1)) + (qTo c d)) (ar_274 G) (by omega) (by omega) dX7_mayStep_21 ?_
  refine at_iload C 5 dX7_mayStep_22 rfl ?_
  refine at_aload_n C 1 dX7_mayStep_24 rfl ?_
  refine at_getf (v := .ref (G.1 (275))) C (obj_Ref G) (ci := 7) rfl inX7 (slot := 28) (by decide) qw_910 rfl rfl dX7_mayStep_25 ?_
  refine at_bipush C dX7_mayStep_28 (by decide) (by decide) ?_
  refine at_iload_n C 2 dX7_mayStep_30 rfl ?_
  refine at_imul C dX7_mayStep_31 ?_
  refine at_iload C 0 dX7_mayStep_32 rfl ?_
  refine at_iadd C dX7_mayStep_34 ?_
  refine at_iald C ((12 * m) + (qTo c d)) (ar_275 G) (by omega) (by omega) dX7_mayStep_35 ?_
  have hb2 : _ ≤ M 275 ((12 * m) + (qTo c d)) ∧ M 275 ((12 * m) + (qTo c d)) ≤ _ := tv hT (k := 275) (j := ((12 * m) + (qTo c d))) rfl
  refine at_ve (b := (((fdM M m (qTo c d)) : Nat) : Int)) (by unfold fdM; omega) ?_
  refine at_iconst C dX7_mayStep_36 ?_
  refine at_ixor C (-1 - ((fdM M m (qTo c d) : Nat) : Int)) dX7_mayStep_37 (zb_not _ (by unfold fdM; omega)) ?_
  refine at_iand C ((((sDel x (fdM M m (qTo c d))) : Nat) : Int)) dX7_mayStep_38 (zb_del1 _ hx _ (by unfold fdM; omega)) ?_
  refine at_lshr C dX7_mayStep_39 ?_
  refine at_lconst (v := 1) C dX7_mayStep_40 (by decide) ?_
  refine at_land C dX7_mayStep_41 ?_
  refine at_vl (y := if bitL (L 274 (12 * (m + 1) + qTo c d)) (sDel x (fdM M m (qTo c d))) then 1 else 0) (lshr_b hsd) ?_
  refine at_lconst (v := 1) C dX7_mayStep_42 (by decide) ?_
  refine at_lcmp C dX7_mayStep_43 ?_
  have hlc := lcI_c (if bitL (L 274 (12 * (m + 1) + qTo c d)) (sDel x (fdM M m (qTo c d))) then 1 else 0) 1
  refine at_if_ne C 51 dX7_mayStep_44 (by decide) (⟨by omega, by omega⟩) (fun h3 => ?_) (fun h3 => ?_)
  · refine at_iconst C dX7_mayStep_51 ?_
    exact hret _ _ _ _ _ dX7_mayStep_52 (sB_f (bit1_n (by rcases hlc with q | q | q <;> first | exact q.2 | omega))) ⟨rfl, rfl⟩
  · refine at_iconst C dX7_mayStep_47 ?_
    refine at_goto C 52 dX7_mayStep_48 (by decide) ?_
    exact hret _ _ _ _ _ dX7_mayStep_52 (sB_t (bit1_y (by rcases hlc with q | q | q <;> first | exact q.2 | omega))) ⟨rfl, rfl⟩

set_option maxHeartbeats 4000000 in
set_option maxRecDepth 100000 in
theorem c_X7_setCan (l : Launch) (D : va_G) (G : sG) {M : sM} {L : sL} (T : Nat) (hT20 : T ≤ 20) (hT : TInv M) : sKv l D G yX7_setCan cX7_setCan 8 2 45 [.ref (G.1 (258)), .int (sI ((T : Int)))] M L (fun M' L' => M = M' ∧ (∀ c, c ≠ 274 → L' c = L c) ∧ cnI M (qn M) T 0 L') := by
  refine sKv_go (by decide) (Nat.le_of_ble_eq_true rfl) ?_
  intro zp ze zs zm za zb zt zc Q C hret
  refine at_eq (lv' := [(0, .ref (G.1 (258))), (1, .int (sI ((T : Int))))]) (st' := []) (M' := M) (L' := L) ?_ rfl rfl rfl rfl
  have hqn := qn_r hT
  have hqc := qc_r hT
  have hqu := qu_r hT
  have hqt := qt_r hT
  have hqs := qs_r hT
  have hqo := qo_r hT
  have hqm := qm_r hT
  have hpn : 2 ^ qn M ≤ 64 := Nat.pow_le_pow_right (n := 2) (by decide) hqn.1
  refine at_iconst C dX7_setCan_0 ?_
  refine at_istore_n C [(2, .int (sI (0))), (0, .ref (G.1 (258))), (1, .int (sI ((T : Int))))] dX7_setCan_1 (by decide) rfl ?_
  have H2 : ∀ (fu : Nat) (k : Nat) (L1 : sL), 12 - k < fu → (k ≤ 12) → (∀ c, c ≠ 274 → L1 c = L c) → (∀ c, c < k → L1 274 (12 * T + c) = 1) → sAt zp l ze (sRm 2 45) zs zm za zb zt zc D G 8 0 0 Q 2 [(0, .ref (G.1 (258))), (1, .int (sI ((T : Int)))), (2, .int (sI ((k : Int))))] [] M L1 := by
    intro fu
    induction fu with
    | zero => intro k L1 hd hk hf hone; exact absurd hd (Nat.not_lt_zero _)
    | succ fu ih2 =>
      intro k L1 hd2 hk hf hone
      refine at_iload_n C 2 dX7_setCan_2 rfl ?_
      refine at_bipush C dX7_setCan_3 (by decide) (by decide) ?_
      refine at_icmp_ge C 26 dX7_setCan_5 (by decide) (⟨by omega, by omega⟩) (⟨by omega, by omega⟩) (fun h1 => ?_) (fun h1 => ?_)
      · refine at_iload_n C 1 dX7_setCan_26 rfl ?_
        refine at_iconst C dX7_setCan_27 ?_
        refine at_isub C dX7_setCan_28 ?_
        refine at_istore_n C [(2, .int (sI ((T : Int) - 1))), (0, .ref (G.1 (258))), (1, .int (sI ((T : Int))))] dX7_setCan_29 (by decide) rfl ?_
        have H30 : ∀ (fu : Nat) (m : Nat) (L1 : sL), m < fu → (m ≤ T) → (∀ c, c ≠ 274 → L1 c = L c) → (cnI M (qn M) T m L1) → sAt zp l ze (sRm 2 45) zs zm za zb zt zc D G 8 0 0 Q 30 [(0, .ref (G.1 (258))), (1, .int (sI ((T : Int)))), (2, .int (sI ((m : Int) - 1)))] [] M L1 := by
          intro fu
          induction fu with
          | zero => intro m L1 hd hm hf hI; exact absurd hd (Nat.not_lt_zero _)
          | succ fu ih30 =>
            intro m L1 hd30 hm hf hI
            refine at_iload_n C 2 dX7_setCan_30 rfl ?_
            refine at_if_lt C 151 dX7_setCan_31 (by decide) (⟨by omega, by omega⟩) (fun h2 => ?_) (fun h2 => ?_)
            · exact hret _ _ _ _ dX7_setCan_151 (⟨rfl, hf, (show m = 0 by omega) ▸ hI⟩)
            · obtain ⟨m, rfl⟩ : ∃ m0, m = m0 + 1 := ⟨m - 1, by omega⟩
              refine at_eq (lv' := [(0, .ref (G.1 (258))), (1, .int (sI ((T : Int)))), (2, .int (sI ((m : Int))))]) (st' := []) (M' := M) (L' := L1) ?_ (lvc_s (lvc_s (lvc_i (by omega) rfl))) rfl rfl rfl
              refine at_iconst C dX7_setCan_34 ?_
              refine at_istore_n C [(3, .int (sI (0))), (0, .ref (G.1 (258))), (1, .int (sI ((T : Int)))), (2, .int (sI ((m : Int))))] dX7_setCan_35 (by decide) rfl ?_
              have H36 : ∀ (fu : Nat) (c : Nat) (L1 : sL), 12 - c < fu → (c ≤ 12) → (∀ c, c ≠ 274 → L1 c = L c) → (cnI M (qn M) T (m + 1) L1) → (cnJ M (qn M) T m c L1) → sAt zp l ze (sRm 2 45) zs zm za zb zt zc D G 8 0 0 Q 36 [(0, .ref (G.1 (258))), (1, .int (sI ((T : Int)))), (2, .int (sI ((m : Int)))), (3, .int (sI ((c : Int))))] [] M L1 := by
                intro fu
                induction fu with
                | zero => intro c L1 hd hc hf hI hJ; exact absurd hd (Nat.not_lt_zero _)
                | succ fu ih36 =>
                  intro c L1 hd36 hc hf hI hJ
                  refine at_iload_n C 3 dX7_setCan_36 rfl ?_
                  refine at_bipush C dX7_setCan_37 (by decide) (by decide) ?_
                  refine at_icmp_ge C 145 dX7_setCan_39 (by decide) (⟨by omega, by omega⟩) (⟨by omega, by omega⟩) (fun h3 => ?_) (fun h3 => ?_)
                  · refine at_iinc C 2 [(2, .int (sI ((m : Int) + (-1)))), (0, .ref (G.1 (258))), (1, .int (sI ((T : Int)))), (3, .int (sI ((c : Int))))] dX7_setCan_145 rfl (by decide) rfl ?_
                    refine at_goto C 30 dX7_setCan_148 (by decide) ?_
                    refine at_lv [1, 2, 0] rfl ?_
                    exact at_eq (ih30 m L1 (by omega) (by omega) (hf) (cnI_s hI (show cnJ M (qn M) T m 12 L1 from (show c = 12 by omega) ▸ hJ))) (lvc_s (lvc_s (lvc_i (by omega) rfl))) rfl (rfl) (rfl)
                  · refine at_lconst (v := 0) C dX7_setCan_42 (by decide) ?_
                    refine at_lstore C [(4, .long (0)), (0, .ref (G.1 (258))), (1, .int (sI ((T : Int)))), (2, .int (sI ((m : Int)))), (3, .int (sI ((c : Int))))] dX7_setCan_43 (by decide) rfl ?_
                    refine at_iconst C dX7_setCan_45 ?_
                    refine at_istore C [(6, .int (sI (0))), (4, .long (0)), (0, .ref (G.1 (258))), (1, .int (sI ((T : Int)))), (2, .int (sI ((m : Int)))), (3, .int (sI ((c : Int))))] dX7_setCan_46 (by decide) rfl ?_
                    have H48 : ∀ (fu : Nat) (x : Nat), 2 ^ qn M - x < fu → (x ≤ 2 ^ qn M) → sAt zp l ze (sRm 2 45) zs zm za zb zt zc D G 8 0 0 Q 48 [(0, .ref (G.1 (258))), (1, .int (sI ((T : Int)))), (2, .int (sI ((m : Int)))), (3, .int (sI ((c : Int)))), (4, .long (lN (bits (fun x => may3 M L1 m c x) x))), (6, .int (sI ((x : Int))))] [] M L1 := by
                      intro fu
                      induction fu with
                      | zero => intro x hd hx; exact absurd hd (Nat.not_lt_zero _)
                      | succ fu ih48 =>
                        intro x hd48 hx
                        refine at_iload C 5 dX7_setCan_48 rfl ?_
                        refine at_iconst C dX7_setCan_50 ?_
                        refine at_aload_n C 0 dX7_setCan_51 rfl ?_
                        refine at_getf (v := .int (sI (M 258 1))) C (obj_Ref G) (ci := 7) rfl inX7 (slot := 1) (by decide) qw_883 rfl rfl dX7_setCan_52 ?_
                        have hb4 : _ ≤ M 258 1 ∧ M 258 1 ≤ _ := tv hT (k := 258) (j := 1) rfl
                        refine at_ve (b := (((qn M) : Nat) : Int)) (hqn.2) ?_
                        refine at_ishl C ((((2 ^ qn M) : Nat) : Int)) dX7_setCan_55 (zb_shl (by omega)) ?_
                        refine at_icmp_ge C 126 dX7_setCan_56 (by decide) (⟨by omega, by omega⟩) (⟨by omega, by omega⟩) (fun h5 => ?_) (fun h5 => ?_)
                        · obtain rfl : x = 2 ^ qn M := by omega
                          refine at_aload_n C 0 dX7_setCan_126 rfl ?_
                          refine at_getf (v := .ref (G.1 (274))) C (obj_Ref G) (ci := 7) rfl inX7 (slot := 27) (by decide) qw_909 rfl rfl dX7_setCan_127 ?_
                          refine at_bipush C dX7_setCan_130 (by decide) (by decide) ?_
                          refine at_iload_n C 2 dX7_setCan_132 rfl ?_
                          refine at_imul C dX7_setCan_133 ?_
                          refine at_iload_n C 3 dX7_setCan_134 rfl ?_
                          refine at_iadd C dX7_setCan_135 ?_
                          refine at_lload C 4 dX7_setCan_136 rfl ?_
                          refine at_last C ((12 * m) + c) (ar_274 G) (by omega) (by omega) dX7_setCan_138 ?_
                          refine at_iinc C 3 [(3, .int (sI ((c : Int) + 1))), (0, .ref (G.1 (258))), (1, .int (sI ((T : Int)))), (2, .int (sI ((m : Int)))), (4, .long (lN (bits (fun x => may3 M L1 m c x) (2 ^ qn M)))), (6, .int (sI ((((2 ^ qn M) : Nat) : Int))))] dX7_setCan_139 rfl (by decide) rfl ?_
                          refine at_goto C 36 dX7_setCan_142 (by decide) ?_
                          refine at_lv [1, 2, 3, 0] rfl ?_
                          exact at_eq (ih36 (c + 1) (sSl L1 274 ((12 * m) + c) (lN (bits (fun x => may3 M L1 m c x) (2 ^ qn M)))) (by omega) (by omega) (fun c hc => (sSl_ne hc).trans (hf c hc)) ((cnJ_s hqn.1 hI hJ (by omega) (by omega)).1) ((cnJ_s hqn.1 hI hJ (by omega) (by omega)).2)) (lvc_s (lvc_s (lvc_s (lvc_i (by omega) rfl)))) rfl (rfl) (rfl)
                        · refine at_aload_n C 0 dX7_setCan_59 rfl ?_
                          refine at_iload_n C 2 dX7_setCan_60 rfl ?_
                          refine at_iload_n C 3 dX7_setCan_61 rfl ?_
                          refine at_iconst C dX7_setCan_62 ?_
                          refine at_iload C 5 dX7_setCan_63 rfl ?_
                          refine at_call_i C (c_X7_mayStep l D G (M := M) (L := L1) m c x (-1) (by omega) (by omega) (by omega) ⟨by omega, by omega⟩ hT) (As := [.int (sI ((m : Int))), .int (sI ((c : Int))), .int (sI (-1)), .int (sI ((x : Int)))]) (obj_Ref G) (ci := 7) rfl qw_1283 qw_1280 qw_8 qw_1282 qp_79 ⟨by decide, by decide, show (parseMethodDescriptor yX7_mayStep.desc).map (fun d => d.parameters.length) = some 4 by decide +kernel⟩ ⟨by decide, by decide⟩ ⟨Nat.zero_le _, Nat.zero_le _⟩ (Nat.le_of_ble_eq_true rfl) dX7_setCan_65 rfl (fun r M' L' hp6 => ?_)
                          obtain ⟨rfl, rfl, rfl⟩ := hp6
                          refine at_if_neB C 95 dX7_setCan_68 (by decide) (fun h7 => ?_) (fun h7 => ?_)
                          · refine at_iconst C dX7_setCan_95 ?_
                            refine at_goto C 100 dX7_setCan_96 (by decide) ?_
                            refine at_istore C [(7, .int (sI (1))), (0, .ref (G.1 (258))), (1, .int (sI ((T : Int)))), (2, .int (sI ((m : Int)))), (3, .int (sI ((c : Int)))), (4, .long (lN (bits (fun x => may3 M L1 m c x) x))), (6, .int (sI ((x : Int))))] dX7_setCan_100 (by decide) rfl ?_
                            refine at_lload C 5 dX7_setCan_102 rfl ?_
                            refine at_iload C 0 dX7_setCan_104 rfl ?_
                            refine at_if_eq C 116 dX7_setCan_106 (by decide) (⟨by omega, by omega⟩) (fun h8 => absurd h8 (by omega)) (fun h8 => ?_)
                            refine at_lconst (v := 1) C dX7_setCan_109 (by decide) ?_
                            refine at_iload C 6 dX7_setCan_110 rfl ?_
                            refine at_lshl C dX7_setCan_112 ?_
                            refine at_vl (y := lN (2 ^ x)) (lshl_b (by omega)) ?_
                            refine at_goto C 117 dX7_setCan_113 (by decide) ?_
                            refine at_lor C dX7_setCan_117 ?_
                            refine at_vl (y := lN (bits (fun x => may3 M L1 m c x) (x + 1))) (by rw [lN_or, bits_y (p := (fun x => may3 M L1 m c x)) (by first | exact Or.inl (by assumption) | exact Or.inr (Or.inl (by assumption)) | exact Or.inr (Or.inr (by assumption)))]) ?_
                            refine at_lstore C [(4, .long (lN (bits (fun x => may3 M L1 m c x) (x + 1)))), (7, .int (sI (1))), (0, .ref (G.1 (258))), (1, .int (sI ((T : Int)))), (2, .int (sI ((m : Int)))), (3, .int (sI ((c : Int)))), (6, .int (sI ((x : Int))))] dX7_setCan_118 (by decide) rfl ?_
                            refine at_iinc C 6 [(6, .int (sI ((x : Int) + 1))), (4, .long (lN (bits (fun x => may3 M L1 m c x) (x + 1)))), (7, .int (sI (1))), (0, .ref (G.1 (258))), (1, .int (sI ((T : Int)))), (2, .int (sI ((m : Int)))), (3, .int (sI ((c : Int))))] dX7_setCan_120 rfl (by decide) rfl ?_
                            refine at_goto C 48 dX7_setCan_123 (by decide) ?_
                            refine at_lv [3, 4, 5, 6, 1, 0] rfl ?_
                            exact at_eq (ih48 (x + 1) (by omega) (by omega)) (lvc_s (lvc_s (lvc_s (lvc_s (lvc_l (rfl) (lvc_i (by omega) rfl)))))) rfl (rfl) (rfl)
                          · refine at_aload_n C 0 dX7_setCan_71 rfl ?_
                            refine at_iload_n C 2 dX7_setCan_72 rfl ?_
                            refine at_iload_n C 3 dX7_setCan_73 rfl ?_
                            refine at_iconst C dX7_setCan_74 ?_
                            refine at_iload C 5 dX7_setCan_75 rfl ?_
                            refine at_call_i C (c_X7_mayStep l D G (M := M) (L := L1) m c x 0 (by omega) (by omega) (by omega) ⟨by omega, by omega⟩ hT) (As := [.int (sI ((m : Int))), .int (sI ((c : Int))), .int (sI (0)), .int (sI ((x : Int)))]) (obj_Ref G) (ci := 7) rfl qw_1283 qw_1280 qw_8 qw_1282 qp_79 ⟨by decide, by decide, show (parseMethodDescriptor yX7_mayStep.desc).map (fun d => d.parameters.length) = some 4 by decide +kernel⟩ ⟨by decide, by decide⟩ ⟨Nat.zero_le _, Nat.zero_le _⟩ (Nat.le_of_ble_eq_true rfl) dX7_setCan_77 rfl (fun r M' L' hp9 => ?_)
                            obtain ⟨rfl, rfl, rfl⟩ := hp9
                            refine at_if_neB C 95 dX7_setCan_80 (by decide) (fun h10 => ?_) (fun h10 => ?_)
                            · refine at_iconst C dX7_setCan_95 ?_
                              refine at_goto C 100 dX7_setCan_96 (by decide) ?_
                              refine at_istore C [(7, .int (sI (1))), (0, .ref (G.1 (258))), (1, .int (sI ((T : Int)))), (2, .int (sI ((m : Int)))), (3, .int (sI ((c : Int)))), (4, .long (lN (bits (fun x => may3 M L1 m c x) x))), (6, .int (sI ((x : Int))))] dX7_setCan_100 (by decide) rfl ?_
                              refine at_lload C 5 dX7_setCan_102 rfl ?_
                              refine at_iload C 0 dX7_setCan_104 rfl ?_
                              refine at_if_eq C 116 dX7_setCan_106 (by decide) (⟨by omega, by omega⟩) (fun h11 => absurd h11 (by omega)) (fun h11 => ?_)
                              refine at_lconst (v := 1) C dX7_setCan_109 (by decide) ?_
                              refine at_iload C 6 dX7_setCan_110 rfl ?_
                              refine at_lshl C dX7_setCan_112 ?_
                              refine at_vl (y := lN (2 ^ x)) (lshl_b (by omega)) ?_
                              refine at_goto C 117 dX7_setCan_113 (by decide) ?_
                              refine at_lor C dX7_setCan_117 ?_
                              refine at_vl (y := lN (bits (fun x => may3 M L1 m c x) (x + 1))) (by rw [lN_or, bits_y (p := (fun x => may3 M L1 m c x)) (by first | exact Or.inl (by assumption) | exact Or.inr (Or.inl (by assumption)) | exact Or.inr (Or.inr (by assumption)))]) ?_
                              refine at_lstore C [(4, .long (lN (bits (fun x => may3 M L1 m c x) (x + 1)))), (7, .int (sI (1))), (0, .ref (G.1 (258))), (1, .int (sI ((T : Int)))), (2, .int (sI ((m : Int)))), (3, .int (sI ((c : Int)))), (6, .int (sI ((x : Int))))] dX7_setCan_118 (by decide) rfl ?_
                              refine at_iinc C 6 [(6, .int (sI ((x : Int) + 1))), (4, .long (lN (bits (fun x => may3 M L1 m c x) (x + 1)))), (7, .int (sI (1))), (0, .ref (G.1 (258))), (1, .int (sI ((T : Int)))), (2, .int (sI ((m : Int)))), (3, .int (sI ((c : Int))))] dX7_setCan_120 rfl (by decide) rfl ?_
                              refine at_goto C 48 dX7_setCan_123 (by decide) ?_
                              refine at_lv [3, 4, 5, 6, 1, 0] rfl ?_
                              exact at_eq (ih48 (x + 1) (by omega) (by omega)) (lvc_s (lvc_s (lvc_s (lvc_s (lvc_l (rfl) (lvc_i (by omega) rfl)))))) rfl (rfl) (rfl)
                            · refine at_aload_n C 0 dX7_setCan_83 rfl ?_
                              refine at_iload_n C 2 dX7_setCan_84 rfl ?_
                              refine at_iload_n C 3 dX7_setCan_85 rfl ?_
                              refine at_iconst C dX7_setCan_86 ?_
                              refine at_iload C 5 dX7_setCan_87 rfl ?_
                              refine at_call_i C (c_X7_mayStep l D G (M := M) (L := L1) m c x 1 (by omega) (by omega) (by omega) ⟨by omega, by omega⟩ hT) (As := [.int (sI ((m : Int))), .int (sI ((c : Int))), .int (sI (1)), .int (sI ((x : Int)))]) (obj_Ref G) (ci := 7) rfl qw_1283 qw_1280 qw_8 qw_1282 qp_79 ⟨by decide, by decide, show (parseMethodDescriptor yX7_mayStep.desc).map (fun d => d.parameters.length) = some 4 by decide +kernel⟩ ⟨by decide, by decide⟩ ⟨Nat.zero_le _, Nat.zero_le _⟩ (Nat.le_of_ble_eq_true rfl) dX7_setCan_89 rfl (fun r M' L' hp12 => ?_)
                              obtain ⟨rfl, rfl, rfl⟩ := hp12
                              refine at_if_eqB C 99 dX7_setCan_92 (by decide) (fun h13 => ?_) (fun h13 => ?_)
                              · refine at_iconst C dX7_setCan_99 ?_
                                refine at_istore C [(7, .int (sI (0))), (0, .ref (G.1 (258))), (1, .int (sI ((T : Int)))), (2, .int (sI ((m : Int)))), (3, .int (sI ((c : Int)))), (4, .long (lN (bits (fun x => may3 M L1 m c x) x))), (6, .int (sI ((x : Int))))] dX7_setCan_100 (by decide) rfl ?_
                                refine at_lload C 5 dX7_setCan_102 rfl ?_
                                refine at_iload C 0 dX7_setCan_104 rfl ?_
                                refine at_if_eq C 116 dX7_setCan_106 (by decide) (⟨by omega, by omega⟩) (fun h14 => ?_) (fun h14 => absurd h14 (by omega))
                                refine at_lconst (v := 0) C dX7_setCan_116 (by decide) ?_
                                refine at_lor C dX7_setCan_117 ?_
                                refine at_vl (y := lN (bits (fun x => may3 M L1 m c x) (x + 1))) (by rw [lor_0, bits_n (p := (fun x => may3 M L1 m c x)) (fun z => by rcases z with z | z | z <;> exact absurd z (by assumption))]) ?_
                                refine at_lstore C [(4, .long (lN (bits (fun x => may3 M L1 m c x) (x + 1)))), (7, .int (sI (0))), (0, .ref (G.1 (258))), (1, .int (sI ((T : Int)))), (2, .int (sI ((m : Int)))), (3, .int (sI ((c : Int)))), (6, .int (sI ((x : Int))))] dX7_setCan_118 (by decide) rfl ?_
                                refine at_iinc C 6 [(6, .int (sI ((x : Int) + 1))), (4, .long (lN (bits (fun x => may3 M L1 m c x) (x + 1)))), (7, .int (sI (0))), (0, .ref (G.1 (258))), (1, .int (sI ((T : Int)))), (2, .int (sI ((m : Int)))), (3, .int (sI ((c : Int))))] dX7_setCan_120 rfl (by decide) rfl ?_
                                refine at_goto C 48 dX7_setCan_123 (by decide) ?_
                                refine at_lv [3, 4, 5, 6, 1, 0] rfl ?_
                                exact at_eq (ih48 (x + 1) (by omega) (by omega)) (lvc_s (lvc_s (lvc_s (lvc_s (lvc_l (rfl) (lvc_i (by omega) rfl)))))) rfl (rfl) (rfl)
                              · refine at_iconst C dX7_setCan_95 ?_
                                refine at_goto C 100 dX7_setCan_96 (by decide) ?_
                                refine at_istore C [(7, .int (sI (1))), (0, .ref (G.1 (258))), (1, .int (sI ((T : Int)))), (2, .int (sI ((m : Int)))), (3, .int (sI ((c : Int)))), (4, .long (lN (bits (fun x => may3 M L1 m c x) x))), (6, .int (sI ((x : Int))))] dX7_setCan_100 (by decide) rfl ?_
                                refine at_lload C 5 dX7_setCan_102 rfl ?_
                                refine at_iload C 0 dX7_setCan_104 rfl ?_
                                refine at_if_eq C 116 dX7_setCan_106 (by decide) (⟨by omega, by omega⟩) (fun h15 => absurd h15 (by omega)) (fun h15 => ?_)
                                refine at_lconst (v := 1) C dX7_setCan_109 (by decide) ?_
                                refine at_iload C 6 dX7_setCan_110 rfl ?_
                                refine at_lshl C dX7_setCan_112 ?_
                                refine at_vl (y := lN (2 ^ x)) (lshl_b (by omega)) ?_
                                refine at_goto C 117 dX7_setCan_113 (by decide) ?_
                                refine at_lor C dX7_setCan_117 ?_
                                refine at_vl (y := lN (bits (fun x => may3 M L1 m c x) (x + 1))) (by rw [lN_or, bits_y (p := (fun x => may3 M L1 m c x)) (by first | exact Or.inl (by assumption) | exact Or.inr (Or.inl (by assumption)) | exact Or.inr (Or.inr (by assumption)))]) ?_
                                refine at_lstore C [(4, .long (lN (bits (fun x => may3 M L1 m c x) (x + 1)))), (7, .int (sI (1))), (0, .ref (G.1 (258))), (1, .int (sI ((T : Int)))), (2, .int (sI ((m : Int)))), (3, .int (sI ((c : Int)))), (6, .int (sI ((x : Int))))] dX7_setCan_118 (by decide) rfl ?_
                                refine at_iinc C 6 [(6, .int (sI ((x : Int) + 1))), (4, .long (lN (bits (fun x => may3 M L1 m c x) (x + 1)))), (7, .int (sI (1))), (0, .ref (G.1 (258))), (1, .int (sI ((T : Int)))), (2, .int (sI ((m : Int)))), (3, .int (sI ((c : Int))))] dX7_setCan_120 rfl (by decide) rfl ?_
                                refine at_goto C 48 dX7_setCan_123 (by decide) ?_
                                refine at_lv [3, 4, 5, 6, 1, 0] rfl ?_
                                exact at_eq (ih48 (x + 1) (by omega) (by omega)) (lvc_s (lvc_s (lvc_s (lvc_s (lvc_l (rfl) (lvc_i (by omega) rfl)))))) rfl (rfl) (rfl)
                    refine at_lv [2, 3, 4, 5, 1, 0] rfl ?_
                    exact at_eq (H48 _ 0 (Nat.lt_succ_self _) (Nat.zero_le _)) (lvc_s (lvc_s (lvc_s (lvc_s (lvc_l (rfl) (lvc_i (rfl) rfl)))))) rfl (rfl) (rfl)
              refine at_lv [1, 2, 3, 0] rfl ?_
              exact at_eq (H36 _ 0 L1 (Nat.lt_succ_self _) (by omega) (hf) (hI) (fun c x hc => absurd hc (Nat.not_lt_zero c))) (lvc_s (lvc_s (lvc_s (lvc_i (rfl) rfl)))) rfl (rfl) (rfl)
        refine at_lv [1, 2, 0] rfl ?_
        exact at_eq (H30 _ T L1 (Nat.lt_succ_self _) (Nat.le_refl T) (hf) (cnI_0 hqn.1 (fun c hc => hone c (by omega)))) rfl rfl (rfl) (rfl)
      · refine at_aload_n C 0 dX7_setCan_8 rfl ?_
        refine at_getf (v := .ref (G.1 (274))) C (obj_Ref G) (ci := 7) rfl inX7 (slot := 27) (by decide) qw_909 rfl rfl dX7_setCan_9 ?_
        refine at_bipush C dX7_setCan_12 (by decide) (by decide) ?_
        refine at_iload_n C 1 dX7_setCan_14 rfl ?_
        refine at_imul C dX7_setCan_15 ?_
        refine at_iload_n C 2 dX7_setCan_16 rfl ?_
        refine at_iadd C dX7_setCan_17 ?_
        refine at_lconst (v := 1) C dX7_setCan_18 (by decide) ?_
        refine at_last C ((12 * T) + k) (ar_274 G) (by omega) (by omega) dX7_setCan_19 ?_
        refine at_iinc C 2 [(2, .int (sI ((k : Int) + 1))), (0, .ref (G.1 (258))), (1, .int (sI ((T : Int))))] dX7_setCan_20 rfl (by decide) rfl ?_
        refine at_goto C 2 dX7_setCan_23 (by decide) ?_
        refine at_lv [1, 2, 0] rfl ?_
        exact at_eq (ih2 (k + 1) (sSl L1 274 ((12 * T) + k) 1) (by omega) (by omega) (fun c hc => (sSl_ne hc).trans (hf c hc)) (fun c hc => by rw [sSl_at]; by_cases e : c = k; (rw [e, if_pos ⟨rfl, rfl⟩]); (rw [if_neg (fun z => e (by have := z.2; omega))]; exact hone c (by omega)))) (lvc_s (lvc_s (lvc_i (by omega) rfl))) rfl (rfl) (rfl)
  refine at_lv [1, 2, 0] rfl ?_
  exact at_eq (H2 _ 0 L (Nat.lt_succ_self _) (by omega) (fun c _ => rfl) (fun c hc => absurd hc (Nat.not_lt_zero c))) (lvc_s (lvc_s (lvc_i (rfl) rfl))) rfl (rfl) (rfl)

set_option maxHeartbeats 4000000 in
set_option maxRecDepth 100000 in
theorem c_X7_walk (l : Launch) (D : va_G) (G : sG) {M : sM} {L : sL} (a k : Int) (har : InR a) (hkr : InR k) (hT : TInv M) (hc : qCt M) : sKi l D G yX7_walk cX7_walk 8 .int 5 111 [.ref (G.1 (258)), .int (sI (a)), .int (sI (k))] M L (fun r M' L' => (okQW M a k → (∃ ra, r = sI ra ∧ qwAns M a k ra) ∧ (∀ c, c ≠ 275 → M' c = M c)) ∧ (¬ okQW M a k → r = sI (-10) ∧ M' = qBad M) ∧ TInv M' ∧ (∀ c, c ≠ 274 → L' c = L c)) := by
  refine sKi_go (by decide) (Nat.le_of_ble_eq_true rfl) ?_
  intro zp ze zs zm za zb zt zc Q C hret
  refine at_eq (lv' := [(0, .ref (G.1 (258))), (1, .int (sI (a))), (2, .int (sI (k)))]) (st' := []) (M' := M) (L' := L) ?_ rfl rfl rfl rfl
  have hqn := qn_r hT
  have hqc := qc_r hT
  have hqu := qu_r hT
  have hqt := qt_r hT
  have hqs := qs_r hT
  have hqo := qo_r hT
  have hqm := qm_r hT
  have hpn : 2 ^ qn M ≤ 64 := Nat.pow_le_pow_right (n := 2) (by decide) hqn.1
  have hqcb := qcb_r hT
  have hpp : 0 < 2 ^ qn M := Nat.two_pow_pos _
  refine at_iload_n C 1 dX7_walk_0 rfl ?_
  refine at_iconst C dX7_walk_1 ?_
  refine at_iconst C dX7_walk_2 ?_
  refine at_aload_n C 0 dX7_walk_3 rfl ?_
  refine at_getf (v := .int (sI (M 258 1))) C (obj_Ref G) (ci := 7) rfl inX7 (slot := 1) (by decide) qw_883 rfl rfl dX7_walk_4 ?_
  have hb1 : _ ≤ M 258 1 ∧ M 258 1 ≤ _ := tv hT (k := 258) (j := 1) rfl
  refine at_ve (b := (((qn M) : Nat) : Int)) (hqn.2) ?_
  refine at_ishl C ((((2 ^ qn M) : Nat) : Int)) dX7_walk_7 (zb_shl (by omega)) ?_
  refine at_iconst C dX7_walk_8 ?_
  refine at_isub C dX7_walk_9 ?_
  refine at_stat_i C (c_X7_in l D G a 0 ((((2 ^ qn M) : Nat) : Int) - 1) ⟨by omega, by omega⟩ ⟨by omega, by omega⟩ ⟨by omega, by omega⟩) (As := [.int (sI (a)), .int (sI (0)), .int (sI ((((2 ^ qn M) : Nat) : Int) - 1))]) qw_1004 qw_1002 qw_8 qw_1003 ⟨by decide, by decide, show (parseMethodDescriptor yX7_in.desc).map (fun d => d.parameters.length) = some 3 by decide +kernel⟩ ⟨by decide, by decide⟩ ⟨Nat.zero_le _, Nat.zero_le _⟩ (Nat.le_of_ble_eq_true rfl) dX7_walk_10 rfl (fun r M' L' hp2 => ?_)
  obtain ⟨rfl, rfl, rfl⟩ := hp2
  refine at_if_eqB C 27 dX7_walk_13 (by decide) (fun h3 => ?_) (fun h3 => ?_)
  · refine at_aload_n C 0 dX7_walk_27 rfl ?_
    refine at_call_i C (c_X7_tenBad l D G hT ⟨by omega, by omega, by omega⟩) (As := []) (obj_Ref G) (ci := 7) rfl qw_1008 qw_1005 qw_8 qw_1007 qp_33 ⟨by decide, by decide, show (parseMethodDescriptor yX7_tenBad.desc).map (fun d => d.parameters.length) = some 0 by decide +kernel⟩ ⟨by decide, by decide⟩ ⟨Nat.zero_le _, Nat.zero_le _⟩ (Nat.le_of_ble_eq_true rfl) dX7_walk_28 rfl (fun r M' L' hp5 => ?_)
    obtain ⟨rfl, rfl, hT4, rfl⟩ := hp5
    exact hret _ _ _ _ _ dX7_walk_31 (⟨fun z => absurd z (fun y => by have y1 := y.1; have y2 := y.2; omega), fun _ => ⟨rfl, rfl⟩, hT4, fun c _ => rfl⟩)
  · refine at_iload_n C 2 dX7_walk_16 rfl ?_
    refine at_iconst C dX7_walk_17 ?_
    refine at_icmp_eq C 27 dX7_walk_18 (by decide) (⟨by omega, by omega⟩) (⟨by omega, by omega⟩) (fun h6 => ?_) (fun h6 => ?_)
    · refine at_aload_n C 0 dX7_walk_27 rfl ?_
      refine at_call_i C (c_X7_tenBad l D G hT ⟨by omega, by omega, by omega⟩) (As := []) (obj_Ref G) (ci := 7) rfl qw_1008 qw_1005 qw_8 qw_1007 qp_33 ⟨by decide, by decide, show (parseMethodDescriptor yX7_tenBad.desc).map (fun d => d.parameters.length) = some 0 by decide +kernel⟩ ⟨by decide, by decide⟩ ⟨Nat.zero_le _, Nat.zero_le _⟩ (Nat.le_of_ble_eq_true rfl) dX7_walk_28 rfl (fun r M' L' hp8 => ?_)
      obtain ⟨rfl, rfl, hT7, rfl⟩ := hp8
      exact hret _ _ _ _ _ dX7_walk_31 (⟨fun z => absurd z (fun y => by have y1 := y.1; have y2 := y.2; omega), fun _ => ⟨rfl, rfl⟩, hT7, fun c _ => rfl⟩)
    · refine at_iload_n C 2 dX7_walk_21 rfl ?_
      refine at_bipush C dX7_walk_22 (by decide) (by decide) ?_
      refine at_icmp_ge C 32 dX7_walk_24 (by decide) (⟨by omega, by omega⟩) (⟨by omega, by omega⟩) (fun h9 => ?_) (fun h9 => ?_)
      · obtain ⟨an, rfl⟩ : ∃ an : Nat, a = (an : Int) := ⟨a.toNat, by omega⟩
        refine at_iconst C dX7_walk_32 ?_
        refine at_istore_n C [(3, .int (sI (0))), (0, .ref (G.1 (258))), (1, .int (sI ((an : Int)))), (2, .int (sI (k)))] dX7_walk_33 (by decide) rfl ?_
        refine at_iconst C dX7_walk_34 ?_
        refine at_istore C [(4, .int (sI (0))), (3, .int (sI (0))), (0, .ref (G.1 (258))), (1, .int (sI ((an : Int)))), (2, .int (sI (k)))] dX7_walk_35 (by decide) rfl ?_
        have H37 : ∀ (fu : Nat) (j : Nat), qn M - j < fu → (j ≤ qn M) → sAt zp l ze (sRm 5 111) zs zm za zb zt zc D G 8 0 0 Q 37 [(0, .ref (G.1 (258))), (1, .int (sI ((an : Int)))), (2, .int (sI (k))), (3, .int (sI ((((bits (fun s => an.testBit s = true ∧ 0 ≤ M 263 s) j) : Nat) : Int)))), (4, .int (sI ((j : Int))))] [] M L := by
          intro fu
          induction fu with
          | zero => intro j hd hj; exact absurd hd (Nat.not_lt_zero _)
          | succ fu ih37 =>
            intro j hd37 hj
            have hbl : bits (fun s => an.testBit s = true ∧ 0 ≤ M 263 s) j < 64 := bits_lt6 _ (by omega)
            have hb3 := tv hT (k := 263) (j := j) (lo := -2) (hi := 11) rfl
            refine at_iload C 4 dX7_walk_37 rfl ?_
            refine at_aload_n C 0 dX7_walk_39 rfl ?_
            refine at_getf (v := .int (sI (M 258 1))) C (obj_Ref G) (ci := 7) rfl inX7 (slot := 1) (by decide) qw_883 rfl rfl dX7_walk_40 ?_
            have hb10 : _ ≤ M 258 1 ∧ M 258 1 ≤ _ := tv hT (k := 258) (j := 1) rfl
            refine at_ve (b := (((qn M) : Nat) : Int)) (hqn.2) ?_
            refine at_icmp_ge C 82 dX7_walk_43 (by decide) (⟨by omega, by omega⟩) (⟨by omega, by omega⟩) (fun h11 => ?_) (fun h11 => ?_)
            · obtain rfl : j = qn M := by omega
              refine at_eq (lv' := [(0, .ref (G.1 (258))), (1, .int (sI ((an : Int)))), (2, .int (sI (k))), (3, .int (sI ((((qWS M an) : Nat) : Int)))), (4, .int (sI ((((qn M) : Nat) : Int))))]) (st' := []) (M' := M) (L' := L) ?_ rfl rfl rfl rfl
              refine at_aload_n C 0 dX7_walk_82 rfl ?_
              refine at_call_v C (c_X7_setFound l D G hT) (As := []) (obj_Ref G) (ci := 7) rfl qw_1271 qw_1268 qw_8 qw_1270 qp_76 ⟨by decide, by decide, show (parseMethodDescriptor yX7_setFound.desc).map (fun d => d.parameters.length) = some 0 by decide +kernel⟩ ⟨by decide, by decide⟩ ⟨Nat.zero_le _, Nat.zero_le _⟩ (Nat.le_of_ble_eq_true rfl) dX7_walk_83 rfl (fun M' L' hp13 => ?_)
              obtain ⟨rfl, hT12, rfl⟩ := hp13
              have hws := qWS_lt M an
              refine at_iconst C dX7_walk_86 ?_
              refine at_istore C [(4, .int (sI (0))), (0, .ref (G.1 (258))), (1, .int (sI ((an : Int)))), (2, .int (sI (k))), (3, .int (sI ((((qWS M an) : Nat) : Int))))] dX7_walk_87 (by decide) rfl ?_
              refine at_aload_n C 1 dX7_walk_89 rfl ?_
              refine at_iconst C dX7_walk_90 ?_
              refine at_call_v C (c_X7_setCan l D G (M := (qFM M)) (L := L) 0 (by omega) hT12) (As := [.int (sI (0))]) (obj_Ref G) (ci := 7) rfl qw_1279 qw_1276 qw_8 qw_1278 qp_78 ⟨by decide, by decide, show (parseMethodDescriptor yX7_setCan.desc).map (fun d => d.parameters.length) = some 1 by decide +kernel⟩ ⟨by decide, by decide⟩ ⟨Nat.zero_le _, Nat.zero_le _⟩ (Nat.le_of_ble_eq_true rfl) dX7_walk_91 rfl (fun M' L16 hp15 => ?_)
              obtain ⟨rfl, hfL, hcI⟩ := hp15
              have H94 : ∀ (fu : Nat) (T : Nat) (L1 : sL), 20 - T < fu → (T ≤ 20) → (∀ c, c ≠ 274 → L1 c = L c) → (cnI (qFM M) (qn M) T 0 L1) → (∀ S, S < T → ¬ canM M S (qWS M an)) → sAt zp l ze (sRm 5 111) zs zm za zb zt zc D G 8 0 0 Q 94 [(0, .ref (G.1 (258))), (1, .int (sI ((an : Int)))), (2, .int (sI (k))), (3, .int (sI ((((qWS M an) : Nat) : Int)))), (4, .int (sI ((T : Int))))] [] (qFM M) L1 := by
                intro fu
                induction fu with
                | zero => intro T L1 hd hT20 hfr hI hno; exact absurd hd (Nat.not_lt_zero _)
                | succ fu ih94 =>
                  intro T L1 hd94 hT20 hfr hI hno
                  have hbit : bitL (L1 274 (12 * 0 + qcb M)) (qWS M an) ↔ canM M T (qWS M an) := (hI 0 (qcb M) _ (Nat.le_refl 0) (Nat.zero_le T) hqcb.1 (qWS_lt M an)).trans (canM_e hT20)
                  refine at_iload C 4 dX7_walk_94 rfl ?_
                  refine at_bipush C dX7_walk_96 (by decide) (by decide) ?_
                  refine at_icmp_ge C 131 dX7_walk_98 (by decide) (⟨by omega, by omega⟩) (⟨by omega, by omega⟩) (fun h17 => ?_) (fun h17 => ?_)
                  · refine at_aload_n C 0 dX7_walk_131 rfl ?_
                    refine at_getf (v := .ref (G.1 (274))) C (obj_Ref G) (ci := 7) rfl inX7 (slot := 27) (by decide) qw_909 rfl rfl dX7_walk_132 ?_
                    refine at_aload_n C 0 dX7_walk_135 rfl ?_
                    refine at_getf (v := .int (sI ((qFM M) 258 4))) C (obj_Ref G) (ci := 7) rfl inX7 (slot := 4) (by decide) qw_886 rfl rfl dX7_walk_136 ?_
                    refine at_ve (b := M 258 4) (rfl) ?_
                    have hb18 : _ ≤ M 258 4 ∧ M 258 4 ≤ _ := tv hT12 (k := 258) (j := 4) rfl
                    refine at_ve (b := (((qcb M) : Nat) : Int)) (hqcb.2) ?_
                    refine at_lald C (12 * 0 + qcb M) (ar_274 G) (by omega) (by omega) dX7_walk_139 ?_
                    refine at_iload_n C 3 dX7_walk_140 rfl ?_
                    refine at_lshr C dX7_walk_141 ?_
                    refine at_lconst (v := 1) C dX7_walk_142 (by decide) ?_
                    refine at_land C dX7_walk_143 ?_
                    refine at_vl (y := if bitL (L1 274 (12 * 0 + qcb M)) (qWS M an) then 1 else 0) (lshr_b (by omega)) ?_
                    refine at_lconst (v := 0) C dX7_walk_144 (by decide) ?_
                    refine at_lcmp C dX7_walk_145 ?_
                    have hlc := lcI_c (if bitL (L1 274 (12 * 0 + qcb M)) (qWS M an) then 1 else 0) 0
                    refine at_if_ne C 152 dX7_walk_146 (by decide) (⟨by omega, by omega⟩) (fun h19 => ?_) (fun h19 => ?_)
                    · have hyb : bitL (L1 274 (12 * 0 + qcb M)) (qWS M an) := bit0_y (by rcases hlc with q | q | q; exact q.2; omega; exact q.2)
                      have hcan := hbit.mp hyb
                      refine at_iload_n C 2 dX7_walk_152 rfl ?_
                      refine at_if_lt C 162 dX7_walk_153 (by decide) (⟨by omega, by omega⟩) (fun h20 => ?_) (fun h20 => ?_)
                      · refine at_iload_n C 2 dX7_walk_162 rfl ?_
                        refine at_if_ge C 171 dX7_walk_163 (by decide) (⟨by omega, by omega⟩) (fun h21 => ?_) (fun h21 => ?_)
                        · refine at_bipush C dX7_walk_171 (by decide) (by decide) ?_
                          exact hret _ _ _ _ _ dX7_walk_173 (⟨fun _ => ⟨⟨_, rfl, Or.inr ⟨T, hT20, hcan, hno, ((if_neg (by omega)).trans (if_neg (by omega))).symm⟩⟩, fun c hc => fil_ne hc⟩, fun z => absurd ⟨⟨by omega, by omega⟩, by omega⟩ z, hT12, hfr⟩)
                        · refine at_iload C 4 dX7_walk_166 rfl ?_
                          refine at_goto C 173 dX7_walk_168 (by decide) ?_
                          exact hret _ _ _ _ _ dX7_walk_173 (⟨fun _ => ⟨⟨_, rfl, Or.inr ⟨T, hT20, hcan, hno, (if_pos (by omega)).symm⟩⟩, fun c hc => fil_ne hc⟩, fun z => absurd ⟨⟨by omega, by omega⟩, by omega⟩ z, hT12, hfr⟩)
                      · refine at_iload_n C 2 dX7_walk_156 rfl ?_
                        refine at_iload C 4 dX7_walk_157 rfl ?_
                        refine at_icmp_lt C 174 dX7_walk_159 (by decide) (⟨by omega, by omega⟩) (⟨by omega, by omega⟩) (fun h22 => ?_) (fun h22 => ?_)
                        · obtain ⟨kn, rfl⟩ : ∃ kn : Nat, k = (kn : Int) := ⟨k.toNat, by omega⟩
                          have hkT : kn < T := by omega
                          refine at_aload_n C 0 dX7_walk_174 rfl ?_
                          refine at_getf (v := .int (sI ((qFM M) 258 4))) C (obj_Ref G) (ci := 7) rfl inX7 (slot := 4) (by decide) qw_886 rfl rfl dX7_walk_175 ?_
                          refine at_ve (b := M 258 4) (rfl) ?_
                          have hb23 : _ ≤ M 258 4 ∧ M 258 4 ≤ _ := tv hT12 (k := 258) (j := 4) rfl
                          refine at_ve (b := (((qcb M) : Nat) : Int)) (hqcb.2) ?_
                          refine at_istore C [(5, .int (sI ((((qcb M) : Nat) : Int)))), (0, .ref (G.1 (258))), (1, .int (sI ((an : Int)))), (2, .int (sI ((kn : Int)))), (3, .int (sI ((((qWS M an) : Nat) : Int)))), (4, .int (sI ((T : Int))))] dX7_walk_178 (by decide) rfl ?_
                          refine at_iconst C dX7_walk_180 ?_
                          refine at_istore C [(6, .int (sI (0))), (5, .int (sI ((((qcb M) : Nat) : Int)))), (0, .ref (G.1 (258))), (1, .int (sI ((an : Int)))), (2, .int (sI ((kn : Int)))), (3, .int (sI ((((qWS M an) : Nat) : Int)))), (4, .int (sI ((T : Int))))] dX7_walk_181 (by decide) rfl ?_
                          refine at_iconst C dX7_walk_183 ?_
                          refine at_istore C [(7, .int (sI (0))), (6, .int (sI (0))), (5, .int (sI ((((qcb M) : Nat) : Int)))), (0, .ref (G.1 (258))), (1, .int (sI ((an : Int)))), (2, .int (sI ((kn : Int)))), (3, .int (sI ((((qWS M an) : Nat) : Int)))), (4, .int (sI ((T : Int))))] dX7_walk_184 (by decide) rfl ?_
                          have H186 : ∀ (fu : Nat) (j : Nat), kn + 1 - j < fu → (j ≤ kn + 1) → sAt zp l ze (sRm 5 111) zs zm za zb zt zc D G 8 0 0 Q 186 [(0, .ref (G.1 (258))), (1, .int (sI ((an : Int)))), (2, .int (sI ((kn : Int)))), (3, .int (sI ((((gSt (fdM (qFM M)) T (qcb M) (qWS M an) j).2.1 : Nat) : Int)))), (4, .int (sI ((T : Int)))), (5, .int (sI ((((gSt (fdM (qFM M)) T (qcb M) (qWS M an) j).1 : Nat) : Int)))), (6, .int (sI ((gSt (fdM (qFM M)) T (qcb M) (qWS M an) j).2.2))), (7, .int (sI ((j : Int))))] [] (qFM M) L1 := by
                            intro fu
                            induction fu with
                            | zero => intro j hd hj; exact absurd hd (Nat.not_lt_zero _)
                            | succ fu ih186 =>
                              intro j hd186 hj
                              have hgs := gSt_r (f := fdM (qFM M)) (T := T) hqcb.1 (qWS_lt M an) j
                              have hgs1 := gSt_s (fdM (qFM M)) T (qcb M) (qWS M an) j
                              refine at_iload C 7 dX7_walk_186 rfl ?_
                              refine at_iload_n C 2 dX7_walk_188 rfl ?_
                              refine at_icmp_gt C 263 dX7_walk_189 (by decide) (⟨by omega, by omega⟩) (⟨by omega, by omega⟩) (fun h24 => ?_) (fun h24 => ?_)
                              · refine at_iload C 6 dX7_walk_263 rfl ?_
                                refine at_iconst C dX7_walk_265 ?_
                                refine at_iadd C dX7_walk_266 ?_
                                exact hret _ _ _ _ _ dX7_walk_267 (⟨fun _ => ⟨⟨_, rfl, Or.inr ⟨T, hT20, hcan, hno, by rw [if_neg (by omega), if_pos (by omega), Int.toNat_natCast, Int.toNat_natCast, ← gSt_c hT20 _ (by omega), show kn + 1 = j by omega]⟩⟩, fun c hc => fil_ne hc⟩, fun z => absurd ⟨⟨by omega, by omega⟩, by omega⟩ z, hT12, hfr⟩)
                              · have hxx : (gSt (fdM (qFM M)) T (qcb M) (qWS M an) j).2.1 < 2 ^ qn M := hgs.2.1
                                have hI2 : cnI (qFM M) (qn M) T (j + 1) L1 := fun a c x h1 h2 => hI a c x (by omega) h2
                                refine at_aload_n C 0 dX7_walk_192 rfl ?_
                                refine at_iload C 7 dX7_walk_193 rfl ?_
                                refine at_iload C 5 dX7_walk_195 rfl ?_
                                refine at_iconst C dX7_walk_197 ?_
                                refine at_iload_n C 3 dX7_walk_198 rfl ?_
                                refine at_call_i C (c_X7_mayStep l D G (M := (qFM M)) (L := L1) j ((gSt (fdM (qFM M)) T (qcb M) (qWS M an) j).1) ((gSt (fdM (qFM M)) T (qcb M) (qWS M an) j).2.1) (-1) (by omega) (by omega) (by omega) ⟨by omega, by omega⟩ hT12) (As := [.int (sI ((j : Int))), .int (sI ((((gSt (fdM (qFM M)) T (qcb M) (qWS M an) j).1 : Nat) : Int))), .int (sI (-1)), .int (sI ((((gSt (fdM (qFM M)) T (qcb M) (qWS M an) j).2.1 : Nat) : Int)))]) (obj_Ref G) (ci := 7) rfl qw_1283 qw_1280 qw_8 qw_1282 qp_79 ⟨by decide, by decide, show (parseMethodDescriptor yX7_mayStep.desc).map (fun d => d.parameters.length) = some 4 by decide +kernel⟩ ⟨by decide, by decide⟩ ⟨Nat.zero_le _, Nat.zero_le _⟩ (Nat.le_of_ble_eq_true rfl) dX7_walk_199 rfl (fun r M' L' hp25 => ?_)
                                obtain ⟨rfl, rfl, rfl⟩ := hp25
                                refine at_if_eqB C 209 dX7_walk_202 (by decide) (fun h26 => ?_) (fun h26 => ?_)
                                · refine at_aload_n C 0 dX7_walk_209 rfl ?_
                                  refine at_iload C 7 dX7_walk_210 rfl ?_
                                  refine at_iload C 5 dX7_walk_212 rfl ?_
                                  refine at_iconst C dX7_walk_214 ?_
                                  refine at_iload_n C 3 dX7_walk_215 rfl ?_
                                  refine at_call_i C (c_X7_mayStep l D G (M := (qFM M)) (L := L1) j ((gSt (fdM (qFM M)) T (qcb M) (qWS M an) j).1) ((gSt (fdM (qFM M)) T (qcb M) (qWS M an) j).2.1) 0 (by omega) (by omega) (by omega) ⟨by omega, by omega⟩ hT12) (As := [.int (sI ((j : Int))), .int (sI ((((gSt (fdM (qFM M)) T (qcb M) (qWS M an) j).1 : Nat) : Int))), .int (sI (0)), .int (sI ((((gSt (fdM (qFM M)) T (qcb M) (qWS M an) j).2.1 : Nat) : Int)))]) (obj_Ref G) (ci := 7) rfl qw_1283 qw_1280 qw_8 qw_1282 qp_79 ⟨by decide, by decide, show (parseMethodDescriptor yX7_mayStep.desc).map (fun d => d.parameters.length) = some 4 by decide +kernel⟩ ⟨by decide, by decide⟩ ⟨Nat.zero_le _, Nat.zero_le _⟩ (Nat.le_of_ble_eq_true rfl) dX7_walk_216 rfl (fun r M' L' hp27 => ?_)
                                  obtain ⟨rfl, rfl, rfl⟩ := hp27
                                  refine at_if_eqB C 226 dX7_walk_219 (by decide) (fun h28 => ?_) (fun h28 => ?_)
                                  · refine at_iconst C dX7_walk_226 ?_
                                    refine at_ve (b := gD (fdM (qFM M)) T j (gSt (fdM (qFM M)) T (qcb M) (qWS M an) j).1 (gSt (fdM (qFM M)) T (qcb M) (qWS M an) j).2.1) (by unfold gD; rw [if_neg (fun z => absurd ((cnI_may hI2 (by omega) hxx (-1)).mpr z) (by assumption)), if_neg (fun z => absurd ((cnI_may hI2 (by omega) hxx 0).mpr z) (by assumption))]) ?_
                                    refine at_istore C [(6, .int (sI (gD (fdM (qFM M)) T j (gSt (fdM (qFM M)) T (qcb M) (qWS M an) j).1 (gSt (fdM (qFM M)) T (qcb M) (qWS M an) j).2.1))), (0, .ref (G.1 (258))), (1, .int (sI ((an : Int)))), (2, .int (sI ((kn : Int)))), (3, .int (sI ((((gSt (fdM (qFM M)) T (qcb M) (qWS M an) j).2.1 : Nat) : Int)))), (4, .int (sI ((T : Int)))), (5, .int (sI ((((gSt (fdM (qFM M)) T (qcb M) (qWS M an) j).1 : Nat) : Int)))), (7, .int (sI ((j : Int))))] dX7_walk_227 (by decide) rfl ?_
                                    have hgr := gD_r (fdM (qFM M)) T j (gSt (fdM (qFM M)) T (qcb M) (qWS M an) j).1 (gSt (fdM (qFM M)) T (qcb M) (qWS M an) j).2.1
                                    have hto := qTo_lt (gSt (fdM (qFM M)) T (qcb M) (qWS M an) j).1 (gD (fdM (qFM M)) T j (gSt (fdM (qFM M)) T (qcb M) (qWS M an) j).1 (gSt (fdM (qFM M)) T (qcb M) (qWS M an) j).2.1)
                                    refine at_iload C 6 dX7_walk_229 rfl ?_
                                    refine at_iload C 0 dX7_walk_231 rfl ?_
                                    refine at_iadd C dX7_walk_233 ?_
                                    refine at_stat_i C (c_X7_onShore l D G ((((gSt (fdM (qFM M)) T (qcb M) (qWS M an) j).1 : Nat) : Int) + (gD (fdM (qFM M)) T j (gSt (fdM (qFM M)) T (qcb M) (qWS M an) j).1 (gSt (fdM (qFM M)) T (qcb M) (qWS M an) j).2.1)) ⟨by omega, by omega⟩) (As := [.int (sI ((((gSt (fdM (qFM M)) T (qcb M) (qWS M an) j).1 : Nat) : Int) + (gD (fdM (qFM M)) T j (gSt (fdM (qFM M)) T (qcb M) (qWS M an) j).1 (gSt (fdM (qFM M)) T (qcb M) (qWS M an) j).2.1)))]) qw_1117 qw_1115 qw_8 qw_1116 ⟨by decide, by decide, show (parseMethodDescriptor yX7_onShore.desc).map (fun d => d.parameters.length) = some 1 by decide +kernel⟩ ⟨by decide, by decide⟩ ⟨Nat.zero_le _, Nat.zero_le _⟩ (Nat.le_of_ble_eq_true rfl) dX7_walk_234 rfl (fun r M' L' hp29 => ?_)
                                    obtain ⟨rfl, rfl, rfl⟩ := hp29
                                    refine at_ve (b := (((qTo (gSt (fdM (qFM M)) T (qcb M) (qWS M an) j).1 (gD (fdM (qFM M)) T j (gSt (fdM (qFM M)) T (qcb M) (qWS M an) j).1 (gSt (fdM (qFM M)) T (qcb M) (qWS M an) j).2.1)) : Nat) : Int)) (by unfold qTo; omega) ?_
                                    refine at_istore C [(5, .int (sI ((((qTo (gSt (fdM (qFM M)) T (qcb M) (qWS M an) j).1 (gD (fdM (qFM M)) T j (gSt (fdM (qFM M)) T (qcb M) (qWS M an) j).1 (gSt (fdM (qFM M)) T (qcb M) (qWS M an) j).2.1)) : Nat) : Int)))), (6, .int (sI (gD (fdM (qFM M)) T j (gSt (fdM (qFM M)) T (qcb M) (qWS M an) j).1 (gSt (fdM (qFM M)) T (qcb M) (qWS M an) j).2.1))), (0, .ref (G.1 (258))), (1, .int (sI ((an : Int)))), (2, .int (sI ((kn : Int)))), (3, .int (sI ((((gSt (fdM (qFM M)) T (qcb M) (qWS M an) j).2.1 : Nat) : Int)))), (4, .int (sI ((T : Int)))), (7, .int (sI ((j : Int))))] dX7_walk_237 (by decide) rfl ?_
                                    refine at_iload_n C 5 dX7_walk_239 rfl ?_
                                    refine at_aload_n C 2 dX7_walk_240 rfl ?_
                                    refine at_getf (v := .ref (G.1 (275))) C (obj_Ref G) (ci := 7) rfl inX7 (slot := 28) (by decide) qw_910 rfl rfl dX7_walk_241 ?_
                                    refine at_bipush C dX7_walk_244 (by decide) (by decide) ?_
                                    refine at_iload C 7 dX7_walk_246 rfl ?_
                                    refine at_imul C dX7_walk_248 ?_
                                    refine at_iload C 0 dX7_walk_249 rfl ?_
                                    refine at_iadd C dX7_walk_251 ?_
                                    refine at_iald C ((12 * j) + (qTo (gSt (fdM (qFM M)) T (qcb M) (qWS M an) j).1 (gD (fdM (qFM M)) T j (gSt (fdM (qFM M)) T (qcb M) (qWS M an) j).1 (gSt (fdM (qFM M)) T (qcb M) (qWS M an) j).2.1))) (ar_275 G) (by omega) (by omega) dX7_walk_252 ?_
                                    have hb30 : _ ≤ (qFM M) 275 ((12 * j) + (qTo (gSt (fdM (qFM M)) T (qcb M) (qWS M an) j).1 (gD (fdM (qFM M)) T j (gSt (fdM (qFM M)) T (qcb M) (qWS M an) j).1 (gSt (fdM (qFM M)) T (qcb M) (qWS M an) j).2.1))) ∧ (qFM M) 275 ((12 * j) + (qTo (gSt (fdM (qFM M)) T (qcb M) (qWS M an) j).1 (gD (fdM (qFM M)) T j (gSt (fdM (qFM M)) T (qcb M) (qWS M an) j).1 (gSt (fdM (qFM M)) T (qcb M) (qWS M an) j).2.1))) ≤ _ := tv hT12 (k := 275) (j := ((12 * j) + (qTo (gSt (fdM (qFM M)) T (qcb M) (qWS M an) j).1 (gD (fdM (qFM M)) T j (gSt (fdM (qFM M)) T (qcb M) (qWS M an) j).1 (gSt (fdM (qFM M)) T (qcb M) (qWS M an) j).2.1)))) rfl
                                    refine at_ve (b := (((fdM (qFM M) j (qTo (gSt (fdM (qFM M)) T (qcb M) (qWS M an) j).1 (gD (fdM (qFM M)) T j (gSt (fdM (qFM M)) T (qcb M) (qWS M an) j).1 (gSt (fdM (qFM M)) T (qcb M) (qWS M an) j).2.1))) : Nat) : Int)) (fdM_e hT12 _ _) ?_
                                    refine at_iconst C dX7_walk_253 ?_
                                    refine at_ixor C (-1 - ((((fdM (qFM M) j (qTo (gSt (fdM (qFM M)) T (qcb M) (qWS M an) j).1 (gD (fdM (qFM M)) T j (gSt (fdM (qFM M)) T (qcb M) (qWS M an) j).1 (gSt (fdM (qFM M)) T (qcb M) (qWS M an) j).2.1))) : Nat) : Int))) dX7_walk_254 (zb_not _ (fdM_lt hT12 _ _)) ?_
                                    refine at_iand C ((((sDel (gSt (fdM (qFM M)) T (qcb M) (qWS M an) j).2.1 (fdM (qFM M) j (qTo (gSt (fdM (qFM M)) T (qcb M) (qWS M an) j).1 (gD (fdM (qFM M)) T j (gSt (fdM (qFM M)) T (qcb M) (qWS M an) j).1 (gSt (fdM (qFM M)) T (qcb M) (qWS M an) j).2.1)))) : Nat) : Int)) dX7_walk_255 (zb_del1 _ (by omega) _ (fdM_lt hT12 _ _)) ?_
                                    refine at_istore_n C [(3, .int (sI ((((sDel (gSt (fdM (qFM M)) T (qcb M) (qWS M an) j).2.1 (fdM (qFM M) j (qTo (gSt (fdM (qFM M)) T (qcb M) (qWS M an) j).1 (gD (fdM (qFM M)) T j (gSt (fdM (qFM M)) T (qcb M) (qWS M an) j).1 (gSt (fdM (qFM M)) T (qcb M) (qWS M an) j).2.1)))) : Nat) : Int)))), (5, .int (sI ((((qTo (gSt (fdM (qFM M)) T (qcb M) (qWS M an) j).1 (gD (fdM (qFM M)) T j (gSt (fdM (qFM M)) T (qcb M) (qWS M an) j).1 (gSt (fdM (qFM M)) T (qcb M) (qWS M an) j).2.1)) : Nat) : Int)))), (6, .int (sI (gD (fdM (qFM M)) T j (gSt (fdM (qFM M)) T (qcb M) (qWS M an) j).1 (gSt (fdM (qFM M)) T (qcb M) (qWS M an) j).2.1))), (0, .ref (G.1 (258))), (1, .int (sI ((an : Int)))), (2, .int (sI ((kn : Int)))), (4, .int (sI ((T : Int)))), (7, .int (sI ((j : Int))))] dX7_walk_256 (by decide) rfl ?_
                                    refine at_iinc C 7 [(7, .int (sI ((j : Int) + 1))), (3, .int (sI ((((sDel (gSt (fdM (qFM M)) T (qcb M) (qWS M an) j).2.1 (fdM (qFM M) j (qTo (gSt (fdM (qFM M)) T (qcb M) (qWS M an) j).1 (gD (fdM (qFM M)) T j (gSt (fdM (qFM M)) T (qcb M) (qWS M an) j).1 (gSt (fdM (qFM M)) T (qcb M) (qWS M an) j).2.1)))) : Nat) : Int)))), (5, .int (sI ((((qTo (gSt (fdM (qFM M)) T (qcb M) (qWS M an) j).1 (gD (fdM (qFM M)) T j (gSt (fdM (qFM M)) T (qcb M) (qWS M an) j).1 (gSt (fdM (qFM M)) T (qcb M) (qWS M an) j).2.1)) : Nat) : Int)))), (6, .int (sI (gD (fdM (qFM M)) T j (gSt (fdM (qFM M)) T (qcb M) (qWS M an) j).1 (gSt (fdM (qFM M)) T (qcb M) (qWS M an) j).2.1))), (0, .ref (G.1 (258))), (1, .int (sI ((an : Int)))), (2, .int (sI ((kn : Int)))), (4, .int (sI ((T : Int))))] dX7_walk_257 rfl (by decide) rfl ?_
                                    refine at_goto C 186 dX7_walk_260 (by decide) ?_
                                    refine at_lv [4, 5, 6, 1, 7, 2, 3, 0] rfl ?_
                                    exact at_eq (ih186 (j + 1) (by omega) (by omega)) (lvc_s (lvc_s (lvc_s (lvc_i (by rw [hgs1]) (lvc_s (lvc_i (by rw [hgs1]) (lvc_i (by rw [hgs1]) (lvc_i (by omega) rfl)))))))) rfl (rfl) (rfl)
                                  · refine at_iconst C dX7_walk_222 ?_
                                    refine at_goto C 227 dX7_walk_223 (by decide) ?_
                                    refine at_ve (b := gD (fdM (qFM M)) T j (gSt (fdM (qFM M)) T (qcb M) (qWS M an) j).1 (gSt (fdM (qFM M)) T (qcb M) (qWS M an) j).2.1) (by unfold gD; rw [if_neg (fun z => absurd ((cnI_may hI2 (by omega) hxx (-1)).mpr z) (by assumption)), if_pos ((cnI_may hI2 (by omega) hxx 0).mp (by assumption))]) ?_
                                    refine at_istore C [(6, .int (sI (gD (fdM (qFM M)) T j (gSt (fdM (qFM M)) T (qcb M) (qWS M an) j).1 (gSt (fdM (qFM M)) T (qcb M) (qWS M an) j).2.1))), (0, .ref (G.1 (258))), (1, .int (sI ((an : Int)))), (2, .int (sI ((kn : Int)))), (3, .int (sI ((((gSt (fdM (qFM M)) T (qcb M) (qWS M an) j).2.1 : Nat) : Int)))), (4, .int (sI ((T : Int)))), (5, .int (sI ((((gSt (fdM (qFM M)) T (qcb M) (qWS M an) j).1 : Nat) : Int)))), (7, .int (sI ((j : Int))))] dX7_walk_227 (by decide) rfl ?_
                                    have hgr := gD_r (fdM (qFM M)) T j (gSt (fdM (qFM M)) T (qcb M) (qWS M an) j).1 (gSt (fdM (qFM M)) T (qcb M) (qWS M an) j).2.1
                                    have hto := qTo_lt (gSt (fdM (qFM M)) T (qcb M) (qWS M an) j).1 (gD (fdM (qFM M)) T j (gSt (fdM (qFM M)) T (qcb M) (qWS M an) j).1 (gSt (fdM (qFM M)) T (qcb M) (qWS M an) j).2.1)
                                    refine at_iload C 6 dX7_walk_229 rfl ?_
                                    refine at_iload C 0 dX7_walk_231 rfl ?_
                                    refine at_iadd C dX7_walk_233 ?_
                                    refine at_stat_i C (c_X7_onShore l D G ((((gSt (fdM (qFM M)) T (qcb M) (qWS M an) j).1 : Nat) : Int) + (gD (fdM (qFM M)) T j (gSt (fdM (qFM M)) T (qcb M) (qWS M an) j).1 (gSt (fdM (qFM M)) T (qcb M) (qWS M an) j).2.1)) ⟨by omega, by omega⟩) (As := [.int (sI ((((gSt (fdM (qFM M)) T (qcb M) (qWS M an) j).1 : Nat) : Int) + (gD (fdM (qFM M)) T j (gSt (fdM (qFM M)) T (qcb M) (qWS M an) j).1 (gSt (fdM (qFM M)) T (qcb M) (qWS M an) j).2.1)))]) qw_1117 qw_1115 qw_8 qw_1116 ⟨by decide, by decide, show (parseMethodDescriptor yX7_onShore.desc).map (fun d => d.parameters.length) = some 1 by decide +kernel⟩ ⟨by decide, by decide⟩ ⟨Nat.zero_le _, Nat.zero_le _⟩ (Nat.le_of_ble_eq_true rfl) dX7_walk_234 rfl (fun r M' L' hp31 => ?_)
                                    obtain ⟨rfl, rfl, rfl⟩ := hp31
                                    refine at_ve (b := (((qTo (gSt (fdM (qFM M)) T (qcb M) (qWS M an) j).1 (gD (fdM (qFM M)) T j (gSt (fdM (qFM M)) T (qcb M) (qWS M an) j).1 (gSt (fdM (qFM M)) T (qcb M) (qWS M an) j).2.1)) : Nat) : Int)) (by unfold qTo; omega) ?_
                                    refine at_istore C [(5, .int (sI ((((qTo (gSt (fdM (qFM M)) T (qcb M) (qWS M an) j).1 (gD (fdM (qFM M)) T j (gSt (fdM (qFM M)) T (qcb M) (qWS M an) j).1 (gSt (fdM (qFM M)) T (qcb M) (qWS M an) j).2.1)) : Nat) : Int)))), (6, .int (sI (gD (fdM (qFM M)) T j (gSt (fdM (qFM M)) T (qcb M) (qWS M an) j).1 (gSt (fdM (qFM M)) T (qcb M) (qWS M an) j).2.1))), (0, .ref (G.1 (258))), (1, .int (sI ((an : Int)))), (2, .int (sI ((kn : Int)))), (3, .int (sI ((((gSt (fdM (qFM M)) T (qcb M) (qWS M an) j).2.1 : Nat) : Int)))), (4, .int (sI ((T : Int)))), (7, .int (sI ((j : Int))))] dX7_walk_237 (by decide) rfl ?_
                                    refine at_iload_n C 5 dX7_walk_239 rfl ?_
                                    refine at_aload_n C 2 dX7_walk_240 rfl ?_
                                    refine at_getf (v := .ref (G.1 (275))) C (obj_Ref G) (ci := 7) rfl inX7 (slot := 28) (by decide) qw_910 rfl rfl dX7_walk_241 ?_
                                    refine at_bipush C dX7_walk_244 (by decide) (by decide) ?_
                                    refine at_iload C 7 dX7_walk_246 rfl ?_
                                    refine at_imul C dX7_walk_248 ?_
                                    refine at_iload C 0 dX7_walk_249 rfl ?_
                                    refine at_iadd C dX7_walk_251 ?_
                                    refine at_iald C ((12 * j) + (qTo (gSt (fdM (qFM M)) T (qcb M) (qWS M an) j).1 (gD (fdM (qFM M)) T j (gSt (fdM (qFM M)) T (qcb M) (qWS M an) j).1 (gSt (fdM (qFM M)) T (qcb M) (qWS M an) j).2.1))) (ar_275 G) (by omega) (by omega) dX7_walk_252 ?_
                                    have hb32 : _ ≤ (qFM M) 275 ((12 * j) + (qTo (gSt (fdM (qFM M)) T (qcb M) (qWS M an) j).1 (gD (fdM (qFM M)) T j (gSt (fdM (qFM M)) T (qcb M) (qWS M an) j).1 (gSt (fdM (qFM M)) T (qcb M) (qWS M an) j).2.1))) ∧ (qFM M) 275 ((12 * j) + (qTo (gSt (fdM (qFM M)) T (qcb M) (qWS M an) j).1 (gD (fdM (qFM M)) T j (gSt (fdM (qFM M)) T (qcb M) (qWS M an) j).1 (gSt (fdM (qFM M)) T (qcb M) (qWS M an) j).2.1))) ≤ _ := tv hT12 (k := 275) (j := ((12 * j) + (qTo (gSt (fdM (qFM M)) T (qcb M) (qWS M an) j).1 (gD (fdM (qFM M)) T j (gSt (fdM (qFM M)) T (qcb M) (qWS M an) j).1 (gSt (fdM (qFM M)) T (qcb M) (qWS M an) j).2.1)))) rfl
                                    refine at_ve (b := (((fdM (qFM M) j (qTo (gSt (fdM (qFM M)) T (qcb M) (qWS M an) j).1 (gD (fdM (qFM M)) T j (gSt (fdM (qFM M)) T (qcb M) (qWS M an) j).1 (gSt (fdM (qFM M)) T (qcb M) (qWS M an) j).2.1))) : Nat) : Int)) (fdM_e hT12 _ _) ?_
                                    refine at_iconst C dX7_walk_253 ?_
                                    refine at_ixor C (-1 - ((((fdM (qFM M) j (qTo (gSt (fdM (qFM M)) T (qcb M) (qWS M an) j).1 (gD (fdM (qFM M)) T j (gSt (fdM (qFM M)) T (qcb M) (qWS M an) j).1 (gSt (fdM (qFM M)) T (qcb M) (qWS M an) j).2.1))) : Nat) : Int))) dX7_walk_254 (zb_not _ (fdM_lt hT12 _ _)) ?_
                                    refine at_iand C ((((sDel (gSt (fdM (qFM M)) T (qcb M) (qWS M an) j).2.1 (fdM (qFM M) j (qTo (gSt (fdM (qFM M)) T (qcb M) (qWS M an) j).1 (gD (fdM (qFM M)) T j (gSt (fdM (qFM M)) T (qcb M) (qWS M an) j).1 (gSt (fdM (qFM M)) T (qcb M) (qWS M an) j).2.1)))) : Nat) : Int)) dX7_walk_255 (zb_del1 _ (by omega) _ (fdM_lt hT12 _ _)) ?_
                                    refine at_istore_n C [(3, .int (sI ((((sDel (gSt (fdM (qFM M)) T (qcb M) (qWS M an) j).2.1 (fdM (qFM M) j (qTo (gSt (fdM (qFM M)) T (qcb M) (qWS M an) j).1 (gD (fdM (qFM M)) T j (gSt (fdM (qFM M)) T (qcb M) (qWS M an) j).1 (gSt (fdM (qFM M)) T (qcb M) (qWS M an) j).2.1)))) : Nat) : Int)))), (5, .int (sI ((((qTo (gSt (fdM (qFM M)) T (qcb M) (qWS M an) j).1 (gD (fdM (qFM M)) T j (gSt (fdM (qFM M)) T (qcb M) (qWS M an) j).1 (gSt (fdM (qFM M)) T (qcb M) (qWS M an) j).2.1)) : Nat) : Int)))), (6, .int (sI (gD (fdM (qFM M)) T j (gSt (fdM (qFM M)) T (qcb M) (qWS M an) j).1 (gSt (fdM (qFM M)) T (qcb M) (qWS M an) j).2.1))), (0, .ref (G.1 (258))), (1, .int (sI ((an : Int)))), (2, .int (sI ((kn : Int)))), (4, .int (sI ((T : Int)))), (7, .int (sI ((j : Int))))] dX7_walk_256 (by decide) rfl ?_
                                    refine at_iinc C 7 [(7, .int (sI ((j : Int) + 1))), (3, .int (sI ((((sDel (gSt (fdM (qFM M)) T (qcb M) (qWS M an) j).2.1 (fdM (qFM M) j (qTo (gSt (fdM (qFM M)) T (qcb M) (qWS M an) j).1 (gD (fdM (qFM M)) T j (gSt (fdM (qFM M)) T (qcb M) (qWS M an) j).1 (gSt (fdM (qFM M)) T (qcb M) (qWS M an) j).2.1)))) : Nat) : Int)))), (5, .int (sI ((((qTo (gSt (fdM (qFM M)) T (qcb M) (qWS M an) j).1 (gD (fdM (qFM M)) T j (gSt (fdM (qFM M)) T (qcb M) (qWS M an) j).1 (gSt (fdM (qFM M)) T (qcb M) (qWS M an) j).2.1)) : Nat) : Int)))), (6, .int (sI (gD (fdM (qFM M)) T j (gSt (fdM (qFM M)) T (qcb M) (qWS M an) j).1 (gSt (fdM (qFM M)) T (qcb M) (qWS M an) j).2.1))), (0, .ref (G.1 (258))), (1, .int (sI ((an : Int)))), (2, .int (sI ((kn : Int)))), (4, .int (sI ((T : Int))))] dX7_walk_257 rfl (by decide) rfl ?_
                                    refine at_goto C 186 dX7_walk_260 (by decide) ?_
                                    refine at_lv [4, 5, 6, 1, 7, 2, 3, 0] rfl ?_
                                    exact at_eq (ih186 (j + 1) (by omega) (by omega)) (lvc_s (lvc_s (lvc_s (lvc_i (by rw [hgs1]) (lvc_s (lvc_i (by rw [hgs1]) (lvc_i (by rw [hgs1]) (lvc_i (by omega) rfl)))))))) rfl (rfl) (rfl)
                                · refine at_iconst C dX7_walk_205 ?_
                                  refine at_goto C 227 dX7_walk_206 (by decide) ?_
                                  refine at_ve (b := gD (fdM (qFM M)) T j (gSt (fdM (qFM M)) T (qcb M) (qWS M an) j).1 (gSt (fdM (qFM M)) T (qcb M) (qWS M an) j).2.1) (by unfold gD; rw [if_pos ((cnI_may hI2 (by omega) hxx (-1)).mp (by assumption))]) ?_
                                  refine at_istore C [(6, .int (sI (gD (fdM (qFM M)) T j (gSt (fdM (qFM M)) T (qcb M) (qWS M an) j).1 (gSt (fdM (qFM M)) T (qcb M) (qWS M an) j).2.1))), (0, .ref (G.1 (258))), (1, .int (sI ((an : Int)))), (2, .int (sI ((kn : Int)))), (3, .int (sI ((((gSt (fdM (qFM M)) T (qcb M) (qWS M an) j).2.1 : Nat) : Int)))), (4, .int (sI ((T : Int)))), (5, .int (sI ((((gSt (fdM (qFM M)) T (qcb M) (qWS M an) j).1 : Nat) : Int)))), (7, .int (sI ((j : Int))))] dX7_walk_227 (by decide) rfl ?_
                                  have hgr := gD_r (fdM (qFM M)) T j (gSt (fdM (qFM M)) T (qcb M) (qWS M an) j).1 (gSt (fdM (qFM M)) T (qcb M) (qWS M an) j).2.1
                                  have hto := qTo_lt (gSt (fdM (qFM M)) T (qcb M) (qWS M an) j).1 (gD (fdM (qFM M)) T j (gSt (fdM (qFM M)) T (qcb M) (qWS M an) j).1 (gSt (fdM (qFM M)) T (qcb M) (qWS M an) j).2.1)
                                  refine at_iload C 6 dX7_walk_229 rfl ?_
                                  refine at_iload C 0 dX7_walk_231 rfl ?_
                                  refine at_iadd C dX7_walk_233 ?_
                                  refine at_stat_i C (c_X7_onShore l D G ((((gSt (fdM (qFM M)) T (qcb M) (qWS M an) j).1 : Nat) : Int) + (gD (fdM (qFM M)) T j (gSt (fdM (qFM M)) T (qcb M) (qWS M an) j).1 (gSt (fdM (qFM M)) T (qcb M) (qWS M an) j).2.1)) ⟨by omega, by omega⟩) (As := [.int (sI ((((gSt (fdM (qFM M)) T (qcb M) (qWS M an) j).1 : Nat) : Int) + (gD (fdM (qFM M)) T j (gSt (fdM (qFM M)) T (qcb M) (qWS M an) j).1 (gSt (fdM (qFM M)) T (qcb M) (qWS M an) j).2.1)))]) qw_1117 qw_1115 qw_8 qw_1116 ⟨by decide, by decide, show (parseMethodDescriptor yX7_onShore.desc).map (fun d => d.parameters.length) = some 1 by decide +kernel⟩ ⟨by decide, by decide⟩ ⟨Nat.zero_le _, Nat.zero_le _⟩ (Nat.le_of_ble_eq_true rfl) dX7_walk_234 rfl (fun r M' L' hp33 => ?_)
                                  obtain ⟨rfl, rfl, rfl⟩ := hp33
                                  refine at_ve (b := (((qTo (gSt (fdM (qFM M)) T (qcb M) (qWS M an) j).1 (gD (fdM (qFM M)) T j (gSt (fdM (qFM M)) T (qcb M) (qWS M an) j).1 (gSt (fdM (qFM M)) T (qcb M) (qWS M an) j).2.1)) : Nat) : Int)) (by unfold qTo; omega) ?_
                                  refine at_istore C [(5, .int (sI ((((qTo (gSt (fdM (qFM M)) T (qcb M) (qWS M an) j).1 (gD (fdM (qFM M)) T j (gSt (fdM (qFM M)) T (qcb M) (qWS M an) j).1 (gSt (fdM (qFM M)) T (qcb M) (qWS M an) j).2.1)) : Nat) : Int)))), (6, .int (sI (gD (fdM (qFM M)) T j (gSt (fdM (qFM M)) T (qcb M) (qWS M an) j).1 (gSt (fdM (qFM M)) T (qcb M) (qWS M an) j).2.1))), (0, .ref (G.1 (258))), (1, .int (sI ((an : Int)))), (2, .int (sI ((kn : Int)))), (3, .int (sI ((((gSt (fdM (qFM M)) T (qcb M) (qWS M an) j).2.1 : Nat) : Int)))), (4, .int (sI ((T : Int)))), (7, .int (sI ((j : Int))))] dX7_walk_237 (by decide) rfl ?_
                                  refine at_iload_n C 5 dX7_walk_239 rfl ?_
                                  refine at_aload_n C 2 dX7_walk_240 rfl ?_
                                  refine at_getf (v := .ref (G.1 (275))) C (obj_Ref G) (ci := 7) rfl inX7 (slot := 28) (by decide) qw_910 rfl rfl dX7_walk_241 ?_
                                  refine at_bipush C dX7_walk_244 (by decide) (by decide) ?_
                                  refine at_iload C 7 dX7_walk_246 rfl ?_
                                  refine at_imul C dX7_walk_248 ?_
                                  refine at_iload C 0 dX7_walk_249 rfl ?_
                                  refine at_iadd C dX7_walk_251 ?_
                                  refine at_iald C ((12 * j) + (qTo (gSt (fdM (qFM M)) T (qcb M) (qWS M an) j).1 (gD (fdM (qFM M)) T j (gSt (fdM (qFM M)) T (qcb M) (qWS M an) j).1 (gSt (fdM (qFM M)) T (qcb M) (qWS M an) j).2.1))) (ar_275 G) (by omega) (by omega) dX7_walk_252 ?_
                                  have hb34 : _ ≤ (qFM M) 275 ((12 * j) + (qTo (gSt (fdM (qFM M)) T (qcb M) (qWS M an) j).1 (gD (fdM (qFM M)) T j (gSt (fdM (qFM M)) T (qcb M) (qWS M an) j).1 (gSt (fdM (qFM M)) T (qcb M) (qWS M an) j).2.1))) ∧ (qFM M) 275 ((12 * j) + (qTo (gSt (fdM (qFM M)) T (qcb M) (qWS M an) j).1 (gD (fdM (qFM M)) T j (gSt (fdM (qFM M)) T (qcb M) (qWS M an) j).1 (gSt (fdM (qFM M)) T (qcb M) (qWS M an) j).2.1))) ≤ _ := tv hT12 (k := 275) (j := ((12 * j) + (qTo (gSt (fdM (qFM M)) T (qcb M) (qWS M an) j).1 (gD (fdM (qFM M)) T j (gSt (fdM (qFM M)) T (qcb M) (qWS M an) j).1 (gSt (fdM (qFM M)) T (qcb M) (qWS M an) j).2.1)))) rfl
                                  refine at_ve (b := (((fdM (qFM M) j (qTo (gSt (fdM (qFM M)) T (qcb M) (qWS M an) j).1 (gD (fdM (qFM M)) T j (gSt (fdM (qFM M)) T (qcb M) (qWS M an) j).1 (gSt (fdM (qFM M)) T (qcb M) (qWS M an) j).2.1))) : Nat) : Int)) (fdM_e hT12 _ _) ?_
                                  refine at_iconst C dX7_walk_253 ?_
                                  refine at_ixor C (-1 - ((((fdM (qFM M) j (qTo (gSt (fdM (qFM M)) T (qcb M) (qWS M an) j).1 (gD (fdM (qFM M)) T j (gSt (fdM (qFM M)) T (qcb M) (qWS M an) j).1 (gSt (fdM (qFM M)) T (qcb M) (qWS M an) j).2.1))) : Nat) : Int))) dX7_walk_254 (zb_not _ (fdM_lt hT12 _ _)) ?_
                                  refine at_iand C ((((sDel (gSt (fdM (qFM M)) T (qcb M) (qWS M an) j).2.1 (fdM (qFM M) j (qTo (gSt (fdM (qFM M)) T (qcb M) (qWS M an) j).1 (gD (fdM (qFM M)) T j (gSt (fdM (qFM M)) T (qcb M) (qWS M an) j).1 (gSt (fdM (qFM M)) T (qcb M) (qWS M an) j).2.1)))) : Nat) : Int)) dX7_walk_255 (zb_del1 _ (by omega) _ (fdM_lt hT12 _ _)) ?_
                                  refine at_istore_n C [(3, .int (sI ((((sDel (gSt (fdM (qFM M)) T (qcb M) (qWS M an) j).2.1 (fdM (qFM M) j (qTo (gSt (fdM (qFM M)) T (qcb M) (qWS M an) j).1 (gD (fdM (qFM M)) T j (gSt (fdM (qFM M)) T (qcb M) (qWS M an) j).1 (gSt (fdM (qFM M)) T (qcb M) (qWS M an) j).2.1)))) : Nat) : Int)))), (5, .int (sI ((((qTo (gSt (fdM (qFM M)) T (qcb M) (qWS M an) j).1 (gD (fdM (qFM M)) T j (gSt (fdM (qFM M)) T (qcb M) (qWS M an) j).1 (gSt (fdM (qFM M)) T (qcb M) (qWS M an) j).2.1)) : Nat) : Int)))), (6, .int (sI (gD (fdM (qFM M)) T j (gSt (fdM (qFM M)) T (qcb M) (qWS M an) j).1 (gSt (fdM (qFM M)) T (qcb M) (qWS M an) j).2.1))), (0, .ref (G.1 (258))), (1, .int (sI ((an : Int)))), (2, .int (sI ((kn : Int)))), (4, .int (sI ((T : Int)))), (7, .int (sI ((j : Int))))] dX7_walk_256 (by decide) rfl ?_
                                  refine at_iinc C 7 [(7, .int (sI ((j : Int) + 1))), (3, .int (sI ((((sDel (gSt (fdM (qFM M)) T (qcb M) (qWS M an) j).2.1 (fdM (qFM M) j (qTo (gSt (fdM (qFM M)) T (qcb M) (qWS M an) j).1 (gD (fdM (qFM M)) T j (gSt (fdM (qFM M)) T (qcb M) (qWS M an) j).1 (gSt (fdM (qFM M)) T (qcb M) (qWS M an) j).2.1)))) : Nat) : Int)))), (5, .int (sI ((((qTo (gSt (fdM (qFM M)) T (qcb M) (qWS M an) j).1 (gD (fdM (qFM M)) T j (gSt (fdM (qFM M)) T (qcb M) (qWS M an) j).1 (gSt (fdM (qFM M)) T (qcb M) (qWS M an) j).2.1)) : Nat) : Int)))), (6, .int (sI (gD (fdM (qFM M)) T j (gSt (fdM (qFM M)) T (qcb M) (qWS M an) j).1 (gSt (fdM (qFM M)) T (qcb M) (qWS M an) j).2.1))), (0, .ref (G.1 (258))), (1, .int (sI ((an : Int)))), (2, .int (sI ((kn : Int)))), (4, .int (sI ((T : Int))))] dX7_walk_257 rfl (by decide) rfl ?_
                                  refine at_goto C 186 dX7_walk_260 (by decide) ?_
                                  refine at_lv [4, 5, 6, 1, 7, 2, 3, 0] rfl ?_
                                  exact at_eq (ih186 (j + 1) (by omega) (by omega)) (lvc_s (lvc_s (lvc_s (lvc_i (by rw [hgs1]) (lvc_s (lvc_i (by rw [hgs1]) (lvc_i (by rw [hgs1]) (lvc_i (by omega) rfl)))))))) rfl (rfl) (rfl)
                          refine at_lv [3, 4, 5, 6, 7, 2, 1, 0] rfl ?_
                          exact at_eq (H186 _ 0 (Nat.lt_succ_self _) (by omega)) (lvc_s (lvc_s (lvc_s (lvc_i (rfl) (lvc_s (lvc_i (rfl) (lvc_i (rfl) (lvc_i (rfl) rfl)))))))) rfl (rfl) (rfl)
                        · refine at_iload_n C 2 dX7_walk_162 rfl ?_
                          refine at_if_ge C 171 dX7_walk_163 (by decide) (⟨by omega, by omega⟩) (fun h35 => ?_) (fun h35 => ?_)
                          · refine at_bipush C dX7_walk_171 (by decide) (by decide) ?_
                            exact hret _ _ _ _ _ dX7_walk_173 (⟨fun _ => ⟨⟨_, rfl, Or.inr ⟨T, hT20, hcan, hno, ((if_neg (by omega)).trans (if_neg (by omega))).symm⟩⟩, fun c hc => fil_ne hc⟩, fun z => absurd ⟨⟨by omega, by omega⟩, by omega⟩ z, hT12, hfr⟩)
                          · refine at_iload C 4 dX7_walk_166 rfl ?_
                            refine at_goto C 173 dX7_walk_168 (by decide) ?_
                            exact hret _ _ _ _ _ dX7_walk_173 (⟨fun _ => ⟨⟨_, rfl, Or.inr ⟨T, hT20, hcan, hno, (if_pos (by omega)).symm⟩⟩, fun c hc => fil_ne hc⟩, fun z => absurd ⟨⟨by omega, by omega⟩, by omega⟩ z, hT12, hfr⟩)
                    · have hnb : ¬ bitL (L1 274 (12 * 0 + qcb M)) (qWS M an) := bit0_n (by rcases hlc with q | q | q; omega; exact q.2; omega)
                      refine at_bipush C dX7_walk_149 (by decide) (by decide) ?_
                      exact hret _ _ _ _ _ dX7_walk_151 (⟨fun _ => ⟨⟨_, rfl, Or.inl ⟨fun S hS z => by by_cases e : S = T; (subst e; exact absurd (hbit.mpr z) hnb); exact hno S (by omega) z, rfl⟩⟩, fun c hc => fil_ne hc⟩, fun z => absurd ⟨⟨by omega, by omega⟩, by omega⟩ z, hT12, hfr⟩)
                  · refine at_aload_n C 0 dX7_walk_101 rfl ?_
                    refine at_getf (v := .ref (G.1 (274))) C (obj_Ref G) (ci := 7) rfl inX7 (slot := 27) (by decide) qw_909 rfl rfl dX7_walk_102 ?_
                    refine at_aload_n C 0 dX7_walk_105 rfl ?_
                    refine at_getf (v := .int (sI ((qFM M) 258 4))) C (obj_Ref G) (ci := 7) rfl inX7 (slot := 4) (by decide) qw_886 rfl rfl dX7_walk_106 ?_
                    refine at_ve (b := M 258 4) (rfl) ?_
                    have hb36 : _ ≤ M 258 4 ∧ M 258 4 ≤ _ := tv hT12 (k := 258) (j := 4) rfl
                    refine at_ve (b := (((qcb M) : Nat) : Int)) (hqcb.2) ?_
                    refine at_lald C (12 * 0 + qcb M) (ar_274 G) (by omega) (by omega) dX7_walk_109 ?_
                    refine at_iload_n C 3 dX7_walk_110 rfl ?_
                    refine at_lshr C dX7_walk_111 ?_
                    refine at_lconst (v := 1) C dX7_walk_112 (by decide) ?_
                    refine at_land C dX7_walk_113 ?_
                    refine at_vl (y := if bitL (L1 274 (12 * 0 + qcb M)) (qWS M an) then 1 else 0) (lshr_b (by omega)) ?_
                    refine at_lconst (v := 0) C dX7_walk_114 (by decide) ?_
                    refine at_lcmp C dX7_walk_115 ?_
                    have hlc := lcI_c (if bitL (L1 274 (12 * 0 + qcb M)) (qWS M an) then 1 else 0) 0
                    refine at_if_ne C 131 dX7_walk_116 (by decide) (⟨by omega, by omega⟩) (fun h37 => ?_) (fun h37 => ?_)
                    · refine at_aload_n C 0 dX7_walk_131 rfl ?_
                      refine at_getf (v := .ref (G.1 (274))) C (obj_Ref G) (ci := 7) rfl inX7 (slot := 27) (by decide) qw_909 rfl rfl dX7_walk_132 ?_
                      refine at_aload_n C 0 dX7_walk_135 rfl ?_
                      refine at_getf (v := .int (sI ((qFM M) 258 4))) C (obj_Ref G) (ci := 7) rfl inX7 (slot := 4) (by decide) qw_886 rfl rfl dX7_walk_136 ?_
                      refine at_ve (b := M 258 4) (rfl) ?_
                      have hb38 : _ ≤ M 258 4 ∧ M 258 4 ≤ _ := tv hT12 (k := 258) (j := 4) rfl
                      refine at_ve (b := (((qcb M) : Nat) : Int)) (hqcb.2) ?_
                      refine at_lald C (12 * 0 + qcb M) (ar_274 G) (by omega) (by omega) dX7_walk_139 ?_
                      refine at_iload_n C 3 dX7_walk_140 rfl ?_
                      refine at_lshr C dX7_walk_141 ?_
                      refine at_lconst (v := 1) C dX7_walk_142 (by decide) ?_
                      refine at_land C dX7_walk_143 ?_
                      refine at_vl (y := if bitL (L1 274 (12 * 0 + qcb M)) (qWS M an) then 1 else 0) (lshr_b (by omega)) ?_
                      refine at_lconst (v := 0) C dX7_walk_144 (by decide) ?_
                      refine at_lcmp C dX7_walk_145 ?_
                      have hlc := lcI_c (if bitL (L1 274 (12 * 0 + qcb M)) (qWS M an) then 1 else 0) 0
                      refine at_if_ne C 152 dX7_walk_146 (by decide) (⟨by omega, by omega⟩) (fun h39 => ?_) (fun h39 => ?_)
                      · have hyb : bitL (L1 274 (12 * 0 + qcb M)) (qWS M an) := bit0_y (by rcases hlc with q | q | q; exact q.2; omega; exact q.2)
                        have hcan := hbit.mp hyb
                        refine at_iload_n C 2 dX7_walk_152 rfl ?_
                        refine at_if_lt C 162 dX7_walk_153 (by decide) (⟨by omega, by omega⟩) (fun h40 => ?_) (fun h40 => ?_)
                        · refine at_iload_n C 2 dX7_walk_162 rfl ?_
                          refine at_if_ge C 171 dX7_walk_163 (by decide) (⟨by omega, by omega⟩) (fun h41 => ?_) (fun h41 => ?_)
                          · refine at_bipush C dX7_walk_171 (by decide) (by decide) ?_
                            exact hret _ _ _ _ _ dX7_walk_173 (⟨fun _ => ⟨⟨_, rfl, Or.inr ⟨T, hT20, hcan, hno, ((if_neg (by omega)).trans (if_neg (by omega))).symm⟩⟩, fun c hc => fil_ne hc⟩, fun z => absurd ⟨⟨by omega, by omega⟩, by omega⟩ z, hT12, hfr⟩)
                          · refine at_iload C 4 dX7_walk_166 rfl ?_
                            refine at_goto C 173 dX7_walk_168 (by decide) ?_
                            exact hret _ _ _ _ _ dX7_walk_173 (⟨fun _ => ⟨⟨_, rfl, Or.inr ⟨T, hT20, hcan, hno, (if_pos (by omega)).symm⟩⟩, fun c hc => fil_ne hc⟩, fun z => absurd ⟨⟨by omega, by omega⟩, by omega⟩ z, hT12, hfr⟩)
                        · refine at_iload_n C 2 dX7_walk_156 rfl ?_
                          refine at_iload C 4 dX7_walk_157 rfl ?_
                          refine at_icmp_lt C 174 dX7_walk_159 (by decide) (⟨by omega, by omega⟩) (⟨by omega, by omega⟩) (fun h42 => ?_) (fun h42 => ?_)
                          · obtain ⟨kn, rfl⟩ : ∃ kn : Nat, k = (kn : Int) := ⟨k.toNat, by omega⟩
                            have hkT : kn < T := by omega
                            refine at_aload_n C 0 dX7_walk_174 rfl ?_
                            refine at_getf (v := .int (sI ((qFM M) 258 4))) C (obj_Ref G) (ci := 7) rfl inX7 (slot := 4) (by decide) qw_886 rfl rfl dX7_walk_175 ?_
                            refine at_ve (b := M 258 4) (rfl) ?_
                            have hb43 : _ ≤ M 258 4 ∧ M 258 4 ≤ _ := tv hT12 (k := 258) (j := 4) rfl
                            refine at_ve (b := (((qcb M) : Nat) : Int)) (hqcb.2) ?_
                            refine at_istore C [(5, .int (sI ((((qcb M) : Nat) : Int)))), (0, .ref (G.1 (258))), (1, .int (sI ((an : Int)))), (2, .int (sI ((kn : Int)))), (3, .int (sI ((((qWS M an) : Nat) : Int)))), (4, .int (sI ((T : Int))))] dX7_walk_178 (by decide) rfl ?_
                            refine at_iconst C dX7_walk_180 ?_
                            refine at_istore C [(6, .int (sI (0))), (5, .int (sI ((((qcb M) : Nat) : Int)))), (0, .ref (G.1 (258))), (1, .int (sI ((an : Int)))), (2, .int (sI ((kn : Int)))), (3, .int (sI ((((qWS M an) : Nat) : Int)))), (4, .int (sI ((T : Int))))] dX7_walk_181 (by decide) rfl ?_
                            refine at_iconst C dX7_walk_183 ?_
                            refine at_istore C [(7, .int (sI (0))), (6, .int (sI (0))), (5, .int (sI ((((qcb M) : Nat) : Int)))), (0, .ref (G.1 (258))), (1, .int (sI ((an : Int)))), (2, .int (sI ((kn : Int)))), (3, .int (sI ((((qWS M an) : Nat) : Int)))), (4, .int (sI ((T : Int))))] dX7_walk_184 (by decide) rfl ?_
                            have H186 : ∀ (fu : Nat) (j : Nat), kn + 1 - j < fu → (j ≤ kn + 1) → sAt zp l ze (sRm 5 111) zs zm za zb zt zc D G 8 0 0 Q 186 [(0, .ref (G.1 (258))), (1, .int (sI ((an : Int)))), (2, .int (sI ((kn : Int)))), (3, .int (sI ((((gSt (fdM (qFM M)) T (qcb M) (qWS M an) j).2.1 : Nat) : Int)))), (4, .int (sI ((T : Int)))), (5, .int (sI ((((gSt (fdM (qFM M)) T (qcb M) (qWS M an) j).1 : Nat) : Int)))), (6, .int (sI ((gSt (fdM (qFM M)) T (qcb M) (qWS M an) j).2.2))), (7, .int (sI ((j : Int))))] [] (qFM M) L1 := by
                              intro fu
                              induction fu with
                              | zero => intro j hd hj; exact absurd hd (Nat.not_lt_zero _)
                              | succ fu ih186 =>
                                intro j hd186 hj
                                have hgs := gSt_r (f := fdM (qFM M)) (T := T) hqcb.1 (qWS_lt M an) j
                                have hgs1 := gSt_s (fdM (qFM M)) T (qcb M) (qWS M an) j
                                refine at_iload C 7 dX7_walk_186 rfl ?_
                                refine at_iload_n C 2 dX7_walk_188 rfl ?_
                                refine at_icmp_gt C 263 dX7_walk_189 (by decide) (⟨by omega, by omega⟩) (⟨by omega, by omega⟩) (fun h44 => ?_) (fun h44 => ?_)
                                · refine at_iload C 6 dX7_walk_263 rfl ?_
                                  refine at_iconst C dX7_walk_265 ?_
                                  refine at_iadd C dX7_walk_266 ?_
                                  exact hret _ _ _ _ _ dX7_walk_267 (⟨fun _ => ⟨⟨_, rfl, Or.inr ⟨T, hT20, hcan, hno, by rw [if_neg (by omega), if_pos (by omega), Int.toNat_natCast, Int.toNat_natCast, ← gSt_c hT20 _ (by omega), show kn + 1 = j by omega]⟩⟩, fun c hc => fil_ne hc⟩, fun z => absurd ⟨⟨by omega, by omega⟩, by omega⟩ z, hT12, hfr⟩)
                                · have hxx : (gSt (fdM (qFM M)) T (qcb M) (qWS M an) j).2.1 < 2 ^ qn M := hgs.2.1
                                  have hI2 : cnI (qFM M) (qn M) T (j + 1) L1 := fun a c x h1 h2 => hI a c x (by omega) h2
                                  refine at_aload_n C 0 dX7_walk_192 rfl ?_
                                  refine at_iload C 7 dX7_walk_193 rfl ?_
                                  refine at_iload C 5 dX7_walk_195 rfl ?_
                                  refine at_iconst C dX7_walk_197 ?_
                                  refine at_iload_n C 3 dX7_walk_198 rfl ?_
                                  refine at_call_i C (c_X7_mayStep l D G (M := (qFM M)) (L := L1) j ((gSt (fdM (qFM M)) T (qcb M) (qWS M an) j).1) ((gSt (fdM (qFM M)) T (qcb M) (qWS M an) j).2.1) (-1) (by omega) (by omega) (by omega) ⟨by omega, by omega⟩ hT12) (As := [.int (sI ((j : Int))), .int (sI ((((gSt (fdM (qFM M)) T (qcb M) (qWS M an) j).1 : Nat) : Int))), .int (sI (-1)), .int (sI ((((gSt (fdM (qFM M)) T (qcb M) (qWS M an) j).2.1 : Nat) : Int)))]) (obj_Ref G) (ci := 7) rfl qw_1283 qw_1280 qw_8 qw_1282 qp_79 ⟨by decide, by decide, show (parseMethodDescriptor yX7_mayStep.desc).map (fun d => d.parameters.length) = some 4 by decide +kernel⟩ ⟨by decide, by decide⟩ ⟨Nat.zero_le _, Nat.zero_le _⟩ (Nat.le_of_ble_eq_true rfl) dX7_walk_199 rfl (fun r M' L' hp45 => ?_)
                                  obtain ⟨rfl, rfl, rfl⟩ := hp45
                                  refine at_if_eqB C 209 dX7_walk_202 (by decide) (fun h46 => ?_) (fun h46 => ?_)
                                  · refine at_aload_n C 0 dX7_walk_209 rfl ?_
                                    refine at_iload C 7 dX7_walk_210 rfl ?_
                                    refine at_iload C 5 dX7_walk_212 rfl ?_
                                    refine at_iconst C dX7_walk_214 ?_
                                    refine at_iload_n C 3 dX7_walk_215 rfl ?_
                                    refine at_call_i C (c_X7_mayStep l D G (M := (qFM M)) (L := L1) j ((gSt (fdM (qFM M)) T (qcb M) (qWS M an) j).1) ((gSt (fdM (qFM M)) T (qcb M) (qWS M an) j).2.1) 0 (by omega) (by omega) (by omega) ⟨by omega, by omega⟩ hT12) (As := [.int (sI ((j : Int))), .int (sI ((((gSt (fdM (qFM M)) T (qcb M) (qWS M an) j).1 : Nat) : Int))), .int (sI (0)), .int (sI ((((gSt (fdM (qFM M)) T (qcb M) (qWS M an) j).2.1 : Nat) : Int)))]) (obj_Ref G) (ci := 7) rfl qw_1283 qw_1280 qw_8 qw_1282 qp_79 ⟨by decide, by decide, show (parseMethodDescriptor yX7_mayStep.desc).map (fun d => d.parameters.length) = some 4 by decide +kernel⟩ ⟨by decide, by decide⟩ ⟨Nat.zero_le _, Nat.zero_le _⟩ (Nat.le_of_ble_eq_true rfl) dX7_walk_216 rfl (fun r M' L' hp47 => ?_)
                                    obtain ⟨rfl, rfl, rfl⟩ := hp47
                                    refine at_if_eqB C 226 dX7_walk_219 (by decide) (fun h48 => ?_) (fun h48 => ?_)
                                    · refine at_iconst C dX7_walk_226 ?_
                                      refine at_ve (b := gD (fdM (qFM M)) T j (gSt (fdM (qFM M)) T (qcb M) (qWS M an) j).1 (gSt (fdM (qFM M)) T (qcb M) (qWS M an) j).2.1) (by unfold gD; rw [if_neg (fun z => absurd ((cnI_may hI2 (by omega) hxx (-1)).mpr z) (by assumption)), if_neg (fun z => absurd ((cnI_may hI2 (by omega) hxx 0).mpr z) (by assumption))]) ?_
                                      refine at_istore C [(6, .int (sI (gD (fdM (qFM M)) T j (gSt (fdM (qFM M)) T (qcb M) (qWS M an) j).1 (gSt (fdM (qFM M)) T (qcb M) (qWS M an) j).2.1))), (0, .ref (G.1 (258))), (1, .int (sI ((an : Int)))), (2, .int (sI ((kn : Int)))), (3, .int (sI ((((gSt (fdM (qFM M)) T (qcb M) (qWS M an) j).2.1 : Nat) : Int)))), (4, .int (sI ((T : Int)))), (5, .int (sI ((((gSt (fdM (qFM M)) T (qcb M) (qWS M an) j).1 : Nat) : Int)))), (7, .int (sI ((j : Int))))] dX7_walk_227 (by decide) rfl ?_
                                      have hgr := gD_r (fdM (qFM M)) T j (gSt (fdM (qFM M)) T (qcb M) (qWS M an) j).1 (gSt (fdM (qFM M)) T (qcb M) (qWS M an) j).2.1
                                      have hto := qTo_lt (gSt (fdM (qFM M)) T (qcb M) (qWS M an) j).1 (gD (fdM (qFM M)) T j (gSt (fdM (qFM M)) T (qcb M) (qWS M an) j).1 (gSt (fdM (qFM M)) T (qcb M) (qWS M an) j).2.1)
                                      refine at_iload C 6 dX7_walk_229 rfl ?_
                                      refine at_iload C 0 dX7_walk_231 rfl ?_
                                      refine at_iadd C dX7_walk_233 ?_
                                      refine at_stat_i C (c_X7_onShore l D G ((((gSt (fdM (qFM M)) T (qcb M) (qWS M an) j).1 : Nat) : Int) + (gD (fdM (qFM M)) T j (gSt (fdM (qFM M)) T (qcb M) (qWS M an) j).1 (gSt (fdM (qFM M)) T (qcb M) (qWS M an) j).2.1)) ⟨by omega, by omega⟩) (As := [.int (sI ((((gSt (fdM (qFM M)) T (qcb M) (qWS M an) j).1 : Nat) : Int) + (gD (fdM (qFM M)) T j (gSt (fdM (qFM M)) T (qcb M) (qWS M an) j).1 (gSt (fdM (qFM M)) T (qcb M) (qWS M an) j).2.1)))]) qw_1117 qw_1115 qw_8 qw_1116 ⟨by decide, by decide, show (parseMethodDescriptor yX7_onShore.desc).map (fun d => d.parameters.length) = some 1 by decide +kernel⟩ ⟨by decide, by decide⟩ ⟨Nat.zero_le _, Nat.zero_le _⟩ (Nat.le_of_ble_eq_true rfl) dX7_walk_234 rfl (fun r M' L' hp49 => ?_)
                                      obtain ⟨rfl, rfl, rfl⟩ := hp49
                                      refine at_ve (b := (((qTo (gSt (fdM (qFM M)) T (qcb M) (qWS M an) j).1 (gD (fdM (qFM M)) T j (gSt (fdM (qFM M)) T (qcb M) (qWS M an) j).1 (gSt (fdM (qFM M)) T (qcb M) (qWS M an) j).2.1)) : Nat) : Int)) (by unfold qTo; omega) ?_
                                      refine at_istore C [(5, .int (sI ((((qTo (gSt (fdM (qFM M)) T (qcb M) (qWS M an) j).1 (gD (fdM (qFM M)) T j (gSt (fdM (qFM M)) T (qcb M) (qWS M an) j).1 (gSt (fdM (qFM M)) T (qcb M) (qWS M an) j).2.1)) : Nat) : Int)))), (6, .int (sI (gD (fdM (qFM M)) T j (gSt (fdM (qFM M)) T (qcb M) (qWS M an) j).1 (gSt (fdM (qFM M)) T (qcb M) (qWS M an) j).2.1))), (0, .ref (G.1 (258))), (1, .int (sI ((an : Int)))), (2, .int (sI ((kn : Int)))), (3, .int (sI ((((gSt (fdM (qFM M)) T (qcb M) (qWS M an) j).2.1 : Nat) : Int)))), (4, .int (sI ((T : Int)))), (7, .int (sI ((j : Int))))] dX7_walk_237 (by decide) rfl ?_
                                      refine at_iload_n C 5 dX7_walk_239 rfl ?_
                                      refine at_aload_n C 2 dX7_walk_240 rfl ?_
                                      refine at_getf (v := .ref (G.1 (275))) C (obj_Ref G) (ci := 7) rfl inX7 (slot := 28) (by decide) qw_910 rfl rfl dX7_walk_241 ?_
                                      refine at_bipush C dX7_walk_244 (by decide) (by decide) ?_
                                      refine at_iload C 7 dX7_walk_246 rfl ?_
                                      refine at_imul C dX7_walk_248 ?_
                                      refine at_iload C 0 dX7_walk_249 rfl ?_
                                      refine at_iadd C dX7_walk_251 ?_
                                      refine at_iald C ((12 * j) + (qTo (gSt (fdM (qFM M)) T (qcb M) (qWS M an) j).1 (gD (fdM (qFM M)) T j (gSt (fdM (qFM M)) T (qcb M) (qWS M an) j).1 (gSt (fdM (qFM M)) T (qcb M) (qWS M an) j).2.1))) (ar_275 G) (by omega) (by omega) dX7_walk_252 ?_
                                      have hb50 : _ ≤ (qFM M) 275 ((12 * j) + (qTo (gSt (fdM (qFM M)) T (qcb M) (qWS M an) j).1 (gD (fdM (qFM M)) T j (gSt (fdM (qFM M)) T (qcb M) (qWS M an) j).1 (gSt (fdM (qFM M)) T (qcb M) (qWS M an) j).2.1))) ∧ (qFM M) 275 ((12 * j) + (qTo (gSt (fdM (qFM M)) T (qcb M) (qWS M an) j).1 (gD (fdM (qFM M)) T j (gSt (fdM (qFM M)) T (qcb M) (qWS M an) j).1 (gSt (fdM (qFM M)) T (qcb M) (qWS M an) j).2.1))) ≤ _ := tv hT12 (k := 275) (j := ((12 * j) + (qTo (gSt (fdM (qFM M)) T (qcb M) (qWS M an) j).1 (gD (fdM (qFM M)) T j (gSt (fdM (qFM M)) T (qcb M) (qWS M an) j).1 (gSt (fdM (qFM M)) T (qcb M) (qWS M an) j).2.1)))) rfl
                                      refine at_ve (b := (((fdM (qFM M) j (qTo (gSt (fdM (qFM M)) T (qcb M) (qWS M an) j).1 (gD (fdM (qFM M)) T j (gSt (fdM (qFM M)) T (qcb M) (qWS M an) j).1 (gSt (fdM (qFM M)) T (qcb M) (qWS M an) j).2.1))) : Nat) : Int)) (fdM_e hT12 _ _) ?_
                                      refine at_iconst C dX7_walk_253 ?_
                                      refine at_ixor C (-1 - ((((fdM (qFM M) j (qTo (gSt (fdM (qFM M)) T (qcb M) (qWS M an) j).1 (gD (fdM (qFM M)) T j (gSt (fdM (qFM M)) T (qcb M) (qWS M an) j).1 (gSt (fdM (qFM M)) T (qcb M) (qWS M an) j).2.1))) : Nat) : Int))) dX7_walk_254 (zb_not _ (fdM_lt hT12 _ _)) ?_
                                      refine at_iand C ((((sDel (gSt (fdM (qFM M)) T (qcb M) (qWS M an) j).2.1 (fdM (qFM M) j (qTo (gSt (fdM (qFM M)) T (qcb M) (qWS M an) j).1 (gD (fdM (qFM M)) T j (gSt (fdM (qFM M)) T (qcb M) (qWS M an) j).1 (gSt (fdM (qFM M)) T (qcb M) (qWS M an) j).2.1)))) : Nat) : Int)) dX7_walk_255 (zb_del1 _ (by omega) _ (fdM_lt hT12 _ _)) ?_
                                      refine at_istore_n C [(3, .int (sI ((((sDel (gSt (fdM (qFM M)) T (qcb M) (qWS M an) j).2.1 (fdM (qFM M) j (qTo (gSt (fdM (qFM M)) T (qcb M) (qWS M an) j).1 (gD (fdM (qFM M)) T j (gSt (fdM (qFM M)) T (qcb M) (qWS M an) j).1 (gSt (fdM (qFM M)) T (qcb M) (qWS M an) j).2.1)))) : Nat) : Int)))), (5, .int (sI ((((qTo (gSt (fdM (qFM M)) T (qcb M) (qWS M an) j).1 (gD (fdM (qFM M)) T j (gSt (fdM (qFM M)) T (qcb M) (qWS M an) j).1 (gSt (fdM (qFM M)) T (qcb M) (qWS M an) j).2.1)) : Nat) : Int)))), (6, .int (sI (gD (fdM (qFM M)) T j (gSt (fdM (qFM M)) T (qcb M) (qWS M an) j).1 (gSt (fdM (qFM M)) T (qcb M) (qWS M an) j).2.1))), (0, .ref (G.1 (258))), (1, .int (sI ((an : Int)))), (2, .int (sI ((kn : Int)))), (4, .int (sI ((T : Int)))), (7, .int (sI ((j : Int))))] dX7_walk_256 (by decide) rfl ?_
                                      refine at_iinc C 7 [(7, .int (sI ((j : Int) + 1))), (3, .int (sI ((((sDel (gSt (fdM (qFM M)) T (qcb M) (qWS M an) j).2.1 (fdM (qFM M) j (qTo (gSt (fdM (qFM M)) T (qcb M) (qWS M an) j).1 (gD (fdM (qFM M)) T j (gSt (fdM (qFM M)) T (qcb M) (qWS M an) j).1 (gSt (fdM (qFM M)) T (qcb M) (qWS M an) j).2.1)))) : Nat) : Int)))), (5, .int (sI ((((qTo (gSt (fdM (qFM M)) T (qcb M) (qWS M an) j).1 (gD (fdM (qFM M)) T j (gSt (fdM (qFM M)) T (qcb M) (qWS M an) j).1 (gSt (fdM (qFM M)) T (qcb M) (qWS M an) j).2.1)) : Nat) : Int)))), (6, .int (sI (gD (fdM (qFM M)) T j (gSt (fdM (qFM M)) T (qcb M) (qWS M an) j).1 (gSt (fdM (qFM M)) T (qcb M) (qWS M an) j).2.1))), (0, .ref (G.1 (258))), (1, .int (sI ((an : Int)))), (2, .int (sI ((kn : Int)))), (4, .int (sI ((T : Int))))] dX7_walk_257 rfl (by decide) rfl ?_
                                      refine at_goto C 186 dX7_walk_260 (by decide) ?_
                                      refine at_lv [4, 5, 6, 1, 7, 2, 3, 0] rfl ?_
                                      exact at_eq (ih186 (j + 1) (by omega) (by omega)) (lvc_s (lvc_s (lvc_s (lvc_i (by rw [hgs1]) (lvc_s (lvc_i (by rw [hgs1]) (lvc_i (by rw [hgs1]) (lvc_i (by omega) rfl)))))))) rfl (rfl) (rfl)
                                    · refine at_iconst C dX7_walk_222 ?_
                                      refine at_goto C 227 dX7_walk_223 (by decide) ?_
                                      refine at_ve (b := gD (fdM (qFM M)) T j (gSt (fdM (qFM M)) T (qcb M) (qWS M an) j).1 (gSt (fdM (qFM M)) T (qcb M) (qWS M an) j).2.1) (by unfold gD; rw [if_neg (fun z => absurd ((cnI_may hI2 (by omega) hxx (-1)).mpr z) (by assumption)), if_pos ((cnI_may hI2 (by omega) hxx 0).mp (by assumption))]) ?_
                                      refine at_istore C [(6, .int (sI (gD (fdM (qFM M)) T j (gSt (fdM (qFM M)) T (qcb M) (qWS M an) j).1 (gSt (fdM (qFM M)) T (qcb M) (qWS M an) j).2.1))), (0, .ref (G.1 (258))), (1, .int (sI ((an : Int)))), (2, .int (sI ((kn : Int)))), (3, .int (sI ((((gSt (fdM (qFM M)) T (qcb M) (qWS M an) j).2.1 : Nat) : Int)))), (4, .int (sI ((T : Int)))), (5, .int (sI ((((gSt (fdM (qFM M)) T (qcb M) (qWS M an) j).1 : Nat) : Int)))), (7, .int (sI ((j : Int))))] dX7_walk_227 (by decide) rfl ?_
                                      have hgr := gD_r (fdM (qFM M)) T j (gSt (fdM (qFM M)) T (qcb M) (qWS M an) j).1 (gSt (fdM (qFM M)) T (qcb M) (qWS M an) j).2.1
                                      have hto := qTo_lt (gSt (fdM (qFM M)) T (qcb M) (qWS M an) j).1 (gD (fdM (qFM M)) T j (gSt (fdM (qFM M)) T (qcb M) (qWS M an) j).1 (gSt (fdM (qFM M)) T (qcb M) (qWS M an) j).2.1)
                                      refine at_iload C 6 dX7_walk_229 rfl ?_
                                      refine at_iload C 0 dX7_walk_231 rfl ?_
                                      refine at_iadd C dX7_walk_233 ?_
                                      refine at_stat_i C (c_X7_onShore l D G ((((gSt (fdM (qFM M)) T (qcb M) (qWS M an) j).1 : Nat) : Int) + (gD (fdM (qFM M)) T j (gSt (fdM (qFM M)) T (qcb M) (qWS M an) j).1 (gSt (fdM (qFM M)) T (qcb M) (qWS M an) j).2.1)) ⟨by omega, by omega⟩) (As := [.int (sI ((((gSt (fdM (qFM M)) T (qcb M) (qWS M an) j).1 : Nat) : Int) + (gD (fdM (qFM M)) T j (gSt (fdM (qFM M)) T (qcb M) (qWS M an) j).1 (gSt (fdM (qFM M)) T (qcb M) (qWS M an) j).2.1)))]) qw_1117 qw_1115 qw_8 qw_1116 ⟨by decide, by decide, show (parseMethodDescriptor yX7_onShore.desc).map (fun d => d.parameters.length) = some 1 by decide +kernel⟩ ⟨by decide, by decide⟩ ⟨Nat.zero_le _, Nat.zero_le _⟩ (Nat.le_of_ble_eq_true rfl) dX7_walk_234 rfl (fun r M' L' hp51 => ?_)
                                      obtain ⟨rfl, rfl, rfl⟩ := hp51
                                      refine at_ve (b := (((qTo (gSt (fdM (qFM M)) T (qcb M) (qWS M an) j).1 (gD (fdM (qFM M)) T j (gSt (fdM (qFM M)) T (qcb M) (qWS M an) j).1 (gSt (fdM (qFM M)) T (qcb M) (qWS M an) j).2.1)) : Nat) : Int)) (by unfold qTo; omega) ?_
                                      refine at_istore C [(5, .int (sI ((((qTo (gSt (fdM (qFM M)) T (qcb M) (qWS M an) j).1 (gD (fdM (qFM M)) T j (gSt (fdM (qFM M)) T (qcb M) (qWS M an) j).1 (gSt (fdM (qFM M)) T (qcb M) (qWS M an) j).2.1)) : Nat) : Int)))), (6, .int (sI (gD (fdM (qFM M)) T j (gSt (fdM (qFM M)) T (qcb M) (qWS M an) j).1 (gSt (fdM (qFM M)) T (qcb M) (qWS M an) j).2.1))), (0, .ref (G.1 (258))), (1, .int (sI ((an : Int)))), (2, .int (sI ((kn : Int)))), (3, .int (sI ((((gSt (fdM (qFM M)) T (qcb M) (qWS M an) j).2.1 : Nat) : Int)))), (4, .int (sI ((T : Int)))), (7, .int (sI ((j : Int))))] dX7_walk_237 (by decide) rfl ?_
                                      refine at_iload_n C 5 dX7_walk_239 rfl ?_
                                      refine at_aload_n C 2 dX7_walk_240 rfl ?_
                                      refine at_getf (v := .ref (G.1 (275))) C (obj_Ref G) (ci := 7) rfl inX7 (slot := 28) (by decide) qw_910 rfl rfl dX7_walk_241 ?_
                                      refine at_bipush C dX7_walk_244 (by decide) (by decide) ?_
                                      refine at_iload C 7 dX7_walk_246 rfl ?_
                                      refine at_imul C dX7_walk_248 ?_
                                      refine at_iload C 0 dX7_walk_249 rfl ?_
                                      refine at_iadd C dX7_walk_251 ?_
                                      refine at_iald C ((12 * j) + (qTo (gSt (fdM (qFM M)) T (qcb M) (qWS M an) j).1 (gD (fdM (qFM M)) T j (gSt (fdM (qFM M)) T (qcb M) (qWS M an) j).1 (gSt (fdM (qFM M)) T (qcb M) (qWS M an) j).2.1))) (ar_275 G) (by omega) (by omega) dX7_walk_252 ?_
                                      have hb52 : _ ≤ (qFM M) 275 ((12 * j) + (qTo (gSt (fdM (qFM M)) T (qcb M) (qWS M an) j).1 (gD (fdM (qFM M)) T j (gSt (fdM (qFM M)) T (qcb M) (qWS M an) j).1 (gSt (fdM (qFM M)) T (qcb M) (qWS M an) j).2.1))) ∧ (qFM M) 275 ((12 * j) + (qTo (gSt (fdM (qFM M)) T (qcb M) (qWS M an) j).1 (gD (fdM (qFM M)) T j (gSt (fdM (qFM M)) T (qcb M) (qWS M an) j).1 (gSt (fdM (qFM M)) T (qcb M) (qWS M an) j).2.1))) ≤ _ := tv hT12 (k := 275) (j := ((12 * j) + (qTo (gSt (fdM (qFM M)) T (qcb M) (qWS M an) j).1 (gD (fdM (qFM M)) T j (gSt (fdM (qFM M)) T (qcb M) (qWS M an) j).1 (gSt (fdM (qFM M)) T (qcb M) (qWS M an) j).2.1)))) rfl
                                      refine at_ve (b := (((fdM (qFM M) j (qTo (gSt (fdM (qFM M)) T (qcb M) (qWS M an) j).1 (gD (fdM (qFM M)) T j (gSt (fdM (qFM M)) T (qcb M) (qWS M an) j).1 (gSt (fdM (qFM M)) T (qcb M) (qWS M an) j).2.1))) : Nat) : Int)) (fdM_e hT12 _ _) ?_
                                      refine at_iconst C dX7_walk_253 ?_
                                      refine at_ixor C (-1 - ((((fdM (qFM M) j (qTo (gSt (fdM (qFM M)) T (qcb M) (qWS M an) j).1 (gD (fdM (qFM M)) T j (gSt (fdM (qFM M)) T (qcb M) (qWS M an) j).1 (gSt (fdM (qFM M)) T (qcb M) (qWS M an) j).2.1))) : Nat) : Int))) dX7_walk_254 (zb_not _ (fdM_lt hT12 _ _)) ?_
                                      refine at_iand C ((((sDel (gSt (fdM (qFM M)) T (qcb M) (qWS M an) j).2.1 (fdM (qFM M) j (qTo (gSt (fdM (qFM M)) T (qcb M) (qWS M an) j).1 (gD (fdM (qFM M)) T j (gSt (fdM (qFM M)) T (qcb M) (qWS M an) j).1 (gSt (fdM (qFM M)) T (qcb M) (qWS M an) j).2.1)))) : Nat) : Int)) dX7_walk_255 (zb_del1 _ (by omega) _ (fdM_lt hT12 _ _)) ?_
                                      refine at_istore_n C [(3, .int (sI ((((sDel (gSt (fdM (qFM M)) T (qcb M) (qWS M an) j).2.1 (fdM (qFM M) j (qTo (gSt (fdM (qFM M)) T (qcb M) (qWS M an) j).1 (gD (fdM (qFM M)) T j (gSt (fdM (qFM M)) T (qcb M) (qWS M an) j).1 (gSt (fdM (qFM M)) T (qcb M) (qWS M an) j).2.1)))) : Nat) : Int)))), (5, .int (sI ((((qTo (gSt (fdM (qFM M)) T (qcb M) (qWS M an) j).1 (gD (fdM (qFM M)) T j (gSt (fdM (qFM M)) T (qcb M) (qWS M an) j).1 (gSt (fdM (qFM M)) T (qcb M) (qWS M an) j).2.1)) : Nat) : Int)))), (6, .int (sI (gD (fdM (qFM M)) T j (gSt (fdM (qFM M)) T (qcb M) (qWS M an) j).1 (gSt (fdM (qFM M)) T (qcb M) (qWS M an) j).2.1))), (0, .ref (G.1 (258))), (1, .int (sI ((an : Int)))), (2, .int (sI ((kn : Int)))), (4, .int (sI ((T : Int)))), (7, .int (sI ((j : Int))))] dX7_walk_256 (by decide) rfl ?_
                                      refine at_iinc C 7 [(7, .int (sI ((j : Int) + 1))), (3, .int (sI ((((sDel (gSt (fdM (qFM M)) T (qcb M) (qWS M an) j).2.1 (fdM (qFM M) j (qTo (gSt (fdM (qFM M)) T (qcb M) (qWS M an) j).1 (gD (fdM (qFM M)) T j (gSt (fdM (qFM M)) T (qcb M) (qWS M an) j).1 (gSt (fdM (qFM M)) T (qcb M) (qWS M an) j).2.1)))) : Nat) : Int)))), (5, .int (sI ((((qTo (gSt (fdM (qFM M)) T (qcb M) (qWS M an) j).1 (gD (fdM (qFM M)) T j (gSt (fdM (qFM M)) T (qcb M) (qWS M an) j).1 (gSt (fdM (qFM M)) T (qcb M) (qWS M an) j).2.1)) : Nat) : Int)))), (6, .int (sI (gD (fdM (qFM M)) T j (gSt (fdM (qFM M)) T (qcb M) (qWS M an) j).1 (gSt (fdM (qFM M)) T (qcb M) (qWS M an) j).2.1))), (0, .ref (G.1 (258))), (1, .int (sI ((an : Int)))), (2, .int (sI ((kn : Int)))), (4, .int (sI ((T : Int))))] dX7_walk_257 rfl (by decide) rfl ?_
                                      refine at_goto C 186 dX7_walk_260 (by decide) ?_
                                      refine at_lv [4, 5, 6, 1, 7, 2, 3, 0] rfl ?_
                                      exact at_eq (ih186 (j + 1) (by omega) (by omega)) (lvc_s (lvc_s (lvc_s (lvc_i (by rw [hgs1]) (lvc_s (lvc_i (by rw [hgs1]) (lvc_i (by rw [hgs1]) (lvc_i (by omega) rfl)))))))) rfl (rfl) (rfl)
                                  · refine at_iconst C dX7_walk_205 ?_
                                    refine at_goto C 227 dX7_walk_206 (by decide) ?_
                                    refine at_ve (b := gD (fdM (qFM M)) T j (gSt (fdM (qFM M)) T (qcb M) (qWS M an) j).1 (gSt (fdM (qFM M)) T (qcb M) (qWS M an) j).2.1) (by unfold gD; rw [if_pos ((cnI_may hI2 (by omega) hxx (-1)).mp (by assumption))]) ?_
                                    refine at_istore C [(6, .int (sI (gD (fdM (qFM M)) T j (gSt (fdM (qFM M)) T (qcb M) (qWS M an) j).1 (gSt (fdM (qFM M)) T (qcb M) (qWS M an) j).2.1))), (0, .ref (G.1 (258))), (1, .int (sI ((an : Int)))), (2, .int (sI ((kn : Int)))), (3, .int (sI ((((gSt (fdM (qFM M)) T (qcb M) (qWS M an) j).2.1 : Nat) : Int)))), (4, .int (sI ((T : Int)))), (5, .int (sI ((((gSt (fdM (qFM M)) T (qcb M) (qWS M an) j).1 : Nat) : Int)))), (7, .int (sI ((j : Int))))] dX7_walk_227 (by decide) rfl ?_
                                    have hgr := gD_r (fdM (qFM M)) T j (gSt (fdM (qFM M)) T (qcb M) (qWS M an) j).1 (gSt (fdM (qFM M)) T (qcb M) (qWS M an) j).2.1
                                    have hto := qTo_lt (gSt (fdM (qFM M)) T (qcb M) (qWS M an) j).1 (gD (fdM (qFM M)) T j (gSt (fdM (qFM M)) T (qcb M) (qWS M an) j).1 (gSt (fdM (qFM M)) T (qcb M) (qWS M an) j).2.1)
                                    refine at_iload C 6 dX7_walk_229 rfl ?_
                                    refine at_iload C 0 dX7_walk_231 rfl ?_
                                    refine at_iadd C dX7_walk_233 ?_
                                    refine at_stat_i C (c_X7_onShore l D G ((((gSt (fdM (qFM M)) T (qcb M) (qWS M an) j).1 : Nat) : Int) + (gD (fdM (qFM M)) T j (gSt (fdM (qFM M)) T (qcb M) (qWS M an) j).1 (gSt (fdM (qFM M)) T (qcb M) (qWS M an) j).2.1)) ⟨by omega, by omega⟩) (As := [.int (sI ((((gSt (fdM (qFM M)) T (qcb M) (qWS M an) j).1 : Nat) : Int) + (gD (fdM (qFM M)) T j (gSt (fdM (qFM M)) T (qcb M) (qWS M an) j).1 (gSt (fdM (qFM M)) T (qcb M) (qWS M an) j).2.1)))]) qw_1117 qw_1115 qw_8 qw_1116 ⟨by decide, by decide, show (parseMethodDescriptor yX7_onShore.desc).map (fun d => d.parameters.length) = some 1 by decide +kernel⟩ ⟨by decide, by decide⟩ ⟨Nat.zero_le _, Nat.zero_le _⟩ (Nat.le_of_ble_eq_true rfl) dX7_walk_234 rfl (fun r M' L' hp53 => ?_)
                                    obtain ⟨rfl, rfl, rfl⟩ := hp53
                                    refine at_ve (b := (((qTo (gSt (fdM (qFM M)) T (qcb M) (qWS M an) j).1 (gD (fdM (qFM M)) T j (gSt (fdM (qFM M)) T (qcb M) (qWS M an) j).1 (gSt (fdM (qFM M)) T (qcb M) (qWS M an) j).2.1)) : Nat) : Int)) (by unfold qTo; omega) ?_
                                    refine at_istore C [(5, .int (sI ((((qTo (gSt (fdM (qFM M)) T (qcb M) (qWS M an) j).1 (gD (fdM (qFM M)) T j (gSt (fdM (qFM M)) T (qcb M) (qWS M an) j).1 (gSt (fdM (qFM M)) T (qcb M) (qWS M an) j).2.1)) : Nat) : Int)))), (6, .int (sI (gD (fdM (qFM M)) T j (gSt (fdM (qFM M)) T (qcb M) (qWS M an) j).1 (gSt (fdM (qFM M)) T (qcb M) (qWS M an) j).2.1))), (0, .ref (G.1 (258))), (1, .int (sI ((an : Int)))), (2, .int (sI ((kn : Int)))), (3, .int (sI ((((gSt (fdM (qFM M)) T (qcb M) (qWS M an) j).2.1 : Nat) : Int)))), (4, .int (sI ((T : Int)))), (7, .int (sI ((j : Int))))] dX7_walk_237 (by decide) rfl ?_
                                    refine at_iload_n C 5 dX7_walk_239 rfl ?_
                                    refine at_aload_n C 2 dX7_walk_240 rfl ?_
                                    refine at_getf (v := .ref (G.1 (275))) C (obj_Ref G) (ci := 7) rfl inX7 (slot := 28) (by decide) qw_910 rfl rfl dX7_walk_241 ?_
                                    refine at_bipush C dX7_walk_244 (by decide) (by decide) ?_
                                    refine at_iload C 7 dX7_walk_246 rfl ?_
                                    refine at_imul C dX7_walk_248 ?_
                                    refine at_iload C 0 dX7_walk_249 rfl ?_
                                    refine at_iadd C dX7_walk_251 ?_
                                    refine at_iald C ((12 * j) + (qTo (gSt (fdM (qFM M)) T (qcb M) (qWS M an) j).1 (gD (fdM (qFM M)) T j (gSt (fdM (qFM M)) T (qcb M) (qWS M an) j).1 (gSt (fdM (qFM M)) T (qcb M) (qWS M an) j).2.1))) (ar_275 G) (by omega) (by omega) dX7_walk_252 ?_
                                    have hb54 : _ ≤ (qFM M) 275 ((12 * j) + (qTo (gSt (fdM (qFM M)) T (qcb M) (qWS M an) j).1 (gD (fdM (qFM M)) T j (gSt (fdM (qFM M)) T (qcb M) (qWS M an) j).1 (gSt (fdM (qFM M)) T (qcb M) (qWS M an) j).2.1))) ∧ (qFM M) 275 ((12 * j) + (qTo (gSt (fdM (qFM M)) T (qcb M) (qWS M an) j).1 (gD (fdM (qFM M)) T j (gSt (fdM (qFM M)) T (qcb M) (qWS M an) j).1 (gSt (fdM (qFM M)) T (qcb M) (qWS M an) j).2.1))) ≤ _ := tv hT12 (k := 275) (j := ((12 * j) + (qTo (gSt (fdM (qFM M)) T (qcb M) (qWS M an) j).1 (gD (fdM (qFM M)) T j (gSt (fdM (qFM M)) T (qcb M) (qWS M an) j).1 (gSt (fdM (qFM M)) T (qcb M) (qWS M an) j).2.1)))) rfl
                                    refine at_ve (b := (((fdM (qFM M) j (qTo (gSt (fdM (qFM M)) T (qcb M) (qWS M an) j).1 (gD (fdM (qFM M)) T j (gSt (fdM (qFM M)) T (qcb M) (qWS M an) j).1 (gSt (fdM (qFM M)) T (qcb M) (qWS M an) j).2.1))) : Nat) : Int)) (fdM_e hT12 _ _) ?_
                                    refine at_iconst C dX7_walk_253 ?_
                                    refine at_ixor C (-1 - ((((fdM (qFM M) j (qTo (gSt (fdM (qFM M)) T (qcb M) (qWS M an) j).1 (gD (fdM (qFM M)) T j (gSt (fdM (qFM M)) T (qcb M) (qWS M an) j).1 (gSt (fdM (qFM M)) T (qcb M) (qWS M an) j).2.1))) : Nat) : Int))) dX7_walk_254 (zb_not _ (fdM_lt hT12 _ _)) ?_
                                    refine at_iand C ((((sDel (gSt (fdM (qFM M)) T (qcb M) (qWS M an) j).2.1 (fdM (qFM M) j (qTo (gSt (fdM (qFM M)) T (qcb M) (qWS M an) j).1 (gD (fdM (qFM M)) T j (gSt (fdM (qFM M)) T (qcb M) (qWS M an) j).1 (gSt (fdM (qFM M)) T (qcb M) (qWS M an) j).2.1)))) : Nat) : Int)) dX7_walk_255 (zb_del1 _ (by omega) _ (fdM_lt hT12 _ _)) ?_
                                    refine at_istore_n C [(3, .int (sI ((((sDel (gSt (fdM (qFM M)) T (qcb M) (qWS M an) j).2.1 (fdM (qFM M) j (qTo (gSt (fdM (qFM M)) T (qcb M) (qWS M an) j).1 (gD (fdM (qFM M)) T j (gSt (fdM (qFM M)) T (qcb M) (qWS M an) j).1 (gSt (fdM (qFM M)) T (qcb M) (qWS M an) j).2.1)))) : Nat) : Int)))), (5, .int (sI ((((qTo (gSt (fdM (qFM M)) T (qcb M) (qWS M an) j).1 (gD (fdM (qFM M)) T j (gSt (fdM (qFM M)) T (qcb M) (qWS M an) j).1 (gSt (fdM (qFM M)) T (qcb M) (qWS M an) j).2.1)) : Nat) : Int)))), (6, .int (sI (gD (fdM (qFM M)) T j (gSt (fdM (qFM M)) T (qcb M) (qWS M an) j).1 (gSt (fdM (qFM M)) T (qcb M) (qWS M an) j).2.1))), (0, .ref (G.1 (258))), (1, .int (sI ((an : Int)))), (2, .int (sI ((kn : Int)))), (4, .int (sI ((T : Int)))), (7, .int (sI ((j : Int))))] dX7_walk_256 (by decide) rfl ?_
                                    refine at_iinc C 7 [(7, .int (sI ((j : Int) + 1))), (3, .int (sI ((((sDel (gSt (fdM (qFM M)) T (qcb M) (qWS M an) j).2.1 (fdM (qFM M) j (qTo (gSt (fdM (qFM M)) T (qcb M) (qWS M an) j).1 (gD (fdM (qFM M)) T j (gSt (fdM (qFM M)) T (qcb M) (qWS M an) j).1 (gSt (fdM (qFM M)) T (qcb M) (qWS M an) j).2.1)))) : Nat) : Int)))), (5, .int (sI ((((qTo (gSt (fdM (qFM M)) T (qcb M) (qWS M an) j).1 (gD (fdM (qFM M)) T j (gSt (fdM (qFM M)) T (qcb M) (qWS M an) j).1 (gSt (fdM (qFM M)) T (qcb M) (qWS M an) j).2.1)) : Nat) : Int)))), (6, .int (sI (gD (fdM (qFM M)) T j (gSt (fdM (qFM M)) T (qcb M) (qWS M an) j).1 (gSt (fdM (qFM M)) T (qcb M) (qWS M an) j).2.1))), (0, .ref (G.1 (258))), (1, .int (sI ((an : Int)))), (2, .int (sI ((kn : Int)))), (4, .int (sI ((T : Int))))] dX7_walk_257 rfl (by decide) rfl ?_
                                    refine at_goto C 186 dX7_walk_260 (by decide) ?_
                                    refine at_lv [4, 5, 6, 1, 7, 2, 3, 0] rfl ?_
                                    exact at_eq (ih186 (j + 1) (by omega) (by omega)) (lvc_s (lvc_s (lvc_s (lvc_i (by rw [hgs1]) (lvc_s (lvc_i (by rw [hgs1]) (lvc_i (by rw [hgs1]) (lvc_i (by omega) rfl)))))))) rfl (rfl) (rfl)
                            refine at_lv [3, 4, 5, 6, 7, 2, 1, 0] rfl ?_
                            exact at_eq (H186 _ 0 (Nat.lt_succ_self _) (by omega)) (lvc_s (lvc_s (lvc_s (lvc_i (rfl) (lvc_s (lvc_i (rfl) (lvc_i (rfl) (lvc_i (rfl) rfl)))))))) rfl (rfl) (rfl)
                          · refine at_iload_n C 2 dX7_walk_162 rfl ?_
                            refine at_if_ge C 171 dX7_walk_163 (by decide) (⟨by omega, by omega⟩) (fun h55 => ?_) (fun h55 => ?_)
                            · refine at_bipush C dX7_walk_171 (by decide) (by decide) ?_
                              exact hret _ _ _ _ _ dX7_walk_173 (⟨fun _ => ⟨⟨_, rfl, Or.inr ⟨T, hT20, hcan, hno, ((if_neg (by omega)).trans (if_neg (by omega))).symm⟩⟩, fun c hc => fil_ne hc⟩, fun z => absurd ⟨⟨by omega, by omega⟩, by omega⟩ z, hT12, hfr⟩)
                            · refine at_iload C 4 dX7_walk_166 rfl ?_
                              refine at_goto C 173 dX7_walk_168 (by decide) ?_
                              exact hret _ _ _ _ _ dX7_walk_173 (⟨fun _ => ⟨⟨_, rfl, Or.inr ⟨T, hT20, hcan, hno, (if_pos (by omega)).symm⟩⟩, fun c hc => fil_ne hc⟩, fun z => absurd ⟨⟨by omega, by omega⟩, by omega⟩ z, hT12, hfr⟩)
                      · have hnb : ¬ bitL (L1 274 (12 * 0 + qcb M)) (qWS M an) := bit0_n (by rcases hlc with q | q | q; omega; exact q.2; omega)
                        refine at_bipush C dX7_walk_149 (by decide) (by decide) ?_
                        exact hret _ _ _ _ _ dX7_walk_151 (⟨fun _ => ⟨⟨_, rfl, Or.inl ⟨fun S hS z => by by_cases e : S = T; (subst e; exact absurd (hbit.mpr z) hnb); exact hno S (by omega) z, rfl⟩⟩, fun c hc => fil_ne hc⟩, fun z => absurd ⟨⟨by omega, by omega⟩, by omega⟩ z, hT12, hfr⟩)
                    · have hnb : ¬ bitL (L1 274 (12 * 0 + qcb M)) (qWS M an) := bit0_n (by rcases hlc with q | q | q; omega; exact q.2; omega)
                      refine at_iinc C 4 [(4, .int (sI ((T : Int) + 1))), (0, .ref (G.1 (258))), (1, .int (sI ((an : Int)))), (2, .int (sI (k))), (3, .int (sI ((((qWS M an) : Nat) : Int))))] dX7_walk_119 rfl (by decide) rfl ?_
                      refine at_aload_n C 1 dX7_walk_122 rfl ?_
                      refine at_iload C 0 dX7_walk_123 rfl ?_
                      refine at_call_v C (c_X7_setCan l D G (M := (qFM M)) (L := L1) (T + 1) (by omega) hT12) (As := [.int (sI ((T : Int) + 1))]) (obj_Ref G) (ci := 7) rfl qw_1279 qw_1276 qw_8 qw_1278 qp_78 ⟨by decide, by decide, show (parseMethodDescriptor yX7_setCan.desc).map (fun d => d.parameters.length) = some 1 by decide +kernel⟩ ⟨by decide, by decide⟩ ⟨Nat.zero_le _, Nat.zero_le _⟩ (Nat.le_of_ble_eq_true rfl) dX7_walk_125 rfl (fun M' L58 hp57 => ?_)
                      obtain ⟨rfl, hfL, hcI⟩ := hp57
                      refine at_goto C 94 dX7_walk_128 (by decide) ?_
                      refine at_lv [1, 2, 3, 4, 0] rfl ?_
                      exact at_eq (ih94 (T + 1) L58 (by omega) (by omega) (fun c hc => (hfL c hc).trans (hfr c hc)) (hcI) (fun S hS z => by by_cases e : S = T; (subst e; exact absurd (hbit.mpr z) hnb); exact hno S (by omega) z)) (lvc_s (lvc_s (lvc_s (lvc_s (lvc_i (by omega) rfl))))) rfl (rfl) (rfl)
              refine at_lv [1, 2, 3, 4, 0] rfl ?_
              exact at_eq (H94 _ 0 L16 (Nat.lt_succ_self _) (by omega) (hfL) (hcI) (fun S hS => absurd hS (Nat.not_lt_zero S))) (lvc_s (lvc_s (lvc_s (lvc_s (lvc_i (rfl) rfl))))) rfl (rfl) (rfl)
            · refine at_iload_n C 3 dX7_walk_46 rfl ?_
              refine at_iload_n C 1 dX7_walk_47 rfl ?_
              refine at_iload C 4 dX7_walk_48 rfl ?_
              refine at_stat_i C (c_X7_has l D G an j (by omega) (by omega)) (As := [.int (sI ((an : Int))), .int (sI ((j : Int)))]) qw_1267 qw_1265 qw_8 qw_1266 ⟨by decide, by decide, show (parseMethodDescriptor yX7_has.desc).map (fun d => d.parameters.length) = some 2 by decide +kernel⟩ ⟨by decide, by decide⟩ ⟨Nat.zero_le _, Nat.zero_le _⟩ (Nat.le_of_ble_eq_true rfl) dX7_walk_50 rfl (fun r M' L' hp59 => ?_)
              obtain ⟨rfl, rfl, rfl⟩ := hp59
              refine at_if_eqB C 73 dX7_walk_53 (by decide) (fun h60 => ?_) (fun h60 => ?_)
              · refine at_iconst C dX7_walk_73 ?_
                refine at_ior C ((((bits (fun s => an.testBit s = true ∧ 0 ≤ M 263 s) j) : Nat) : Int)) dX7_walk_74 (zb_or0 _) ?_
                refine at_istore_n C [(3, .int (sI ((((bits (fun s => an.testBit s = true ∧ 0 ≤ M 263 s) j) : Nat) : Int)))), (0, .ref (G.1 (258))), (1, .int (sI ((an : Int)))), (2, .int (sI (k))), (4, .int (sI ((j : Int))))] dX7_walk_75 (by decide) rfl ?_
                refine at_iinc C 4 [(4, .int (sI ((j : Int) + 1))), (3, .int (sI ((((bits (fun s => an.testBit s = true ∧ 0 ≤ M 263 s) j) : Nat) : Int)))), (0, .ref (G.1 (258))), (1, .int (sI ((an : Int)))), (2, .int (sI (k)))] dX7_walk_76 rfl (by decide) rfl ?_
                refine at_goto C 37 dX7_walk_79 (by decide) ?_
                refine at_lv [2, 3, 4, 1, 0] rfl ?_
                exact at_eq (ih37 (j + 1) (by omega) (by omega)) (lvc_s (lvc_s (lvc_s (lvc_i (by rw [bits_n (p := (fun s => an.testBit s = true ∧ 0 ≤ M 263 s)) (fun z => by have z1 := z.1; have z2 := z.2; first | exact absurd z1 (by assumption) | omega)]) (lvc_i (by omega) rfl))))) rfl (rfl) (rfl)
              · refine at_aload_n C 0 dX7_walk_56 rfl ?_
                refine at_getf (v := .ref (G.1 (263))) C (obj_Ref G) (ci := 7) rfl inX7 (slot := 11) (by decide) qw_893 rfl rfl dX7_walk_57 ?_
                refine at_iload C 4 dX7_walk_60 rfl ?_
                refine at_iald C j (ar_263 G) (rfl) (by omega) dX7_walk_62 ?_
                have hb61 : _ ≤ M 263 j ∧ M 263 j ≤ _ := tv hT (k := 263) (j := j) rfl
                refine at_if_lt C 73 dX7_walk_63 (by decide) (⟨by omega, by omega⟩) (fun h62 => ?_) (fun h62 => ?_)
                · refine at_iconst C dX7_walk_73 ?_
                  refine at_ior C ((((bits (fun s => an.testBit s = true ∧ 0 ≤ M 263 s) j) : Nat) : Int)) dX7_walk_74 (zb_or0 _) ?_
                  refine at_istore_n C [(3, .int (sI ((((bits (fun s => an.testBit s = true ∧ 0 ≤ M 263 s) j) : Nat) : Int)))), (0, .ref (G.1 (258))), (1, .int (sI ((an : Int)))), (2, .int (sI (k))), (4, .int (sI ((j : Int))))] dX7_walk_75 (by decide) rfl ?_
                  refine at_iinc C 4 [(4, .int (sI ((j : Int) + 1))), (3, .int (sI ((((bits (fun s => an.testBit s = true ∧ 0 ≤ M 263 s) j) : Nat) : Int)))), (0, .ref (G.1 (258))), (1, .int (sI ((an : Int)))), (2, .int (sI (k)))] dX7_walk_76 rfl (by decide) rfl ?_
                  refine at_goto C 37 dX7_walk_79 (by decide) ?_
                  refine at_lv [2, 3, 4, 1, 0] rfl ?_
                  exact at_eq (ih37 (j + 1) (by omega) (by omega)) (lvc_s (lvc_s (lvc_s (lvc_i (by rw [bits_n (p := (fun s => an.testBit s = true ∧ 0 ≤ M 263 s)) (fun z => by have z1 := z.1; have z2 := z.2; first | exact absurd z1 (by assumption) | omega)]) (lvc_i (by omega) rfl))))) rfl (rfl) (rfl)
                · refine at_iconst C dX7_walk_66 ?_
                  refine at_iload C 4 dX7_walk_67 rfl ?_
                  refine at_ishl C ((((2 ^ j) : Nat) : Int)) dX7_walk_69 (zb_shl (by omega)) ?_
                  refine at_goto C 74 dX7_walk_70 (by decide) ?_
                  refine at_ior C ((((bits (fun s => an.testBit s = true ∧ 0 ≤ M 263 s) j ||| 2 ^ j) : Nat) : Int)) dX7_walk_74 (zb_or _ _) ?_
                  refine at_istore_n C [(3, .int (sI ((((bits (fun s => an.testBit s = true ∧ 0 ≤ M 263 s) j ||| 2 ^ j) : Nat) : Int)))), (0, .ref (G.1 (258))), (1, .int (sI ((an : Int)))), (2, .int (sI (k))), (4, .int (sI ((j : Int))))] dX7_walk_75 (by decide) rfl ?_
                  refine at_iinc C 4 [(4, .int (sI ((j : Int) + 1))), (3, .int (sI ((((bits (fun s => an.testBit s = true ∧ 0 ≤ M 263 s) j ||| 2 ^ j) : Nat) : Int)))), (0, .ref (G.1 (258))), (1, .int (sI ((an : Int)))), (2, .int (sI (k)))] dX7_walk_76 rfl (by decide) rfl ?_
                  refine at_goto C 37 dX7_walk_79 (by decide) ?_
                  refine at_lv [2, 3, 4, 1, 0] rfl ?_
                  exact at_eq (ih37 (j + 1) (by omega) (by omega)) (lvc_s (lvc_s (lvc_s (lvc_i (by rw [bits_y (p := (fun s => an.testBit s = true ∧ 0 ≤ M 263 s)) ⟨by assumption, by omega⟩]) (lvc_i (by omega) rfl))))) rfl (rfl) (rfl)
        refine at_lv [2, 3, 4, 1, 0] rfl ?_
        exact at_eq (H37 _ 0 (Nat.lt_succ_self _) (by omega)) (lvc_s (lvc_s (lvc_s (lvc_i (rfl) (lvc_i (rfl) rfl))))) rfl (rfl) (rfl)
      · refine at_aload_n C 0 dX7_walk_27 rfl ?_
        refine at_call_i C (c_X7_tenBad l D G hT ⟨by omega, by omega, by omega⟩) (As := []) (obj_Ref G) (ci := 7) rfl qw_1008 qw_1005 qw_8 qw_1007 qp_33 ⟨by decide, by decide, show (parseMethodDescriptor yX7_tenBad.desc).map (fun d => d.parameters.length) = some 0 by decide +kernel⟩ ⟨by decide, by decide⟩ ⟨Nat.zero_le _, Nat.zero_le _⟩ (Nat.le_of_ble_eq_true rfl) dX7_walk_28 rfl (fun r M' L' hp64 => ?_)
        obtain ⟨rfl, rfl, hT63, rfl⟩ := hp64
        exact hret _ _ _ _ _ dX7_walk_31 (⟨fun z => absurd z (fun y => by have y1 := y.1; have y2 := y.2; omega), fun _ => ⟨rfl, rfl⟩, hT63, fun c _ => rfl⟩)
