set_option maxHeartbeats 4000000 in
set_option maxRecDepth 100000 in
theorem c_X7_rightBy (l : Launch) (D : va_G) (G : sG) {M : sM} {L : sL} (n : Nat) (hn : n ≤ 6) (hT : TInv M) : sKi l D G yX7_rightBy cX7_rightBy 4 .int 6 132 [.ref (G.1 (258)), .int (sI ((n : Int)))] M L (fun r M' L' => r = sI (qRB (qLay M 273 0) (M 276) n) ∧ (∀ c, c ≠ 273 → M' c = M c) ∧ TInv M' ∧ L = L') := by
  refine sKi_go (by decide) (Nat.le_of_ble_eq_true rfl) ?_
  intro zp ze zs zm za zb zt zc Q C hret
  refine at_eq (lv' := [(0, .ref (G.1 (258))), (1, .int (sI ((n : Int))))]) (st' := []) (M' := M) (L' := L) ?_ rfl rfl rfl rfl
  have hqn := qn_r hT
  have hqc := qc_r hT
  have hqu := qu_r hT
  have hqt := qt_r hT
  have hqs := qs_r hT
  have hqo := qo_r hT
  have hqm := qm_r hT
  refine at_aload_n C 0 dX7_rightBy_0 rfl ?_
  refine at_aload_n C 0 dX7_rightBy_1 rfl ?_
  refine at_getf (v := .ref (G.1 (273))) C (obj_Ref G) (ci := 7) rfl inX7 (slot := 26) (by decide) qw_908 rfl rfl dX7_rightBy_2 ?_
  refine at_iconst C dX7_rightBy_5 ?_
  refine at_call_v C (c_X7_lays l D G (b := 273) (a := 0) (n := 20) (ar_273 G) isRc_273 hT) (As := [.ref (G.1 (273)), .int (sI (0))]) (obj_Ref G) (ci := 7) rfl qw_1052 qw_1049 qw_8 qw_1051 qp_39 ⟨by decide, by decide, show (parseMethodDescriptor yX7_lays.desc).map (fun d => d.parameters.length) = some 2 by decide +kernel⟩ ⟨by decide, by decide⟩ ⟨Nat.zero_le _, Nat.zero_le _⟩ (Nat.le_of_ble_eq_true rfl) dX7_rightBy_6 rfl (fun M' L' hp2 => ?_)
  obtain ⟨rfl, hT1, rfl⟩ := hp2
  refine at_iconst C dX7_rightBy_9 ?_
  refine at_istore_n C [(2, .int (sI (0))), (0, .ref (G.1 (258))), (1, .int (sI ((n : Int))))] dX7_rightBy_10 (by decide) rfl ?_
  have H11 : ∀ (fu : Nat) (k : Nat), n - k < fu → (k ≤ n) → (TInv (qrb (qLay M 273 0) (M 276) k)) → sAt zp l ze (sRm 6 132) zs zm za zb zt zc D G 4 0 0 Q 11 [(0, .ref (G.1 (258))), (1, .int (sI ((n : Int)))), (2, .int (sI ((k : Int))))] [] (qrb (qLay M 273 0) (M 276) k) L := by
    intro fu
    induction fu with
    | zero => intro k hd hk hTk; exact absurd hd (Nat.not_lt_zero _)
    | succ fu ih11 =>
      intro k hd11 hk hTk
      have hr6 : _ ≤ M 276 k ∧ M 276 k ≤ _ := tv hT (k := 276) (j := k) (lo := 0) (hi := 5) rfl
      have hqk := (qn_r hTk).1
      refine at_iload_n C 2 dX7_rightBy_11 rfl ?_
      refine at_iload_n C 1 dX7_rightBy_12 rfl ?_
      refine at_icmp_ge C 49 dX7_rightBy_13 (by decide) (⟨by omega, by omega⟩) (⟨by omega, by omega⟩) (fun h3 => ?_) (fun h3 => ?_)
      · refine at_aload_n C 0 dX7_rightBy_49 rfl ?_
        refine at_call_i C (c_X7_rightMany l D G hTk) (As := []) (obj_Ref G) (ci := 7) rfl qw_1291 qw_1288 qw_8 qw_1290 qp_80 ⟨by decide, by decide, show (parseMethodDescriptor yX7_rightMany.desc).map (fun d => d.parameters.length) = some 0 by decide +kernel⟩ ⟨by decide, by decide⟩ ⟨Nat.zero_le _, Nat.zero_le _⟩ (Nat.le_of_ble_eq_true rfl) dX7_rightBy_50 rfl (fun r M' L' hp4 => ?_)
        obtain ⟨rfl, rfl, rfl⟩ := hp4
        refine at_istore_n C [(2, .int (sI (qRig (qrb (qLay M 273 0) (M 276) k)))), (0, .ref (G.1 (258))), (1, .int (sI ((n : Int))))] dX7_rightBy_53 (by decide) rfl ?_
        refine at_aload_n C 1 dX7_rightBy_54 rfl ?_
        refine at_aload_n C 1 dX7_rightBy_55 rfl ?_
        refine at_getf (v := .ref (G.1 (273))) C (obj_Ref G) (ci := 7) rfl inX7 (slot := 26) (by decide) qw_908 rfl rfl dX7_rightBy_56 ?_
        refine at_iconst C dX7_rightBy_59 ?_
        refine at_call_v C (c_X7_takes l D G (b := 273) (a := 0) (n := 20) (ar_273 G) isRc_273 hTk) (As := [.ref (G.1 (273)), .int (sI (0))]) (obj_Ref G) (ci := 7) rfl qw_1196 qw_1193 qw_8 qw_1195 qp_69 ⟨by decide, by decide, show (parseMethodDescriptor yX7_takes.desc).map (fun d => d.parameters.length) = some 2 by decide +kernel⟩ ⟨by decide, by decide⟩ ⟨Nat.zero_le _, Nat.zero_le _⟩ (Nat.le_of_ble_eq_true rfl) dX7_rightBy_60 rfl (fun M' L' hp6 => ?_)
        obtain ⟨rfl, hT5, rfl⟩ := hp6
        refine at_iload_n C 0 dX7_rightBy_63 rfl ?_
        exact hret _ _ _ _ _ dX7_rightBy_64 (⟨congrArg sI (by unfold qRB; rw [show n = k by omega]), fun c hc => qback hT _ _ hc, hT5, rfl⟩)
      · refine at_aload_n C 0 dX7_rightBy_16 rfl ?_
        refine at_aload_n C 0 dX7_rightBy_17 rfl ?_
        refine at_getf (v := .ref (G.1 (276))) C (obj_Ref G) (ci := 7) rfl inX7 (slot := 29) (by decide) qw_911 rfl rfl dX7_rightBy_18 ?_
        refine at_iload_n C 2 dX7_rightBy_21 rfl ?_
        refine at_iald C k (ar_276 G) (rfl) (by omega) dX7_rightBy_22 ?_
        have hb7 : _ ≤ (qrb (qLay M 273 0) (M 276) k) 276 k ∧ (qrb (qLay M 273 0) (M 276) k) 276 k ≤ _ := tv hTk (k := 276) (j := k) rfl
        refine at_ve (b := (((M 276 k).toNat : Nat) : Int)) (by rw [show (qrb (qLay M 273 0) (M 276) k) 276 k = M 276 k by rw [qrb_c _ _ (by decide) (by decide)]; rfl]; omega) ?_
        refine at_call_i C (c_X7_nearest l D G ((M 276 k).toNat) (by omega) hTk) (As := [.int (sI ((((M 276 k).toNat : Nat) : Int)))]) (obj_Ref G) (ci := 7) rfl qw_1148 qw_1145 qw_8 qw_1147 qp_60 ⟨by decide, by decide, show (parseMethodDescriptor yX7_nearest.desc).map (fun d => d.parameters.length) = some 1 by decide +kernel⟩ ⟨by decide, by decide⟩ ⟨Nat.zero_le _, Nat.zero_le _⟩ (Nat.le_of_ble_eq_true rfl) dX7_rightBy_23 rfl (fun r M' L' hp9 => ?_)
        obtain ⟨rfl, rfl, rfl⟩ := hp9
        have hb8 : -1 ≤ qNea (qrb (qLay M 273 0) (M 276) k) ((M 276 k).toNat) ∧ qNea (qrb (qLay M 273 0) (M 276) k) ((M 276 k).toNat) < qn (qrb (qLay M 273 0) (M 276) k) := nea_r _ _ _
        refine at_istore_n C [(3, .int (sI (qNea (qrb (qLay M 273 0) (M 276) k) ((M 276 k).toNat)))), (0, .ref (G.1 (258))), (1, .int (sI ((n : Int)))), (2, .int (sI ((k : Int))))] dX7_rightBy_26 (by decide) rfl ?_
        refine at_iload_n C 0 dX7_rightBy_27 rfl ?_
        refine at_iconst C dX7_rightBy_28 ?_
        refine at_icmp_eq C 43 dX7_rightBy_29 (by decide) (⟨by omega, by omega⟩) (⟨by omega, by omega⟩) (fun h10 => ?_) (fun h10 => ?_)
        · refine at_iinc C 3 [(2, .int (sI ((k : Int) + 1))), (3, .int (sI (qNea (qrb (qLay M 273 0) (M 276) k) ((M 276 k).toNat)))), (0, .ref (G.1 (258))), (1, .int (sI ((n : Int))))] dX7_rightBy_43 rfl (by decide) rfl ?_
          refine at_goto C 11 dX7_rightBy_46 (by decide) ?_
          refine at_lv [2, 3, 0] rfl ?_
          exact at_eq (ih11 (k + 1) (by omega) (by omega) (TInv_e (qrb_n (A := (qLay M 273 0)) (r := M 276) (k := k) (by omega)) hTk)) (lvc_s (lvc_s (lvc_i (by omega) rfl))) rfl (qrb_n (A := (qLay M 273 0)) (r := M 276) (k := k) (by omega)) (rfl)
        · refine at_aload_n C 1 dX7_rightBy_32 rfl ?_
          refine at_aload_n C 1 dX7_rightBy_33 rfl ?_
          refine at_getf (v := .ref (G.1 (276))) C (obj_Ref G) (ci := 7) rfl inX7 (slot := 29) (by decide) qw_911 rfl rfl dX7_rightBy_34 ?_
          refine at_iload_n C 3 dX7_rightBy_37 rfl ?_
          refine at_iald C k (ar_276 G) (rfl) (by omega) dX7_rightBy_38 ?_
          have hb11 : _ ≤ (qrb (qLay M 273 0) (M 276) k) 276 k ∧ (qrb (qLay M 273 0) (M 276) k) 276 k ≤ _ := tv hTk (k := 276) (j := k) rfl
          refine at_ve (b := (((M 276 k).toNat : Nat) : Int)) (by rw [show (qrb (qLay M 273 0) (M 276) k) 276 k = M 276 k by rw [qrb_c _ _ (by decide) (by decide)]; rfl]; omega) ?_
          refine at_iload_n C 0 dX7_rightBy_39 rfl ?_
          refine at_ve (b := (((qNea (qrb (qLay M 273 0) (M 276) k) (M 276 k).toNat).toNat : Nat) : Int)) (by omega) ?_
          refine at_call_v C (c_X7_takesOne l D G ((M 276 k).toNat) ((qNea (qrb (qLay M 273 0) (M 276) k) (M 276 k).toNat).toNat) (by omega) (by omega) hTk) (As := [.int (sI ((((M 276 k).toNat : Nat) : Int))), .int (sI ((((qNea (qrb (qLay M 273 0) (M 276) k) (M 276 k).toNat).toNat : Nat) : Int)))]) (obj_Ref G) (ci := 7) rfl qw_1184 qw_1181 qw_8 qw_1183 qp_66 ⟨by decide, by decide, show (parseMethodDescriptor yX7_takesOne.desc).map (fun d => d.parameters.length) = some 2 by decide +kernel⟩ ⟨by decide, by decide⟩ ⟨Nat.zero_le _, Nat.zero_le _⟩ (Nat.le_of_ble_eq_true rfl) dX7_rightBy_40 rfl (fun M' L' hp13 => ?_)
          obtain ⟨rfl, hT12, rfl⟩ := hp13
          refine at_iinc C 3 [(2, .int (sI ((k : Int) + 1))), (3, .int (sI (qNea (qrb (qLay M 273 0) (M 276) k) ((M 276 k).toNat)))), (0, .ref (G.1 (258))), (1, .int (sI ((n : Int))))] dX7_rightBy_43 rfl (by decide) rfl ?_
          refine at_goto C 11 dX7_rightBy_46 (by decide) ?_
          refine at_lv [2, 3, 0] rfl ?_
          exact at_eq (ih11 (k + 1) (by omega) (by omega) (TInv_e (qrb_y (A := (qLay M 273 0)) (r := M 276) (k := k) (by omega)) hT12)) (lvc_s (lvc_s (lvc_i (by omega) rfl))) rfl (qrb_y (A := (qLay M 273 0)) (r := M 276) (k := k) (by omega)) (rfl)
  refine at_lv [1, 2, 0] rfl ?_
  exact at_eq (H11 _ 0 (Nat.lt_succ_self _) (by omega) (hT1)) (lvc_s (lvc_s (lvc_i (rfl) rfl))) rfl (rfl) (rfl)

set_option maxHeartbeats 4000000 in
set_option maxRecDepth 100000 in
theorem c_X7_nextRow (l : Launch) (D : va_G) (G : sG) {M : sM} {L : sL} (n : Nat) (hn : n ≤ 6) (hT : TInv M) : sKi l D G yX7_nextRow cX7_nextRow 8 .boolean 0 0 [.ref (G.1 (258)), .int (sI ((n : Int)))] M L (fun r M' L' => r = sB (hasN (M 276) n) ∧ (M' = (if hasN (M 276) n then sSr M 276 (nxt (M 276) n) else M) ∧ TInv M' ∧ L = L')) := by
  refine sKz_go (by decide) (Nat.le_of_ble_eq_true rfl) ?_
  intro zp ze zs zm za zb zt zc Q C hret
  refine at_eq (lv' := [(0, .ref (G.1 (258))), (1, .int (sI ((n : Int))))]) (st' := []) (M' := M) (L' := L) ?_ rfl rfl rfl rfl
  have hqn := qn_r hT
  have hqc := qc_r hT
  have hqu := qu_r hT
  have hqt := qt_r hT
  have hqs := qs_r hT
  have hqo := qo_r hT
  have hqm := qm_r hT
  have hpr := pvt_r (M 276) (n - 1)
  refine at_iload_n C 1 dX7_nextRow_0 rfl ?_
  refine at_iconst C dX7_nextRow_1 ?_
  refine at_isub C dX7_nextRow_2 ?_
  refine at_istore_n C [(2, .int (sI ((n : Int) - 2))), (0, .ref (G.1 (258))), (1, .int (sI ((n : Int))))] dX7_nextRow_3 (by decide) rfl ?_
  have H4 : ∀ (fu : Nat) (t : Int), (t + 2).toNat < fu → (-2 ≤ t ∧ t + 2 ≤ n) → (pvt (M 276) (n - 1) = pvt (M 276) (t + 1).toNat) → sAt zp l ze (sRm 0 0) zs zm za zb zt zc D G 8 0 0 Q 4 [(0, .ref (G.1 (258))), (1, .int (sI ((n : Int)))), (2, .int (sI (t)))] [] M L := by
    intro fu
    induction fu with
    | zero => intro t hd ht hp; exact absurd hd (Nat.not_lt_zero _)
    | succ fu ih4 =>
      intro t hd4 ht hp
      refine at_iload_n C 2 dX7_nextRow_4 rfl ?_
      refine at_if_lt C 31 dX7_nextRow_5 (by decide) (⟨by omega, by omega⟩) (fun h1 => ?_) (fun h1 => ?_)
      · refine at_iload_n C 2 dX7_nextRow_31 rfl ?_
        refine at_if_ge C 37 dX7_nextRow_32 (by decide) (⟨by omega, by omega⟩) (fun h2 => ?_) (fun h2 => ?_)
        · obtain ⟨k, rfl⟩ : ∃ k : Nat, t = (k : Int) := ⟨t.toNat, by omega⟩
          have hpk : pvt (M 276) (n - 1) = (k : Int) := by rw [hp, show ((k : Int) + 1).toNat = k + 1 by omega]; exact pvt_e (by have h9 : M 276 (k : Int).toNat ≤ M 276 ((k : Int).toNat + 1) := (by omega); exact h9)
          refine at_iload_n C 1 dX7_nextRow_37 rfl ?_
          refine at_iconst C dX7_nextRow_38 ?_
          refine at_isub C dX7_nextRow_39 ?_
          refine at_istore_n C [(3, .int (sI ((n : Int) - 1))), (0, .ref (G.1 (258))), (1, .int (sI ((n : Int)))), (2, .int (sI ((k : Int))))] dX7_nextRow_40 (by decide) rfl ?_
          have H41 : ∀ (fu : Nat) (j : Nat), j < fu → (j < n ∧ k < n ∧ k ≤ j) → (jx (M 276) (M 276 k) k (n - 1) = jx (M 276) (M 276 k) k j) → sAt zp l ze (sRm 0 0) zs zm za zb zt zc D G 8 0 0 Q 41 [(0, .ref (G.1 (258))), (1, .int (sI ((n : Int)))), (2, .int (sI ((k : Int)))), (3, .int (sI ((j : Int))))] [] M L := by
            intro fu
            induction fu with
            | zero => intro j hd hj hq; exact absurd hd (Nat.not_lt_zero _)
            | succ fu ih41 =>
              intro j hd41 hj hq
              refine at_aload_n C 0 dX7_nextRow_41 rfl ?_
              refine at_getf (v := .ref (G.1 (276))) C (obj_Ref G) (ci := 7) rfl inX7 (slot := 29) (by decide) qw_911 rfl rfl dX7_nextRow_42 ?_
              refine at_iload_n C 3 dX7_nextRow_45 rfl ?_
              refine at_iald C j (ar_276 G) (rfl) (by omega) dX7_nextRow_46 ?_
              have hb3 : _ ≤ M 276 j ∧ M 276 j ≤ _ := tv hT (k := 276) (j := j) rfl
              refine at_aload_n C 0 dX7_nextRow_47 rfl ?_
              refine at_getf (v := .ref (G.1 (276))) C (obj_Ref G) (ci := 7) rfl inX7 (slot := 29) (by decide) qw_911 rfl rfl dX7_nextRow_48 ?_
              refine at_iload_n C 2 dX7_nextRow_51 rfl ?_
              refine at_iald C k (ar_276 G) (rfl) (by omega) dX7_nextRow_52 ?_
              have hb4 : _ ≤ M 276 k ∧ M 276 k ≤ _ := tv hT (k := 276) (j := k) rfl
              refine at_icmp_ge C 62 dX7_nextRow_53 (by decide) (⟨by omega, by omega⟩) (⟨by omega, by omega⟩) (fun h5 => ?_) (fun h5 => ?_)
              · refine at_aload_n C 0 dX7_nextRow_62 rfl ?_
                refine at_getf (v := .ref (G.1 (276))) C (obj_Ref G) (ci := 7) rfl inX7 (slot := 29) (by decide) qw_911 rfl rfl dX7_nextRow_63 ?_
                refine at_iload_n C 2 dX7_nextRow_66 rfl ?_
                refine at_iald C k (ar_276 G) (rfl) (by omega) dX7_nextRow_67 ?_
                have hb6 : _ ≤ M 276 k ∧ M 276 k ≤ _ := tv hT (k := 276) (j := k) rfl
                refine at_istore C [(4, .int (sI (M 276 k))), (0, .ref (G.1 (258))), (1, .int (sI ((n : Int)))), (2, .int (sI ((k : Int)))), (3, .int (sI ((j : Int))))] dX7_nextRow_68 (by decide) rfl ?_
                refine at_aload_n C 1 dX7_nextRow_70 rfl ?_
                refine at_getf (v := .ref (G.1 (276))) C (obj_Ref G) (ci := 7) rfl inX7 (slot := 29) (by decide) qw_911 rfl rfl dX7_nextRow_71 ?_
                refine at_iload_n C 3 dX7_nextRow_74 rfl ?_
                refine at_aload_n C 1 dX7_nextRow_75 rfl ?_
                refine at_getf (v := .ref (G.1 (276))) C (obj_Ref G) (ci := 7) rfl inX7 (slot := 29) (by decide) qw_911 rfl rfl dX7_nextRow_76 ?_
                refine at_iload_n C 4 dX7_nextRow_79 rfl ?_
                refine at_iald C j (ar_276 G) (rfl) (by omega) dX7_nextRow_80 ?_
                have hb7 : _ ≤ M 276 j ∧ M 276 j ≤ _ := tv hT (k := 276) (j := j) rfl
                refine at_iast C k (ar_276 G) (rfl) (by omega) dX7_nextRow_81 ?_
                have hT8 : TInv (sSt M 276 k (M 276 j)) := tv_st hT (k := 276) rfl (⟨by omega, by omega⟩)
                refine at_aload_n C 1 dX7_nextRow_82 rfl ?_
                refine at_getf (v := .ref (G.1 (276))) C (obj_Ref G) (ci := 7) rfl inX7 (slot := 29) (by decide) qw_911 rfl rfl dX7_nextRow_83 ?_
                refine at_iload_n C 4 dX7_nextRow_86 rfl ?_
                refine at_iload C 0 dX7_nextRow_87 rfl ?_
                refine at_iast C j (ar_276 G) (rfl) (by omega) dX7_nextRow_89 ?_
                have hT9 : TInv (sSt (sSt M 276 k (M 276 j)) 276 j (M 276 k)) := tv_st hT8 (k := 276) rfl (⟨by omega, by omega⟩)
                refine at_iload_n C 3 dX7_nextRow_90 rfl ?_
                refine at_iconst C dX7_nextRow_91 ?_
                refine at_iadd C dX7_nextRow_92 ?_
                refine at_istore C [(5, .int (sI ((k : Int) + 1))), (4, .int (sI (M 276 k))), (0, .ref (G.1 (258))), (1, .int (sI ((n : Int)))), (2, .int (sI ((k : Int)))), (3, .int (sI ((j : Int))))] dX7_nextRow_93 (by decide) rfl ?_
                refine at_iload_n C 3 dX7_nextRow_95 rfl ?_
                refine at_iconst C dX7_nextRow_96 ?_
                refine at_isub C dX7_nextRow_97 ?_
                refine at_istore C [(6, .int (sI ((n : Int) - 1))), (5, .int (sI ((k : Int) + 1))), (4, .int (sI (M 276 k))), (0, .ref (G.1 (258))), (1, .int (sI ((n : Int)))), (2, .int (sI ((k : Int)))), (3, .int (sI ((j : Int))))] dX7_nextRow_98 (by decide) rfl ?_
                have H100 : ∀ (fu : Nat) (f : Nat) (a : Nat) (b : Nat) (q : Nat → Int), f < fu → (a ≤ n ∧ b < n ∧ b ≤ a + f ∧ 1 ≤ a) → (TInv (sSr M 276 q)) → (nxt (M 276) n = rvs f q a b) → sAt zp l ze (sRm 0 0) zs zm za zb zt zc D G 8 0 0 Q 100 [(0, .ref (G.1 (258))), (1, .int (sI ((n : Int)))), (2, .int (sI ((k : Int)))), (3, .int (sI ((j : Int)))), (4, .int (sI (M 276 k))), (5, .int (sI ((a : Int)))), (6, .int (sI ((b : Int))))] [] (sSr M 276 q) L := by
                  intro fu
                  induction fu with
                  | zero => intro f a b q hd hab hTq hq2; exact absurd hd (Nat.not_lt_zero _)
                  | succ fu ih100 =>
                    intro f a b q hd100 hab hTq hq2
                    have hqa : _ ≤ sSr M 276 q 276 a ∧ sSr M 276 q 276 a ≤ _ := tv hTq (k := 276) (j := a) (lo := 0) (hi := 5) rfl
                    rw [sSr_eq] at hqa
                    have hqb : _ ≤ sSr M 276 q 276 b ∧ sSr M 276 q 276 b ≤ _ := tv hTq (k := 276) (j := b) (lo := 0) (hi := 5) rfl
                    rw [sSr_eq] at hqb
                    refine at_iload C 5 dX7_nextRow_100 rfl ?_
                    refine at_iload C 6 dX7_nextRow_102 rfl ?_
                    refine at_icmp_ge C 148 dX7_nextRow_104 (by decide) (⟨by omega, by omega⟩) (⟨by omega, by omega⟩) (fun h10 => ?_) (fun h10 => ?_)
                    · refine at_iconst C dX7_nextRow_148 ?_
                      exact hret _ _ _ _ _ dX7_nextRow_149 (sB_t (by unfold hasN; rw [hpk]; omega)) ⟨by rw [if_pos (show hasN (M 276) n by unfold hasN; rw [hpk]; omega), hq2, rvs_n (by omega)], hTq, rfl⟩
                    · refine at_aload_n C 0 dX7_nextRow_107 rfl ?_
                      refine at_getf (v := .ref (G.1 (276))) C (obj_Ref G) (ci := 7) rfl inX7 (slot := 29) (by decide) qw_911 rfl rfl dX7_nextRow_108 ?_
                      refine at_iload C 5 dX7_nextRow_111 rfl ?_
                      refine at_iald C a (ar_276 G) (rfl) (by omega) dX7_nextRow_113 ?_
                      have hb11 : _ ≤ (sSr M 276 q) 276 a ∧ (sSr M 276 q) 276 a ≤ _ := tv hTq (k := 276) (j := a) rfl
                      refine at_ve (b := q a) (by rw [sSr_eq]) ?_
                      refine at_istore C [(7, .int (sI (q a))), (0, .ref (G.1 (258))), (1, .int (sI ((n : Int)))), (2, .int (sI ((k : Int)))), (3, .int (sI ((j : Int)))), (4, .int (sI (M 276 k))), (5, .int (sI ((a : Int)))), (6, .int (sI ((b : Int))))] dX7_nextRow_114 (by decide) rfl ?_
                      refine at_aload_n C 1 dX7_nextRow_116 rfl ?_
                      refine at_getf (v := .ref (G.1 (276))) C (obj_Ref G) (ci := 7) rfl inX7 (slot := 29) (by decide) qw_911 rfl rfl dX7_nextRow_117 ?_
                      refine at_iload C 6 dX7_nextRow_120 rfl ?_
                      refine at_aload_n C 1 dX7_nextRow_122 rfl ?_
                      refine at_getf (v := .ref (G.1 (276))) C (obj_Ref G) (ci := 7) rfl inX7 (slot := 29) (by decide) qw_911 rfl rfl dX7_nextRow_123 ?_
                      refine at_iload C 7 dX7_nextRow_126 rfl ?_
                      refine at_iald C b (ar_276 G) (rfl) (by omega) dX7_nextRow_128 ?_
                      have hb12 : _ ≤ (sSr M 276 q) 276 b ∧ (sSr M 276 q) 276 b ≤ _ := tv hTq (k := 276) (j := b) rfl
                      refine at_ve (b := q b) (by rw [sSr_eq]) ?_
                      refine at_iast C a (ar_276 G) (rfl) (by omega) dX7_nextRow_129 ?_
                      have hT13 : TInv (sSt (sSr M 276 q) 276 a (q b)) := tv_st hTq (k := 276) rfl (⟨by omega, by omega⟩)
                      refine at_aload_n C 1 dX7_nextRow_130 rfl ?_
                      refine at_getf (v := .ref (G.1 (276))) C (obj_Ref G) (ci := 7) rfl inX7 (slot := 29) (by decide) qw_911 rfl rfl dX7_nextRow_131 ?_
                      refine at_iload C 7 dX7_nextRow_134 rfl ?_
                      refine at_iload C 0 dX7_nextRow_136 rfl ?_
                      refine at_iast C b (ar_276 G) (rfl) (by omega) dX7_nextRow_138 ?_
                      have hT14 : TInv (sSt (sSt (sSr M 276 q) 276 a (q b)) 276 b (q a)) := tv_st hT13 (k := 276) rfl (⟨by omega, by omega⟩)
                      refine at_iinc C 6 [(5, .int (sI ((a : Int) + 1))), (7, .int (sI (q a))), (0, .ref (G.1 (258))), (1, .int (sI ((n : Int)))), (2, .int (sI ((k : Int)))), (3, .int (sI ((j : Int)))), (4, .int (sI (M 276 k))), (6, .int (sI ((b : Int))))] dX7_nextRow_139 rfl (by decide) rfl ?_
                      refine at_iinc C 7 [(6, .int (sI ((b : Int) + (-1)))), (5, .int (sI ((a : Int) + 1))), (7, .int (sI (q a))), (0, .ref (G.1 (258))), (1, .int (sI ((n : Int)))), (2, .int (sI ((k : Int)))), (3, .int (sI ((j : Int)))), (4, .int (sI (M 276 k)))] dX7_nextRow_142 rfl (by decide) rfl ?_
                      refine at_goto C 100 dX7_nextRow_145 (by decide) ?_
                      refine at_lv [3, 4, 5, 6, 7, 1, 0] rfl ?_
                      exact at_eq (ih100 (f - 1) (a + 1) (b - 1) (swp q a b) (by omega) (⟨by omega, by omega, by omega, by omega⟩) (TInv_e (swp6_s M q a b) hT14) (by rw [hq2]; obtain ⟨f1, rfl⟩ : ∃ f1, f = f1 + 1 := ⟨f - 1, by omega⟩; rw [rvs_y (by omega)]; rfl)) (lvc_s (lvc_s (lvc_s (lvc_s (lvc_s (lvc_i (by omega) (lvc_i (by omega) rfl))))))) rfl (swp6_s M q a b) (rfl)
                refine at_lv [3, 4, 5, 6, 2, 1, 0] rfl ?_
                exact at_eq (H100 _ n (k + 1) (n - 1) (swp (M 276) k (jx (M 276) (M 276 k) k (n - 1))) (Nat.lt_succ_self _) (⟨by omega, by omega, by omega, by omega⟩) (by rw [hq, jx_e (by omega)]; exact TInv_e (swp6_is M k j) hT9) (by unfold nxt; rw [hpk]; rfl)) (lvc_s (lvc_s (lvc_s (lvc_s (lvc_s (lvc_i (rfl) (lvc_i (by omega) rfl))))))) rfl (by rw [hq, jx_e (by omega)]; exact swp6_is M k j) (rfl)
              · have hjk : j ≠ k := fun z => by subst z; omega
                refine at_iinc C 3 [(3, .int (sI ((j : Int) + (-1)))), (0, .ref (G.1 (258))), (1, .int (sI ((n : Int)))), (2, .int (sI ((k : Int))))] dX7_nextRow_56 rfl (by decide) rfl ?_
                refine at_goto C 41 dX7_nextRow_59 (by decide) ?_
                refine at_lv [1, 2, 3, 0] rfl ?_
                exact at_eq (ih41 (j - 1) (by omega) (⟨by omega, by omega, by omega⟩) (by rw [hq]; exact jx_y (by omega) (by assumption))) (lvc_s (lvc_s (lvc_s (lvc_i (by omega) rfl)))) rfl (rfl) (rfl)
          refine at_lv [1, 2, 3, 0] rfl ?_
          exact at_eq (H41 _ (n - 1) (Nat.lt_succ_self _) (⟨by omega, by omega, by omega⟩) (rfl)) (lvc_s (lvc_s (lvc_s (lvc_i (by omega) rfl)))) rfl (rfl) (rfl)
        · refine at_iconst C dX7_nextRow_35 ?_
          exact hret _ _ _ _ _ dX7_nextRow_36 (sB_f (fun z => z (by rw [hp, show (t + 1).toNat = 0 by omega]; rfl))) ⟨(if_neg (fun z => z (by rw [hp, show (t + 1).toNat = 0 by omega]; rfl))).symm, hT, rfl⟩
      · refine at_aload_n C 0 dX7_nextRow_8 rfl ?_
        refine at_getf (v := .ref (G.1 (276))) C (obj_Ref G) (ci := 7) rfl inX7 (slot := 29) (by decide) qw_911 rfl rfl dX7_nextRow_9 ?_
        refine at_iload_n C 2 dX7_nextRow_12 rfl ?_
        refine at_iald C t.toNat (ar_276 G) (by omega) (by omega) dX7_nextRow_13 ?_
        have hb15 : _ ≤ M 276 t.toNat ∧ M 276 t.toNat ≤ _ := tv hT (k := 276) (j := t.toNat) rfl
        refine at_aload_n C 0 dX7_nextRow_14 rfl ?_
        refine at_getf (v := .ref (G.1 (276))) C (obj_Ref G) (ci := 7) rfl inX7 (slot := 29) (by decide) qw_911 rfl rfl dX7_nextRow_15 ?_
        refine at_iload_n C 2 dX7_nextRow_18 rfl ?_
        refine at_iconst C dX7_nextRow_19 ?_
        refine at_iadd C dX7_nextRow_20 ?_
        refine at_iald C (t.toNat + 1) (ar_276 G) (by omega) (by omega) dX7_nextRow_21 ?_
        have hb16 : _ ≤ M 276 (t.toNat + 1) ∧ M 276 (t.toNat + 1) ≤ _ := tv hT (k := 276) (j := (t.toNat + 1)) rfl
        refine at_icmp_le C 31 dX7_nextRow_22 (by decide) (⟨by omega, by omega⟩) (⟨by omega, by omega⟩) (fun h17 => ?_) (fun h17 => ?_)
        · refine at_iload_n C 2 dX7_nextRow_31 rfl ?_
          refine at_if_ge C 37 dX7_nextRow_32 (by decide) (⟨by omega, by omega⟩) (fun h18 => ?_) (fun h18 => ?_)
          · obtain ⟨k, rfl⟩ : ∃ k : Nat, t = (k : Int) := ⟨t.toNat, by omega⟩
            have hpk : pvt (M 276) (n - 1) = (k : Int) := by rw [hp, show ((k : Int) + 1).toNat = k + 1 by omega]; exact pvt_e (by have h9 : M 276 (k : Int).toNat ≤ M 276 ((k : Int).toNat + 1) := (by omega); exact h9)
            refine at_iload_n C 1 dX7_nextRow_37 rfl ?_
            refine at_iconst C dX7_nextRow_38 ?_
            refine at_isub C dX7_nextRow_39 ?_
            refine at_istore_n C [(3, .int (sI ((n : Int) - 1))), (0, .ref (G.1 (258))), (1, .int (sI ((n : Int)))), (2, .int (sI ((k : Int))))] dX7_nextRow_40 (by decide) rfl ?_
            have H41 : ∀ (fu : Nat) (j : Nat), j < fu → (j < n ∧ k < n ∧ k ≤ j) → (jx (M 276) (M 276 k) k (n - 1) = jx (M 276) (M 276 k) k j) → sAt zp l ze (sRm 0 0) zs zm za zb zt zc D G 8 0 0 Q 41 [(0, .ref (G.1 (258))), (1, .int (sI ((n : Int)))), (2, .int (sI ((k : Int)))), (3, .int (sI ((j : Int))))] [] M L := by
              intro fu
              induction fu with
              | zero => intro j hd hj hq; exact absurd hd (Nat.not_lt_zero _)
              | succ fu ih41 =>
                intro j hd41 hj hq
                refine at_aload_n C 0 dX7_nextRow_41 rfl ?_
                refine at_getf (v := .ref (G.1 (276))) C (obj_Ref G) (ci := 7) rfl inX7 (slot := 29) (by decide) qw_911 rfl rfl dX7_nextRow_42 ?_
                refine at_iload_n C 3 dX7_nextRow_45 rfl ?_
                refine at_iald C j (ar_276 G) (rfl) (by omega) dX7_nextRow_46 ?_
                have hb19 : _ ≤ M 276 j ∧ M 276 j ≤ _ := tv hT (k := 276) (j := j) rfl
                refine at_aload_n C 0 dX7_nextRow_47 rfl ?_
                refine at_getf (v := .ref (G.1 (276))) C (obj_Ref G) (ci := 7) rfl inX7 (slot := 29) (by decide) qw_911 rfl rfl dX7_nextRow_48 ?_
                refine at_iload_n C 2 dX7_nextRow_51 rfl ?_
                refine at_iald C k (ar_276 G) (rfl) (by omega) dX7_nextRow_52 ?_
                have hb20 : _ ≤ M 276 k ∧ M 276 k ≤ _ := tv hT (k := 276) (j := k) rfl
                refine at_icmp_ge C 62 dX7_nextRow_53 (by decide) (⟨by omega, by omega⟩) (⟨by omega, by omega⟩) (fun h21 => ?_) (fun h21 => ?_)
                · refine at_aload_n C 0 dX7_nextRow_62 rfl ?_
                  refine at_getf (v := .ref (G.1 (276))) C (obj_Ref G) (ci := 7) rfl inX7 (slot := 29) (by decide) qw_911 rfl rfl dX7_nextRow_63 ?_
                  refine at_iload_n C 2 dX7_nextRow_66 rfl ?_
                  refine at_iald C k (ar_276 G) (rfl) (by omega) dX7_nextRow_67 ?_
                  have hb22 : _ ≤ M 276 k ∧ M 276 k ≤ _ := tv hT (k := 276) (j := k) rfl
                  refine at_istore C [(4, .int (sI (M 276 k))), (0, .ref (G.1 (258))), (1, .int (sI ((n : Int)))), (2, .int (sI ((k : Int)))), (3, .int (sI ((j : Int))))] dX7_nextRow_68 (by decide) rfl ?_
                  refine at_aload_n C 1 dX7_nextRow_70 rfl ?_
                  refine at_getf (v := .ref (G.1 (276))) C (obj_Ref G) (ci := 7) rfl inX7 (slot := 29) (by decide) qw_911 rfl rfl dX7_nextRow_71 ?_
                  refine at_iload_n C 3 dX7_nextRow_74 rfl ?_
                  refine at_aload_n C 1 dX7_nextRow_75 rfl ?_
                  refine at_getf (v := .ref (G.1 (276))) C (obj_Ref G) (ci := 7) rfl inX7 (slot := 29) (by decide) qw_911 rfl rfl dX7_nextRow_76 ?_
                  refine at_iload_n C 4 dX7_nextRow_79 rfl ?_
                  refine at_iald C j (ar_276 G) (rfl) (by omega) dX7_nextRow_80 ?_
                  have hb23 : _ ≤ M 276 j ∧ M 276 j ≤ _ := tv hT (k := 276) (j := j) rfl
                  refine at_iast C k (ar_276 G) (rfl) (by omega) dX7_nextRow_81 ?_
                  have hT24 : TInv (sSt M 276 k (M 276 j)) := tv_st hT (k := 276) rfl (⟨by omega, by omega⟩)
                  refine at_aload_n C 1 dX7_nextRow_82 rfl ?_
                  refine at_getf (v := .ref (G.1 (276))) C (obj_Ref G) (ci := 7) rfl inX7 (slot := 29) (by decide) qw_911 rfl rfl dX7_nextRow_83 ?_
                  refine at_iload_n C 4 dX7_nextRow_86 rfl ?_
                  refine at_iload C 0 dX7_nextRow_87 rfl ?_
                  refine at_iast C j (ar_276 G) (rfl) (by omega) dX7_nextRow_89 ?_
                  have hT25 : TInv (sSt (sSt M 276 k (M 276 j)) 276 j (M 276 k)) := tv_st hT24 (k := 276) rfl (⟨by omega, by omega⟩)
                  refine at_iload_n C 3 dX7_nextRow_90 rfl ?_
                  refine at_iconst C dX7_nextRow_91 ?_
                  refine at_iadd C dX7_nextRow_92 ?_
                  refine at_istore C [(5, .int (sI ((k : Int) + 1))), (4, .int (sI (M 276 k))), (0, .ref (G.1 (258))), (1, .int (sI ((n : Int)))), (2, .int (sI ((k : Int)))), (3, .int (sI ((j : Int))))] dX7_nextRow_93 (by decide) rfl ?_
                  refine at_iload_n C 3 dX7_nextRow_95 rfl ?_
                  refine at_iconst C dX7_nextRow_96 ?_
                  refine at_isub C dX7_nextRow_97 ?_
                  refine at_istore C [(6, .int (sI ((n : Int) - 1))), (5, .int (sI ((k : Int) + 1))), (4, .int (sI (M 276 k))), (0, .ref (G.1 (258))), (1, .int (sI ((n : Int)))), (2, .int (sI ((k : Int)))), (3, .int (sI ((j : Int))))] dX7_nextRow_98 (by decide) rfl ?_
                  have H100 : ∀ (fu : Nat) (f : Nat) (a : Nat) (b : Nat) (q : Nat → Int), f < fu → (a ≤ n ∧ b < n ∧ b ≤ a + f ∧ 1 ≤ a) → (TInv (sSr M 276 q)) → (nxt (M 276) n = rvs f q a b) → sAt zp l ze (sRm 0 0) zs zm za zb zt zc D G 8 0 0 Q 100 [(0, .ref (G.1 (258))), (1, .int (sI ((n : Int)))), (2, .int (sI ((k : Int)))), (3, .int (sI ((j : Int)))), (4, .int (sI (M 276 k))), (5, .int (sI ((a : Int)))), (6, .int (sI ((b : Int))))] [] (sSr M 276 q) L := by
                    intro fu
                    induction fu with
                    | zero => intro f a b q hd hab hTq hq2; exact absurd hd (Nat.not_lt_zero _)
                    | succ fu ih100 =>
                      intro f a b q hd100 hab hTq hq2
                      have hqa : _ ≤ sSr M 276 q 276 a ∧ sSr M 276 q 276 a ≤ _ := tv hTq (k := 276) (j := a) (lo := 0) (hi := 5) rfl
                      rw [sSr_eq] at hqa
                      have hqb : _ ≤ sSr M 276 q 276 b ∧ sSr M 276 q 276 b ≤ _ := tv hTq (k := 276) (j := b) (lo := 0) (hi := 5) rfl
                      rw [sSr_eq] at hqb
                      refine at_iload C 5 dX7_nextRow_100 rfl ?_
                      refine at_iload C 6 dX7_nextRow_102 rfl ?_
                      refine at_icmp_ge C 148 dX7_nextRow_104 (by decide) (⟨by omega, by omega⟩) (⟨by omega, by omega⟩) (fun h26 => ?_) (fun h26 => ?_)
                      · refine at_iconst C dX7_nextRow_148 ?_
                        exact hret _ _ _ _ _ dX7_nextRow_149 (sB_t (by unfold hasN; rw [hpk]; omega)) ⟨by rw [if_pos (show hasN (M 276) n by unfold hasN; rw [hpk]; omega), hq2, rvs_n (by omega)], hTq, rfl⟩
                      · refine at_aload_n C 0 dX7_nextRow_107 rfl ?_
                        refine at_getf (v := .ref (G.1 (276))) C (obj_Ref G) (ci := 7) rfl inX7 (slot := 29) (by decide) qw_911 rfl rfl dX7_nextRow_108 ?_
                        refine at_iload C 5 dX7_nextRow_111 rfl ?_
                        refine at_iald C a (ar_276 G) (rfl) (by omega) dX7_nextRow_113 ?_
                        have hb27 : _ ≤ (sSr M 276 q) 276 a ∧ (sSr M 276 q) 276 a ≤ _ := tv hTq (k := 276) (j := a) rfl
                        refine at_ve (b := q a) (by rw [sSr_eq]) ?_
                        refine at_istore C [(7, .int (sI (q a))), (0, .ref (G.1 (258))), (1, .int (sI ((n : Int)))), (2, .int (sI ((k : Int)))), (3, .int (sI ((j : Int)))), (4, .int (sI (M 276 k))), (5, .int (sI ((a : Int)))), (6, .int (sI ((b : Int))))] dX7_nextRow_114 (by decide) rfl ?_
                        refine at_aload_n C 1 dX7_nextRow_116 rfl ?_
                        refine at_getf (v := .ref (G.1 (276))) C (obj_Ref G) (ci := 7) rfl inX7 (slot := 29) (by decide) qw_911 rfl rfl dX7_nextRow_117 ?_
                        refine at_iload C 6 dX7_nextRow_120 rfl ?_
                        refine at_aload_n C 1 dX7_nextRow_122 rfl ?_
                        refine at_getf (v := .ref (G.1 (276))) C (obj_Ref G) (ci := 7) rfl inX7 (slot := 29) (by decide) qw_911 rfl rfl dX7_nextRow_123 ?_
                        refine at_iload C 7 dX7_nextRow_126 rfl ?_
                        refine at_iald C b (ar_276 G) (rfl) (by omega) dX7_nextRow_128 ?_
                        have hb28 : _ ≤ (sSr M 276 q) 276 b ∧ (sSr M 276 q) 276 b ≤ _ := tv hTq (k := 276) (j := b) rfl
                        refine at_ve (b := q b) (by rw [sSr_eq]) ?_
                        refine at_iast C a (ar_276 G) (rfl) (by omega) dX7_nextRow_129 ?_
                        have hT29 : TInv (sSt (sSr M 276 q) 276 a (q b)) := tv_st hTq (k := 276) rfl (⟨by omega, by omega⟩)
                        refine at_aload_n C 1 dX7_nextRow_130 rfl ?_
                        refine at_getf (v := .ref (G.1 (276))) C (obj_Ref G) (ci := 7) rfl inX7 (slot := 29) (by decide) qw_911 rfl rfl dX7_nextRow_131 ?_
                        refine at_iload C 7 dX7_nextRow_134 rfl ?_
                        refine at_iload C 0 dX7_nextRow_136 rfl ?_
                        refine at_iast C b (ar_276 G) (rfl) (by omega) dX7_nextRow_138 ?_
                        have hT30 : TInv (sSt (sSt (sSr M 276 q) 276 a (q b)) 276 b (q a)) := tv_st hT29 (k := 276) rfl (⟨by omega, by omega⟩)
                        refine at_iinc C 6 [(5, .int (sI ((a : Int) + 1))), (7, .int (sI (q a))), (0, .ref (G.1 (258))), (1, .int (sI ((n : Int)))), (2, .int (sI ((k : Int)))), (3, .int (sI ((j : Int)))), (4, .int (sI (M 276 k))), (6, .int (sI ((b : Int))))] dX7_nextRow_139 rfl (by decide) rfl ?_
                        refine at_iinc C 7 [(6, .int (sI ((b : Int) + (-1)))), (5, .int (sI ((a : Int) + 1))), (7, .int (sI (q a))), (0, .ref (G.1 (258))), (1, .int (sI ((n : Int)))), (2, .int (sI ((k : Int)))), (3, .int (sI ((j : Int)))), (4, .int (sI (M 276 k)))] dX7_nextRow_142 rfl (by decide) rfl ?_
                        refine at_goto C 100 dX7_nextRow_145 (by decide) ?_
                        refine at_lv [3, 4, 5, 6, 7, 1, 0] rfl ?_
                        exact at_eq (ih100 (f - 1) (a + 1) (b - 1) (swp q a b) (by omega) (⟨by omega, by omega, by omega, by omega⟩) (TInv_e (swp6_s M q a b) hT30) (by rw [hq2]; obtain ⟨f1, rfl⟩ : ∃ f1, f = f1 + 1 := ⟨f - 1, by omega⟩; rw [rvs_y (by omega)]; rfl)) (lvc_s (lvc_s (lvc_s (lvc_s (lvc_s (lvc_i (by omega) (lvc_i (by omega) rfl))))))) rfl (swp6_s M q a b) (rfl)
                  refine at_lv [3, 4, 5, 6, 2, 1, 0] rfl ?_
                  exact at_eq (H100 _ n (k + 1) (n - 1) (swp (M 276) k (jx (M 276) (M 276 k) k (n - 1))) (Nat.lt_succ_self _) (⟨by omega, by omega, by omega, by omega⟩) (by rw [hq, jx_e (by omega)]; exact TInv_e (swp6_is M k j) hT25) (by unfold nxt; rw [hpk]; rfl)) (lvc_s (lvc_s (lvc_s (lvc_s (lvc_s (lvc_i (rfl) (lvc_i (by omega) rfl))))))) rfl (by rw [hq, jx_e (by omega)]; exact swp6_is M k j) (rfl)
                · have hjk : j ≠ k := fun z => by subst z; omega
                  refine at_iinc C 3 [(3, .int (sI ((j : Int) + (-1)))), (0, .ref (G.1 (258))), (1, .int (sI ((n : Int)))), (2, .int (sI ((k : Int))))] dX7_nextRow_56 rfl (by decide) rfl ?_
                  refine at_goto C 41 dX7_nextRow_59 (by decide) ?_
                  refine at_lv [1, 2, 3, 0] rfl ?_
                  exact at_eq (ih41 (j - 1) (by omega) (⟨by omega, by omega, by omega⟩) (by rw [hq]; exact jx_y (by omega) (by assumption))) (lvc_s (lvc_s (lvc_s (lvc_i (by omega) rfl)))) rfl (rfl) (rfl)
            refine at_lv [1, 2, 3, 0] rfl ?_
            exact at_eq (H41 _ (n - 1) (Nat.lt_succ_self _) (⟨by omega, by omega, by omega⟩) (rfl)) (lvc_s (lvc_s (lvc_s (lvc_i (by omega) rfl)))) rfl (rfl) (rfl)
          · refine at_iconst C dX7_nextRow_35 ?_
            exact hret _ _ _ _ _ dX7_nextRow_36 (sB_f (fun z => z (by rw [hp, show (t + 1).toNat = 0 by omega]; rfl))) ⟨(if_neg (fun z => z (by rw [hp, show (t + 1).toNat = 0 by omega]; rfl))).symm, hT, rfl⟩
        · refine at_iinc C 2 [(2, .int (sI (t + (-1)))), (0, .ref (G.1 (258))), (1, .int (sI ((n : Int))))] dX7_nextRow_25 rfl (by decide) rfl ?_
          refine at_goto C 4 dX7_nextRow_28 (by decide) ?_
          refine at_lv [1, 2, 0] rfl ?_
          exact at_eq (ih4 (t + (-1)) (by omega) (⟨by omega, by omega⟩) (by rw [hp, show (t + 1).toNat = (t + (-1) + 1).toNat + 1 by omega]; exact pvt_s (by rw [show (t + (-1) + 1).toNat = t.toNat by omega]; assumption))) (lvc_s (lvc_s (lvc_i (rfl) rfl))) rfl (rfl) (rfl)
  refine at_lv [1, 2, 0] rfl ?_
  exact at_eq (H4 _ ((n : Int) - 2) (Nat.lt_succ_self _) (⟨by omega, by omega⟩) (by congr 1; omega)) (lvc_s (lvc_s (lvc_i (by omega) rfl))) rfl (rfl) (rfl)

set_option maxHeartbeats 4000000 in
set_option maxRecDepth 100000 in
theorem c_X7_order (l : Launch) (D : va_G) (G : sG) {M : sM} {L : sL} (kk : Int) (hkr : InR kk) (hT : TInv M) (hc : qCt M) : sKi l D G yX7_order cX7_order 7 .int 7 155 [.ref (G.1 (258)), .int (sI (kk))] M L (fun r M' L' => r = sI (qrOrder M kk) ∧ (kk < -1 → M' = qBad M) ∧ (-1 ≤ kk → qoAw M M') ∧ TInv M' ∧ L = L') := by
  refine sKi_go (by decide) (Nat.le_of_ble_eq_true rfl) ?_
  intro zp ze zs zm za zb zt zc Q C hret
  refine at_eq (lv' := [(0, .ref (G.1 (258))), (1, .int (sI (kk)))]) (st' := []) (M' := M) (L' := L) ?_ rfl rfl rfl rfl
  have hqn := qn_r hT
  have hqc := qc_r hT
  have hqu := qu_r hT
  have hqt := qt_r hT
  have hqs := qs_r hT
  have hqo := qo_r hT
  have hqm := qm_r hT
  have hqoN := qoN_r hT
  refine at_iload_n C 1 dX7_order_0 rfl ?_
  refine at_iconst C dX7_order_1 ?_
  refine at_icmp_ge C 10 dX7_order_2 (by decide) (⟨by omega, by omega⟩) (⟨by omega, by omega⟩) (fun h1 => ?_) (fun h1 => ?_)
  · refine at_iconst C dX7_order_10 ?_
    refine at_istore_n C [(2, .int (sI (0))), (0, .ref (G.1 (258))), (1, .int (sI (kk)))] dX7_order_11 (by decide) rfl ?_
    refine at_iconst C dX7_order_12 ?_
    refine at_istore_n C [(3, .int (sI (0))), (2, .int (sI (0))), (0, .ref (G.1 (258))), (1, .int (sI (kk)))] dX7_order_13 (by decide) rfl ?_
    have H14 : ∀ (fu : Nat) (i : Nat), qc M - i < fu → (i ≤ qc M) → sAt zp l ze (sRm 7 155) zs zm za zb zt zc D G 7 0 0 Q 14 [(0, .ref (G.1 (258))), (1, .int (sI (kk))), (2, .int (sI ((((frC (qHeld M) i) : Nat) : Int)))), (3, .int (sI ((i : Int))))] [] (mqF M i) L := by
      intro fu
      induction fu with
      | zero => intro i hd hk; exact absurd hd (Nat.not_lt_zero _)
      | succ fu ih14 =>
        intro i hd14 hk
        have hfc := frC_le (qHeld M) i
        refine at_iload_n C 3 dX7_order_14 rfl ?_
        refine at_aload_n C 0 dX7_order_15 rfl ?_
        refine at_getf (v := .int (sI ((mqF M i) 258 2))) C (obj_Ref G) (ci := 7) rfl inX7 (slot := 2) (by decide) qw_884 rfl rfl dX7_order_16 ?_
        refine at_ve (b := M 258 2) (rfl) ?_
        have hb2 : _ ≤ M 258 2 ∧ M 258 2 ≤ _ := tv (mqF_T hT hk) (k := 258) (j := 2) rfl
        refine at_ve (b := (((qc M) : Nat) : Int)) (hqc.2) ?_
        refine at_icmp_ge C 47 dX7_order_19 (by decide) (⟨by omega, by omega⟩) (⟨by omega, by omega⟩) (fun h3 => ?_) (fun h3 => ?_)
        · obtain rfl : i = qc M := by omega
          refine at_eq (lv' := [(0, .ref (G.1 (258))), (1, .int (sI (kk))), (2, .int (sI ((((qoN M) : Nat) : Int)))), (3, .int (sI ((((qc M) : Nat) : Int))))]) (st' := []) (M' := (mqF M (qc M))) (L' := L) ?_ rfl rfl rfl rfl
          refine at_iconst C dX7_order_47 ?_
          refine at_istore_n C [(3, .int (sI (-1))), (0, .ref (G.1 (258))), (1, .int (sI (kk))), (2, .int (sI ((((qoN M) : Nat) : Int))))] dX7_order_48 (by decide) rfl ?_
          refine at_iconst C dX7_order_49 ?_
          refine at_vi (y := (sB (0 ≤ eN (qoN M)))) (sB_t (Nat.zero_le _)) ?_
          refine at_istore C [(4, .int (sB (0 ≤ eN (qoN M)))), (3, .int (sI (-1))), (0, .ref (G.1 (258))), (1, .int (sI (kk))), (2, .int (sI ((((qoN M) : Nat) : Int))))] dX7_order_50 (by decide) rfl ?_
          have H52 : ∀ (fu : Nat) (k : Nat) (M1 : sM), eN (qoN M) + 1 - k < fu → (k ≤ eN (qoN M) + 1) → (qoAw M M1) → (k ≤ eN (qoN M) → M1 276 = rowN (qoR M) (qoN M) k) → (k = 0 ∨ ∀ j, j < qoN M → M1 277 j = rowN (qoR M) (qoN M) (mxI (qoV M) k) j) → (TInv M1) → sAt zp l ze (sRm 7 155) zs zm za zb zt zc D G 7 0 0 Q 52 [(0, .ref (G.1 (258))), (1, .int (sI (kk))), (2, .int (sI ((((qoN M) : Nat) : Int)))), (3, .int (sI (mxV (qoV M) k))), (4, .int (sB (k ≤ eN (qoN M))))] [] M1 L := by
            intro fu
            induction fu with
            | zero => intro k M1 hd hk hA hR hB hT1; exact absurd hd (Nat.not_lt_zero _)
            | succ fu ih52 =>
              intro k M1 hd52 hk hA hR hB hT1
              have hmv := mxV_r (qoV_r hT) k
              refine at_iload C 4 dX7_order_52 rfl ?_
              refine at_if_eqB C 112 dX7_order_54 (by decide) (fun h4 => ?_) (fun h4 => ?_)
              · have hkE : k = eN (qoN M) + 1 := by omega
                have hB2 : ∀ j, j < qoN M → M1 277 j = rowN (qoR M) (qoN M) (mxI (qoV M) (eN (qoN M) + 1)) j := by rcases hB with z | z; omega; rw [← hkE]; exact z
                refine at_iload_n C 1 dX7_order_112 rfl ?_
                refine at_iconst C dX7_order_113 ?_
                refine at_icmp_ne C 121 dX7_order_114 (by decide) (⟨by omega, by omega⟩) (⟨by omega, by omega⟩) (fun h5 => ?_) (fun h5 => ?_)
                · refine at_iload_n C 1 dX7_order_121 rfl ?_
                  refine at_iload_n C 2 dX7_order_122 rfl ?_
                  refine at_icmp_ge C 135 dX7_order_123 (by decide) (⟨by omega, by omega⟩) (⟨by omega, by omega⟩) (fun h6 => ?_) (fun h6 => ?_)
                  · refine at_bipush C dX7_order_135 (by decide) (by decide) ?_
                    exact hret _ _ _ _ _ dX7_order_137 (⟨congrArg sI (by unfold qrOrder; rw [if_neg (by omega), if_neg (by omega), if_neg (by omega)]), fun z => absurd z (by omega), fun _ => hA, hT1, rfl⟩)
                  · refine at_aload_n C 0 dX7_order_126 rfl ?_
                    refine at_getf (v := .ref (G.1 (277))) C (obj_Ref G) (ci := 7) rfl inX7 (slot := 30) (by decide) qw_912 rfl rfl dX7_order_127 ?_
                    refine at_iload_n C 1 dX7_order_130 rfl ?_
                    refine at_iald C ((kk).toNat) (ar_277 G) (by omega) (by omega) dX7_order_131 ?_
                    have hb7 : _ ≤ M1 277 ((kk).toNat) ∧ M1 277 ((kk).toNat) ≤ _ := tv hT1 (k := 277) (j := ((kk).toNat)) rfl
                    refine at_goto C 137 dX7_order_132 (by decide) ?_
                    exact hret _ _ _ _ _ dX7_order_137 (⟨congrArg sI (by unfold qrOrder; rw [if_neg (by omega), if_neg (by omega), if_pos (by omega), hB2 _ (by omega)]), fun z => absurd z (by omega), fun _ => hA, hT1, rfl⟩)
                · refine at_iload_n C 3 dX7_order_117 rfl ?_
                  refine at_goto C 137 dX7_order_118 (by decide) ?_
                  exact hret _ _ _ _ _ dX7_order_137 (⟨congrArg sI (by unfold qrOrder; rw [if_neg (by omega), if_pos (by omega), hkE]), fun z => absurd z (by omega), fun _ => hA, hT1, rfl⟩)
              · have hle : k ≤ eN (qoN M) := by assumption
                have hqv := qoV_r hT k
                have hR1 := hR hle
                have heN := eN_r _ hqoN
                refine at_aload_n C 0 dX7_order_57 rfl ?_
                refine at_iload_n C 2 dX7_order_58 rfl ?_
                refine at_call_i C (c_X7_rightBy l D G (M := M1) (qoN M) (by omega) hT1) (As := [.int (sI ((((qoN M) : Nat) : Int)))]) (obj_Ref G) (ci := 7) rfl qw_1299 qw_1296 qw_8 qw_1298 qp_81 ⟨by decide, by decide, show (parseMethodDescriptor yX7_rightBy.desc).map (fun d => d.parameters.length) = some 1 by decide +kernel⟩ ⟨by decide, by decide⟩ ⟨Nat.zero_le _, Nat.zero_le _⟩ (Nat.le_of_ble_eq_true rfl) dX7_order_59 rfl (fun r M10 L' hp9 => ?_)
                obtain ⟨rfl, hf, hT8, rfl⟩ := hp9
                refine at_ve (b := qoV M k) (by rw [hR1]; exact qRB_c (qoAw_ag hA) (fun j _ => rfl)) ?_
                have hA2 : qoAw M M10 := fun c h1 h2 h3 => (hf c h1).trans (hA c h1 h2 h3)
                have h276 : M10 276 = rowN (qoR M) (qoN M) k := (hf 276 (by decide)).trans hR1
                have h277 : M10 277 = M1 277 := hf 277 (by decide)
                refine at_istore C [(5, .int (sI (qoV M k))), (0, .ref (G.1 (258))), (1, .int (sI (kk))), (2, .int (sI ((((qoN M) : Nat) : Int)))), (3, .int (sI (mxV (qoV M) k))), (4, .int (sB (k ≤ eN (qoN M))))] dX7_order_62 (by decide) rfl ?_
                refine at_iload C 0 dX7_order_64 rfl ?_
                refine at_iload_n C 4 dX7_order_66 rfl ?_
                refine at_icmp_le C 102 dX7_order_67 (by decide) (⟨by omega, by omega⟩) (⟨by omega, by omega⟩) (fun h11 => ?_) (fun h11 => ?_)
                · refine at_aload_n C 1 dX7_order_102 rfl ?_
                  refine at_iload_n C 3 dX7_order_103 rfl ?_
                  refine at_call_i C (c_X7_nextRow l D G (M := M10) (qoN M) (by omega) hT8) (As := [.int (sI ((((qoN M) : Nat) : Int)))]) (obj_Ref G) (ci := 7) rfl qw_1303 qw_1300 qw_8 qw_1302 qp_82 ⟨by decide, by decide, show (parseMethodDescriptor yX7_nextRow.desc).map (fun d => d.parameters.length) = some 1 by decide +kernel⟩ ⟨by decide, by decide⟩ ⟨Nat.zero_le _, Nat.zero_le _⟩ (Nat.le_of_ble_eq_true rfl) dX7_order_104 rfl (fun r M' L' hp13 => ?_)
                  obtain ⟨rfl, rfl, hT12, rfl⟩ := hp13
                  refine at_vi (y := (sB (k + 1 ≤ eN (qoN M)))) (sB_c (by rw [show (M10 276) = rowN (qoR M) (qoN M) k from h276]; exact rows_end hqoN (qoR_up M) k (by omega))) ?_
                  refine at_istore C [(4, .int (sB (k + 1 ≤ eN (qoN M)))), (5, .int (sI (qoV M k))), (0, .ref (G.1 (258))), (1, .int (sI (kk))), (2, .int (sI ((((qoN M) : Nat) : Int)))), (3, .int (sI (mxV (qoV M) k)))] dX7_order_107 (by decide) rfl ?_
                  refine at_goto C 52 dX7_order_109 (by decide) ?_
                  refine at_lv [2, 3, 4, 5, 0] rfl ?_
                  exact at_eq (ih52 (k + 1) (if hasN (M10 276) (qoN M) then sSr M10 276 (nxt (M10 276) (qoN M)) else M10) (by omega) (by omega) (qoAw_if hA2 _ _) (fun hle2 => qo_276 h276 ((rows_end hqoN (qoR_up M) k (by omega)).mpr (by omega))) (Or.inr fun j hj => by rw [qo_277, mxI_n (by omega)]; rcases hB with z | z; (exact absurd (show mxV (qoV M) k = -1 by rw [z]; rfl) (by omega)); (rw [h277]; exact z j hj)) (hT12)) (lvc_s (lvc_s (lvc_s (lvc_i (by rw [mxV_s, if_neg (by omega)]) (lvc_b (Iff.rfl) rfl))))) rfl (rfl) (rfl)
                · refine at_iload C 0 dX7_order_70 rfl ?_
                  refine at_istore_n C [(3, .int (sI (qoV M k))), (5, .int (sI (qoV M k))), (0, .ref (G.1 (258))), (1, .int (sI (kk))), (2, .int (sI ((((qoN M) : Nat) : Int)))), (4, .int (sB (k ≤ eN (qoN M))))] dX7_order_72 (by decide) rfl ?_
                  refine at_iconst C dX7_order_73 ?_
                  refine at_istore C [(6, .int (sI (0))), (3, .int (sI (qoV M k))), (5, .int (sI (qoV M k))), (0, .ref (G.1 (258))), (1, .int (sI (kk))), (2, .int (sI ((((qoN M) : Nat) : Int)))), (4, .int (sB (k ≤ eN (qoN M))))] dX7_order_74 (by decide) rfl ?_
                  have H76 : ∀ (fu : Nat) (j : Nat), qoN M - j < fu → (j ≤ qoN M) → (TInv (fil M10 277 (M10 276) j)) → sAt zp l ze (sRm 7 155) zs zm za zb zt zc D G 7 0 0 Q 76 [(0, .ref (G.1 (258))), (1, .int (sI (kk))), (2, .int (sI ((((qoN M) : Nat) : Int)))), (3, .int (sI (qoV M k))), (4, .int (sB (k ≤ eN (qoN M)))), (5, .int (sI (qoV M k))), (6, .int (sI ((j : Int))))] [] (fil M10 277 (M10 276) j) L := by
                    intro fu
                    induction fu with
                    | zero => intro j hd hj hTj; exact absurd hd (Nat.not_lt_zero _)
                    | succ fu ih76 =>
                      intro j hd76 hj hTj
                      refine at_iload C 6 dX7_order_76 rfl ?_
                      refine at_iload_n C 2 dX7_order_78 rfl ?_
                      refine at_icmp_ge C 102 dX7_order_79 (by decide) (⟨by omega, by omega⟩) (⟨by omega, by omega⟩) (fun h14 => ?_) (fun h14 => ?_)
                      · refine at_aload_n C 0 dX7_order_102 rfl ?_
                        refine at_iload_n C 2 dX7_order_103 rfl ?_
                        refine at_call_i C (c_X7_nextRow l D G (M := (fil M10 277 (M10 276) j)) (qoN M) (by omega) hTj) (As := [.int (sI ((((qoN M) : Nat) : Int)))]) (obj_Ref G) (ci := 7) rfl qw_1303 qw_1300 qw_8 qw_1302 qp_82 ⟨by decide, by decide, show (parseMethodDescriptor yX7_nextRow.desc).map (fun d => d.parameters.length) = some 1 by decide +kernel⟩ ⟨by decide, by decide⟩ ⟨Nat.zero_le _, Nat.zero_le _⟩ (Nat.le_of_ble_eq_true rfl) dX7_order_104 rfl (fun r M' L' hp16 => ?_)
                        obtain ⟨rfl, rfl, hT15, rfl⟩ := hp16
                        refine at_vi (y := (sB (k + 1 ≤ eN (qoN M)))) (sB_c (by rw [show ((fil M10 277 (M10 276) j) 276) = rowN (qoR M) (qoN M) k from (fil_ne (by decide)).trans h276]; exact rows_end hqoN (qoR_up M) k (by omega))) ?_
                        refine at_istore C [(4, .int (sB (k + 1 ≤ eN (qoN M)))), (0, .ref (G.1 (258))), (1, .int (sI (kk))), (2, .int (sI ((((qoN M) : Nat) : Int)))), (3, .int (sI (qoV M k))), (5, .int (sI (qoV M k))), (6, .int (sI ((j : Int))))] dX7_order_107 (by decide) rfl ?_
                        refine at_goto C 52 dX7_order_109 (by decide) ?_
                        refine at_lv [1, 2, 3, 4, 0] rfl ?_
                        exact at_eq (ih52 (k + 1) (if hasN ((fil M10 277 (M10 276) j) 276) (qoN M) then sSr (fil M10 277 (M10 276) j) 276 (nxt ((fil M10 277 (M10 276) j) 276) (qoN M)) else (fil M10 277 (M10 276) j)) (by omega) (by omega) (qoAw_if (fun c h1 h2 h3 => (fil_ne h3).trans (hA2 c h1 h2 h3)) _ _) (fun hle2 => qo_276 ((fil_ne (by decide)).trans h276) ((rows_end hqoN (qoR_up M) k (by omega)).mpr (by omega))) (Or.inr fun j hj => by rw [qo_277, mxI_y (by omega), fil_in _ _ _ (by omega)]; exact congrFun h276 j) (hT15)) (lvc_s (lvc_s (lvc_s (lvc_i (by rw [mxV_s, if_pos (by omega)]) (lvc_b (Iff.rfl) rfl))))) rfl (rfl) (rfl)
                      · refine at_aload_n C 0 dX7_order_82 rfl ?_
                        refine at_getf (v := .ref (G.1 (277))) C (obj_Ref G) (ci := 7) rfl inX7 (slot := 30) (by decide) qw_912 rfl rfl dX7_order_83 ?_
                        refine at_iload C 6 dX7_order_86 rfl ?_
                        refine at_aload_n C 0 dX7_order_88 rfl ?_
                        refine at_getf (v := .ref (G.1 (276))) C (obj_Ref G) (ci := 7) rfl inX7 (slot := 29) (by decide) qw_911 rfl rfl dX7_order_89 ?_
                        refine at_iload C 6 dX7_order_92 rfl ?_
                        refine at_iald C j (ar_276 G) (rfl) (by omega) dX7_order_94 ?_
                        refine at_ve (b := M10 276 j) (rfl) ?_
                        have hb17 : _ ≤ M10 276 j ∧ M10 276 j ≤ _ := tv hTj (k := 276) (j := j) rfl
                        refine at_iast C j (ar_277 G) (rfl) (by omega) dX7_order_95 ?_
                        have hT18 : TInv (sSt (fil M10 277 (M10 276) j) 277 j (M10 276 j)) := tv_st hTj (k := 277) rfl (⟨by omega, by omega⟩)
                        refine at_iinc C 6 [(6, .int (sI ((j : Int) + 1))), (0, .ref (G.1 (258))), (1, .int (sI (kk))), (2, .int (sI ((((qoN M) : Nat) : Int)))), (3, .int (sI (qoV M k))), (4, .int (sB (k ≤ eN (qoN M)))), (5, .int (sI (qoV M k)))] dX7_order_96 rfl (by decide) rfl ?_
                        refine at_goto C 76 dX7_order_99 (by decide) ?_
                        refine at_lv [1, 2, 3, 4, 5, 6, 0] rfl ?_
                        exact at_eq (ih76 (j + 1) (by omega) (by omega) (TInv_e (fil_s M10 277 (M10 276) j) hT18)) (lvc_s (lvc_s (lvc_s (lvc_s (lvc_s (lvc_s (lvc_i (by omega) rfl))))))) rfl (fil_s M10 277 (M10 276) j) (rfl)
                  refine at_lv [3, 4, 5, 1, 6, 2, 0] rfl ?_
                  exact at_eq (H76 _ 0 (Nat.lt_succ_self _) (by omega) (TInv_e (fil_0 M10 277 (M10 276)) hT8)) (lvc_s (lvc_s (lvc_s (lvc_s (lvc_s (lvc_s (lvc_i (rfl) rfl))))))) rfl (fil_0 M10 277 (M10 276)) (rfl)
          refine at_lv [2, 3, 4, 1, 0] rfl ?_
          exact at_eq (H52 _ 0 (mqF M (qc M)) (Nat.lt_succ_self _) (by omega) (fun c h1 h2 h3 => sSr_ne h2) (fun _ => sSr_eq) (Or.inl rfl) ((mqF_T hT (Nat.le_refl _)))) (lvc_s (lvc_s (lvc_s (lvc_i (rfl) (lvc_s rfl))))) rfl (rfl) (rfl)
        · refine at_aload_n C 0 dX7_order_22 rfl ?_
          refine at_iload_n C 3 dX7_order_23 rfl ?_
          refine at_call_i C (c_X7_heldBy l D G i (by omega) (mqF_T hT hk)) (As := [.int (sI ((i : Int)))]) (obj_Ref G) (ci := 7) rfl qw_1144 qw_1141 qw_8 qw_1143 qp_59 ⟨by decide, by decide, show (parseMethodDescriptor yX7_heldBy.desc).map (fun d => d.parameters.length) = some 1 by decide +kernel⟩ ⟨by decide, by decide⟩ ⟨Nat.zero_le _, Nat.zero_le _⟩ (Nat.le_of_ble_eq_true rfl) dX7_order_24 rfl (fun r M' L' hp20 => ?_)
          obtain ⟨rfl, rfl, rfl⟩ := hp20
          have hb19 : -1 ≤ qHeld (mqF M i) i ∧ qHeld (mqF M i) i < qn (mqF M i) := lst_r _ _
          refine at_ve (b := qHeld M i) (rfl) ?_
          have hqh : -1 ≤ qHeld M i ∧ qHeld M i < qn M := lst_r _ _
          refine at_iconst C dX7_order_27 ?_
          refine at_icmp_ne C 41 dX7_order_28 (by decide) (⟨by omega, by omega⟩) (⟨by omega, by omega⟩) (fun h21 => ?_) (fun h21 => ?_)
          · refine at_iinc C 3 [(3, .int (sI ((i : Int) + 1))), (0, .ref (G.1 (258))), (1, .int (sI (kk))), (2, .int (sI ((((frC (qHeld M) i) : Nat) : Int))))] dX7_order_41 rfl (by decide) rfl ?_
            refine at_goto C 14 dX7_order_44 (by decide) ?_
            refine at_lv [1, 2, 3, 0] rfl ?_
            exact at_eq (ih14 (i + 1) (by omega) (by omega)) (lvc_s (lvc_s (lvc_i (by rw [frC_n (by omega)]) (lvc_i (by omega) rfl)))) rfl (mqF_n (by omega)) (rfl)
          · refine at_aload_n C 0 dX7_order_31 rfl ?_
            refine at_getf (v := .ref (G.1 (276))) C (obj_Ref G) (ci := 7) rfl inX7 (slot := 29) (by decide) qw_911 rfl rfl dX7_order_32 ?_
            refine at_iload_n C 2 dX7_order_35 rfl ?_
            refine at_iload_n C 3 dX7_order_36 rfl ?_
            refine at_iast C (frC (qHeld M) i) (ar_276 G) (by omega) (by omega) dX7_order_37 ?_
            have hT22 : TInv (sSt (mqF M i) 276 (frC (qHeld M) i) (i : Int)) := tv_st (mqF_T hT hk) (k := 276) rfl (⟨by omega, by omega⟩)
            refine at_iinc C 2 [(2, .int (sI ((((frC (qHeld M) i) : Nat) : Int) + 1))), (0, .ref (G.1 (258))), (1, .int (sI (kk))), (3, .int (sI ((i : Int))))] dX7_order_38 rfl (by decide) rfl ?_
            refine at_iinc C 3 [(3, .int (sI ((i : Int) + 1))), (2, .int (sI ((((frC (qHeld M) i) : Nat) : Int) + 1))), (0, .ref (G.1 (258))), (1, .int (sI (kk)))] dX7_order_41 rfl (by decide) rfl ?_
            refine at_goto C 14 dX7_order_44 (by decide) ?_
            refine at_lv [2, 3, 1, 0] rfl ?_
            exact at_eq (ih14 (i + 1) (by omega) (by omega)) (lvc_s (lvc_s (lvc_i (by rw [frC_y (by omega)]; omega) (lvc_i (by omega) rfl)))) rfl (mqF_y (by omega)) (rfl)
    refine at_lv [2, 3, 1, 0] rfl ?_
    exact at_eq (H14 _ 0 (Nat.lt_succ_self _) (by omega)) (lvc_s (lvc_s (lvc_i (rfl) (lvc_i (rfl) rfl)))) rfl (mqF_0 M) (rfl)
  · refine at_aload_n C 0 dX7_order_5 rfl ?_
    refine at_call_i C (c_X7_tenBad l D G hT ⟨by omega, by omega, by omega⟩) (As := []) (obj_Ref G) (ci := 7) rfl qw_1008 qw_1005 qw_8 qw_1007 qp_33 ⟨by decide, by decide, show (parseMethodDescriptor yX7_tenBad.desc).map (fun d => d.parameters.length) = some 0 by decide +kernel⟩ ⟨by decide, by decide⟩ ⟨Nat.zero_le _, Nat.zero_le _⟩ (Nat.le_of_ble_eq_true rfl) dX7_order_6 rfl (fun r M' L' hp24 => ?_)
    obtain ⟨rfl, rfl, hT23, rfl⟩ := hp24
    exact hret _ _ _ _ _ dX7_order_9 (⟨congrArg sI (if_pos (by omega)).symm, fun _ => rfl, fun z => absurd z (by omega), hT23, rfl⟩)
