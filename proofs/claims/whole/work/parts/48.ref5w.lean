set_option maxHeartbeats 4000000 in
set_option maxRecDepth 100000 in
theorem c_X7_swaps (l : Launch) (D : va_G) (G : sG) {M : sM} {L : sL} (hT : TInv M) : sKi l D G yX7_swaps cX7_swaps 5 .int 3 65 [.ref (G.1 (258))] M L (fun r M' L' => r = sI (qrSwaps M) ∧ M = M' ∧ L = L') := by
  refine sKi_go (by decide) (Nat.le_of_ble_eq_true rfl) ?_
  intro zp ze zs zm za zb zt zc Q C hret
  refine at_eq (lv' := [(0, .ref (G.1 (258)))]) (st' := []) (M' := M) (L' := L) ?_ rfl rfl rfl rfl
  have hqn := qn_r hT
  have hqc := qc_r hT
  have hqu := qu_r hT
  have hqt := qt_r hT
  have hqs := qs_r hT
  have hqo := qo_r hT
  have hqm := qm_r hT
  refine at_iconst C dX7_swaps_0 ?_
  refine at_istore_n C [(1, .int (sI (0))), (0, .ref (G.1 (258)))] dX7_swaps_1 (by decide) rfl ?_
  refine at_iconst C dX7_swaps_2 ?_
  refine at_istore_n C [(2, .int (sI (0))), (1, .int (sI (0))), (0, .ref (G.1 (258)))] dX7_swaps_3 (by decide) rfl ?_
  have H4 : ∀ (fu : Nat) (i : Nat), qc M - i < fu → (i ≤ qc M) → sAt zp l ze (sRm 3 65) zs zm za zb zt zc D G 5 0 0 Q 4 [(0, .ref (G.1 (258))), (1, .int (sI (qsw M i))), (2, .int (sI ((i : Int))))] [] M L := by
    intro fu
    induction fu with
    | zero => intro i hd hk; exact absurd hd (Nat.not_lt_zero _)
    | succ fu ih4 =>
      intro i hd4 hk
      have hsw := qsw_r M i
      have hgr := qGoe_r hT i
      refine at_iload_n C 2 dX7_swaps_4 rfl ?_
      refine at_aload_n C 0 dX7_swaps_5 rfl ?_
      refine at_getf (v := .int (sI (M 258 2))) C (obj_Ref G) (ci := 7) rfl inX7 (slot := 2) (by decide) qw_884 rfl rfl dX7_swaps_6 ?_
      have hb1 : _ ≤ M 258 2 ∧ M 258 2 ≤ _ := tv hT (k := 258) (j := 2) rfl
      refine at_ve (b := (((qc M) : Nat) : Int)) (hqc.2) ?_
      refine at_icmp_ge C 81 dX7_swaps_9 (by decide) (⟨by omega, by omega⟩) (⟨by omega, by omega⟩) (fun h2 => ?_) (fun h2 => ?_)
      · refine at_iload_n C 1 dX7_swaps_81 rfl ?_
        exact hret _ _ _ _ _ dX7_swaps_82 (⟨congrArg sI (by unfold qrSwaps; rw [show qc M = i by omega]), rfl, rfl⟩)
      · refine at_iload_n C 1 dX7_swaps_12 rfl ?_
        refine at_aload_n C 0 dX7_swaps_13 rfl ?_
        refine at_iload_n C 2 dX7_swaps_14 rfl ?_
        refine at_call_i C (c_X7_goesTo l D G i (by omega) hT) (As := [.int (sI ((i : Int)))]) (obj_Ref G) (ci := 7) rfl qw_1311 qw_1308 qw_8 qw_1310 qp_83 ⟨by decide, by decide, show (parseMethodDescriptor yX7_goesTo.desc).map (fun d => d.parameters.length) = some 1 by decide +kernel⟩ ⟨by decide, by decide⟩ ⟨Nat.zero_le _, Nat.zero_le _⟩ (Nat.le_of_ble_eq_true rfl) dX7_swaps_15 rfl (fun r M' L' hp4 => ?_)
        obtain ⟨rfl, rfl, rfl⟩ := hp4
        have hb3 := qGoe_r hT i
        refine at_iconst C dX7_swaps_18 ?_
        refine at_icmp_eq C 26 dX7_swaps_19 (by decide) (⟨by omega, by omega⟩) (⟨by omega, by omega⟩) (fun h5 => ?_) (fun h5 => ?_)
        · refine at_iconst C dX7_swaps_26 ?_
          refine at_ve (b := if qGoe M i ≠ -1 then 1 else 0) ((if_neg (by omega)).symm) ?_
          refine at_iadd C dX7_swaps_27 ?_
          refine at_istore_n C [(1, .int (sI ((qsw M i) + (if qGoe M i ≠ -1 then 1 else 0)))), (0, .ref (G.1 (258))), (2, .int (sI ((i : Int))))] dX7_swaps_28 (by decide) rfl ?_
          refine at_aload_n C 1 dX7_swaps_29 rfl ?_
          refine at_iload_n C 2 dX7_swaps_30 rfl ?_
          refine at_call_i C (c_X7_goesTo l D G i (by omega) hT) (As := [.int (sI ((i : Int)))]) (obj_Ref G) (ci := 7) rfl qw_1311 qw_1308 qw_8 qw_1310 qp_83 ⟨by decide, by decide, show (parseMethodDescriptor yX7_goesTo.desc).map (fun d => d.parameters.length) = some 1 by decide +kernel⟩ ⟨by decide, by decide⟩ ⟨Nat.zero_le _, Nat.zero_le _⟩ (Nat.le_of_ble_eq_true rfl) dX7_swaps_31 rfl (fun r M' L' hp7 => ?_)
          obtain ⟨rfl, rfl, rfl⟩ := hp7
          have hb6 := qGoe_r hT i
          refine at_istore_n C [(3, .int (sI (qGoe M i))), (1, .int (sI ((qsw M i) + (if qGoe M i ≠ -1 then 1 else 0)))), (0, .ref (G.1 (258))), (2, .int (sI ((i : Int))))] dX7_swaps_34 (by decide) rfl ?_
          refine at_iconst C dX7_swaps_35 ?_
          refine at_istore C [(4, .int (sI (0))), (3, .int (sI (qGoe M i))), (1, .int (sI ((qsw M i) + (if qGoe M i ≠ -1 then 1 else 0)))), (0, .ref (G.1 (258))), (2, .int (sI ((i : Int))))] dX7_swaps_36 (by decide) rfl ?_
          have H38 : ∀ (fu : Nat) (t : Nat) (kv : Int), 6 - t < fu → (t ≤ 6) → (-1 ≤ kv ∧ kv < 6) → (qfl M i (6 - t) kv = qfl M i 6 (qGoe M i)) → sAt zp l ze (sRm 3 65) zs zm za zb zt zc D G 5 0 0 Q 38 [(0, .ref (G.1 (258))), (1, .int (sI ((qsw M i) + (if qGoe M i ≠ -1 then 1 else 0)))), (2, .int (sI ((i : Int)))), (3, .int (sI (kv))), (4, .int (sI ((t : Int))))] [] M L := by
            intro fu
            induction fu with
            | zero => intro t kv hd ht hkr hf; exact absurd hd (Nat.not_lt_zero _)
            | succ fu ih38 =>
              intro t kv hd38 ht hkr hf
              refine at_iload_n C 3 dX7_swaps_38 rfl ?_
              refine at_iload_n C 2 dX7_swaps_39 rfl ?_
              refine at_icmp_le C 62 dX7_swaps_40 (by decide) (⟨by omega, by omega⟩) (⟨by omega, by omega⟩) (fun h8 => ?_) (fun h8 => ?_)
              · have hfx : kv = qfl M i 6 (qGoe M i) := by rw [← hf]; first | exact (qfl_n (by omega)).symm | (rw [show 6 - t = 0 by omega]; rfl)
                refine at_iload_n C 1 dX7_swaps_62 rfl ?_
                refine at_iload_n C 3 dX7_swaps_63 rfl ?_
                refine at_iload_n C 2 dX7_swaps_64 rfl ?_
                refine at_icmp_ne C 72 dX7_swaps_65 (by decide) (⟨by omega, by omega⟩) (⟨by omega, by omega⟩) (fun h9 => ?_) (fun h9 => ?_)
                · refine at_iconst C dX7_swaps_72 ?_
                  refine at_ve (b := if qfl M i 6 (qGoe M i) = i then 1 else 0) ((if_neg (by omega)).symm) ?_
                  refine at_isub C dX7_swaps_73 ?_
                  refine at_istore_n C [(1, .int (sI (((qsw M i) + (if qGoe M i ≠ -1 then 1 else 0)) - (if qfl M i 6 (qGoe M i) = i then 1 else 0)))), (0, .ref (G.1 (258))), (2, .int (sI ((i : Int)))), (3, .int (sI (kv))), (4, .int (sI ((t : Int))))] dX7_swaps_74 (by decide) rfl ?_
                  refine at_iinc C 2 [(2, .int (sI ((i : Int) + 1))), (1, .int (sI (((qsw M i) + (if qGoe M i ≠ -1 then 1 else 0)) - (if qfl M i 6 (qGoe M i) = i then 1 else 0)))), (0, .ref (G.1 (258))), (3, .int (sI (kv))), (4, .int (sI ((t : Int))))] dX7_swaps_75 rfl (by decide) rfl ?_
                  refine at_goto C 4 dX7_swaps_78 (by decide) ?_
                  refine at_lv [2, 1, 0] rfl ?_
                  exact at_eq (ih4 (i + 1) (by omega) (by omega)) (lvc_s (lvc_i (rfl) (lvc_i (by omega) rfl))) rfl (rfl) (rfl)
                · refine at_iconst C dX7_swaps_68 ?_
                  refine at_goto C 73 dX7_swaps_69 (by decide) ?_
                  refine at_ve (b := if qfl M i 6 (qGoe M i) = i then 1 else 0) ((if_pos (by omega)).symm) ?_
                  refine at_isub C dX7_swaps_73 ?_
                  refine at_istore_n C [(1, .int (sI (((qsw M i) + (if qGoe M i ≠ -1 then 1 else 0)) - (if qfl M i 6 (qGoe M i) = i then 1 else 0)))), (0, .ref (G.1 (258))), (2, .int (sI ((i : Int)))), (3, .int (sI (kv))), (4, .int (sI ((t : Int))))] dX7_swaps_74 (by decide) rfl ?_
                  refine at_iinc C 2 [(2, .int (sI ((i : Int) + 1))), (1, .int (sI (((qsw M i) + (if qGoe M i ≠ -1 then 1 else 0)) - (if qfl M i 6 (qGoe M i) = i then 1 else 0)))), (0, .ref (G.1 (258))), (3, .int (sI (kv))), (4, .int (sI ((t : Int))))] dX7_swaps_75 rfl (by decide) rfl ?_
                  refine at_goto C 4 dX7_swaps_78 (by decide) ?_
                  refine at_lv [2, 1, 0] rfl ?_
                  exact at_eq (ih4 (i + 1) (by omega) (by omega)) (lvc_s (lvc_i (rfl) (lvc_i (by omega) rfl))) rfl (rfl) (rfl)
              · refine at_iload C 4 dX7_swaps_43 rfl ?_
                refine at_bipush C dX7_swaps_45 (by decide) (by decide) ?_
                refine at_icmp_ge C 62 dX7_swaps_47 (by decide) (⟨by omega, by omega⟩) (⟨by omega, by omega⟩) (fun h10 => ?_) (fun h10 => ?_)
                · have hfx : kv = qfl M i 6 (qGoe M i) := by rw [← hf]; first | exact (qfl_n (by omega)).symm | (rw [show 6 - t = 0 by omega]; rfl)
                  refine at_iload_n C 1 dX7_swaps_62 rfl ?_
                  refine at_iload_n C 3 dX7_swaps_63 rfl ?_
                  refine at_iload_n C 2 dX7_swaps_64 rfl ?_
                  refine at_icmp_ne C 72 dX7_swaps_65 (by decide) (⟨by omega, by omega⟩) (⟨by omega, by omega⟩) (fun h11 => ?_) (fun h11 => ?_)
                  · refine at_iconst C dX7_swaps_72 ?_
                    refine at_ve (b := if qfl M i 6 (qGoe M i) = i then 1 else 0) ((if_neg (by omega)).symm) ?_
                    refine at_isub C dX7_swaps_73 ?_
                    refine at_istore_n C [(1, .int (sI (((qsw M i) + (if qGoe M i ≠ -1 then 1 else 0)) - (if qfl M i 6 (qGoe M i) = i then 1 else 0)))), (0, .ref (G.1 (258))), (2, .int (sI ((i : Int)))), (3, .int (sI (kv))), (4, .int (sI ((t : Int))))] dX7_swaps_74 (by decide) rfl ?_
                    refine at_iinc C 2 [(2, .int (sI ((i : Int) + 1))), (1, .int (sI (((qsw M i) + (if qGoe M i ≠ -1 then 1 else 0)) - (if qfl M i 6 (qGoe M i) = i then 1 else 0)))), (0, .ref (G.1 (258))), (3, .int (sI (kv))), (4, .int (sI ((t : Int))))] dX7_swaps_75 rfl (by decide) rfl ?_
                    refine at_goto C 4 dX7_swaps_78 (by decide) ?_
                    refine at_lv [2, 1, 0] rfl ?_
                    exact at_eq (ih4 (i + 1) (by omega) (by omega)) (lvc_s (lvc_i (rfl) (lvc_i (by omega) rfl))) rfl (rfl) (rfl)
                  · refine at_iconst C dX7_swaps_68 ?_
                    refine at_goto C 73 dX7_swaps_69 (by decide) ?_
                    refine at_ve (b := if qfl M i 6 (qGoe M i) = i then 1 else 0) ((if_pos (by omega)).symm) ?_
                    refine at_isub C dX7_swaps_73 ?_
                    refine at_istore_n C [(1, .int (sI (((qsw M i) + (if qGoe M i ≠ -1 then 1 else 0)) - (if qfl M i 6 (qGoe M i) = i then 1 else 0)))), (0, .ref (G.1 (258))), (2, .int (sI ((i : Int)))), (3, .int (sI (kv))), (4, .int (sI ((t : Int))))] dX7_swaps_74 (by decide) rfl ?_
                    refine at_iinc C 2 [(2, .int (sI ((i : Int) + 1))), (1, .int (sI (((qsw M i) + (if qGoe M i ≠ -1 then 1 else 0)) - (if qfl M i 6 (qGoe M i) = i then 1 else 0)))), (0, .ref (G.1 (258))), (3, .int (sI (kv))), (4, .int (sI ((t : Int))))] dX7_swaps_75 rfl (by decide) rfl ?_
                    refine at_goto C 4 dX7_swaps_78 (by decide) ?_
                    refine at_lv [2, 1, 0] rfl ?_
                    exact at_eq (ih4 (i + 1) (by omega) (by omega)) (lvc_s (lvc_i (rfl) (lvc_i (by omega) rfl))) rfl (rfl) (rfl)
                · refine at_aload_n C 0 dX7_swaps_50 rfl ?_
                  refine at_iload_n C 3 dX7_swaps_51 rfl ?_
                  refine at_ve (b := ((kv.toNat : Nat) : Int)) (by omega) ?_
                  refine at_call_i C (c_X7_goesTo l D G kv.toNat (by omega) hT) (As := [.int (sI (((kv.toNat : Nat) : Int)))]) (obj_Ref G) (ci := 7) rfl qw_1311 qw_1308 qw_8 qw_1310 qp_83 ⟨by decide, by decide, show (parseMethodDescriptor yX7_goesTo.desc).map (fun d => d.parameters.length) = some 1 by decide +kernel⟩ ⟨by decide, by decide⟩ ⟨Nat.zero_le _, Nat.zero_le _⟩ (Nat.le_of_ble_eq_true rfl) dX7_swaps_52 rfl (fun r M' L' hp13 => ?_)
                  obtain ⟨rfl, rfl, rfl⟩ := hp13
                  have hb12 := qGoe_r hT kv.toNat
                  refine at_istore_n C [(3, .int (sI (qGoe M kv.toNat))), (0, .ref (G.1 (258))), (1, .int (sI ((qsw M i) + (if qGoe M i ≠ -1 then 1 else 0)))), (2, .int (sI ((i : Int)))), (4, .int (sI ((t : Int))))] dX7_swaps_55 (by decide) rfl ?_
                  refine at_iinc C 4 [(4, .int (sI ((t : Int) + 1))), (3, .int (sI (qGoe M kv.toNat))), (0, .ref (G.1 (258))), (1, .int (sI ((qsw M i) + (if qGoe M i ≠ -1 then 1 else 0)))), (2, .int (sI ((i : Int))))] dX7_swaps_56 rfl (by decide) rfl ?_
                  refine at_goto C 38 dX7_swaps_59 (by decide) ?_
                  refine at_lv [2, 3, 4, 1, 0] rfl ?_
                  exact at_eq (ih38 (t + 1) (qGoe M kv.toNat) (by omega) (by omega) (⟨by omega, by omega⟩) (by rw [← hf, qfl_y (f := 6 - t) (by omega) (by omega), show 6 - t - 1 = 6 - (t + 1) by omega])) (lvc_s (lvc_s (lvc_s (lvc_i (rfl) (lvc_i (by omega) rfl))))) rfl (rfl) (rfl)
          refine at_lv [3, 2, 4, 1, 0] rfl ?_
          exact at_eq (H38 _ 0 (qGoe M i) (Nat.lt_succ_self _) (by omega) (⟨by omega, by omega⟩) (rfl)) (lvc_s (lvc_s (lvc_s (lvc_i (rfl) (lvc_i (rfl) rfl))))) rfl (rfl) (rfl)
        · refine at_iconst C dX7_swaps_22 ?_
          refine at_goto C 27 dX7_swaps_23 (by decide) ?_
          refine at_ve (b := if qGoe M i ≠ -1 then 1 else 0) ((if_pos (by omega)).symm) ?_
          refine at_iadd C dX7_swaps_27 ?_
          refine at_istore_n C [(1, .int (sI ((qsw M i) + (if qGoe M i ≠ -1 then 1 else 0)))), (0, .ref (G.1 (258))), (2, .int (sI ((i : Int))))] dX7_swaps_28 (by decide) rfl ?_
          refine at_aload_n C 1 dX7_swaps_29 rfl ?_
          refine at_iload_n C 2 dX7_swaps_30 rfl ?_
          refine at_call_i C (c_X7_goesTo l D G i (by omega) hT) (As := [.int (sI ((i : Int)))]) (obj_Ref G) (ci := 7) rfl qw_1311 qw_1308 qw_8 qw_1310 qp_83 ⟨by decide, by decide, show (parseMethodDescriptor yX7_goesTo.desc).map (fun d => d.parameters.length) = some 1 by decide +kernel⟩ ⟨by decide, by decide⟩ ⟨Nat.zero_le _, Nat.zero_le _⟩ (Nat.le_of_ble_eq_true rfl) dX7_swaps_31 rfl (fun r M' L' hp15 => ?_)
          obtain ⟨rfl, rfl, rfl⟩ := hp15
          have hb14 := qGoe_r hT i
          refine at_istore_n C [(3, .int (sI (qGoe M i))), (1, .int (sI ((qsw M i) + (if qGoe M i ≠ -1 then 1 else 0)))), (0, .ref (G.1 (258))), (2, .int (sI ((i : Int))))] dX7_swaps_34 (by decide) rfl ?_
          refine at_iconst C dX7_swaps_35 ?_
          refine at_istore C [(4, .int (sI (0))), (3, .int (sI (qGoe M i))), (1, .int (sI ((qsw M i) + (if qGoe M i ≠ -1 then 1 else 0)))), (0, .ref (G.1 (258))), (2, .int (sI ((i : Int))))] dX7_swaps_36 (by decide) rfl ?_
          have H38 : ∀ (fu : Nat) (t : Nat) (kv : Int), 6 - t < fu → (t ≤ 6) → (-1 ≤ kv ∧ kv < 6) → (qfl M i (6 - t) kv = qfl M i 6 (qGoe M i)) → sAt zp l ze (sRm 3 65) zs zm za zb zt zc D G 5 0 0 Q 38 [(0, .ref (G.1 (258))), (1, .int (sI ((qsw M i) + (if qGoe M i ≠ -1 then 1 else 0)))), (2, .int (sI ((i : Int)))), (3, .int (sI (kv))), (4, .int (sI ((t : Int))))] [] M L := by
            intro fu
            induction fu with
            | zero => intro t kv hd ht hkr hf; exact absurd hd (Nat.not_lt_zero _)
            | succ fu ih38 =>
              intro t kv hd38 ht hkr hf
              refine at_iload_n C 3 dX7_swaps_38 rfl ?_
              refine at_iload_n C 2 dX7_swaps_39 rfl ?_
              refine at_icmp_le C 62 dX7_swaps_40 (by decide) (⟨by omega, by omega⟩) (⟨by omega, by omega⟩) (fun h16 => ?_) (fun h16 => ?_)
              · have hfx : kv = qfl M i 6 (qGoe M i) := by rw [← hf]; first | exact (qfl_n (by omega)).symm | (rw [show 6 - t = 0 by omega]; rfl)
                refine at_iload_n C 1 dX7_swaps_62 rfl ?_
                refine at_iload_n C 3 dX7_swaps_63 rfl ?_
                refine at_iload_n C 2 dX7_swaps_64 rfl ?_
                refine at_icmp_ne C 72 dX7_swaps_65 (by decide) (⟨by omega, by omega⟩) (⟨by omega, by omega⟩) (fun h17 => ?_) (fun h17 => ?_)
                · refine at_iconst C dX7_swaps_72 ?_
                  refine at_ve (b := if qfl M i 6 (qGoe M i) = i then 1 else 0) ((if_neg (by omega)).symm) ?_
                  refine at_isub C dX7_swaps_73 ?_
                  refine at_istore_n C [(1, .int (sI (((qsw M i) + (if qGoe M i ≠ -1 then 1 else 0)) - (if qfl M i 6 (qGoe M i) = i then 1 else 0)))), (0, .ref (G.1 (258))), (2, .int (sI ((i : Int)))), (3, .int (sI (kv))), (4, .int (sI ((t : Int))))] dX7_swaps_74 (by decide) rfl ?_
                  refine at_iinc C 2 [(2, .int (sI ((i : Int) + 1))), (1, .int (sI (((qsw M i) + (if qGoe M i ≠ -1 then 1 else 0)) - (if qfl M i 6 (qGoe M i) = i then 1 else 0)))), (0, .ref (G.1 (258))), (3, .int (sI (kv))), (4, .int (sI ((t : Int))))] dX7_swaps_75 rfl (by decide) rfl ?_
                  refine at_goto C 4 dX7_swaps_78 (by decide) ?_
                  refine at_lv [2, 1, 0] rfl ?_
                  exact at_eq (ih4 (i + 1) (by omega) (by omega)) (lvc_s (lvc_i (rfl) (lvc_i (by omega) rfl))) rfl (rfl) (rfl)
                · refine at_iconst C dX7_swaps_68 ?_
                  refine at_goto C 73 dX7_swaps_69 (by decide) ?_
                  refine at_ve (b := if qfl M i 6 (qGoe M i) = i then 1 else 0) ((if_pos (by omega)).symm) ?_
                  refine at_isub C dX7_swaps_73 ?_
                  refine at_istore_n C [(1, .int (sI (((qsw M i) + (if qGoe M i ≠ -1 then 1 else 0)) - (if qfl M i 6 (qGoe M i) = i then 1 else 0)))), (0, .ref (G.1 (258))), (2, .int (sI ((i : Int)))), (3, .int (sI (kv))), (4, .int (sI ((t : Int))))] dX7_swaps_74 (by decide) rfl ?_
                  refine at_iinc C 2 [(2, .int (sI ((i : Int) + 1))), (1, .int (sI (((qsw M i) + (if qGoe M i ≠ -1 then 1 else 0)) - (if qfl M i 6 (qGoe M i) = i then 1 else 0)))), (0, .ref (G.1 (258))), (3, .int (sI (kv))), (4, .int (sI ((t : Int))))] dX7_swaps_75 rfl (by decide) rfl ?_
                  refine at_goto C 4 dX7_swaps_78 (by decide) ?_
                  refine at_lv [2, 1, 0] rfl ?_
                  exact at_eq (ih4 (i + 1) (by omega) (by omega)) (lvc_s (lvc_i (rfl) (lvc_i (by omega) rfl))) rfl (rfl) (rfl)
              · refine at_iload C 4 dX7_swaps_43 rfl ?_
                refine at_bipush C dX7_swaps_45 (by decide) (by decide) ?_
                refine at_icmp_ge C 62 dX7_swaps_47 (by decide) (⟨by omega, by omega⟩) (⟨by omega, by omega⟩) (fun h18 => ?_) (fun h18 => ?_)
                · have hfx : kv = qfl M i 6 (qGoe M i) := by rw [← hf]; first | exact (qfl_n (by omega)).symm | (rw [show 6 - t = 0 by omega]; rfl)
                  refine at_iload_n C 1 dX7_swaps_62 rfl ?_
                  refine at_iload_n C 3 dX7_swaps_63 rfl ?_
                  refine at_iload_n C 2 dX7_swaps_64 rfl ?_
                  refine at_icmp_ne C 72 dX7_swaps_65 (by decide) (⟨by omega, by omega⟩) (⟨by omega, by omega⟩) (fun h19 => ?_) (fun h19 => ?_)
                  · refine at_iconst C dX7_swaps_72 ?_
                    refine at_ve (b := if qfl M i 6 (qGoe M i) = i then 1 else 0) ((if_neg (by omega)).symm) ?_
                    refine at_isub C dX7_swaps_73 ?_
                    refine at_istore_n C [(1, .int (sI (((qsw M i) + (if qGoe M i ≠ -1 then 1 else 0)) - (if qfl M i 6 (qGoe M i) = i then 1 else 0)))), (0, .ref (G.1 (258))), (2, .int (sI ((i : Int)))), (3, .int (sI (kv))), (4, .int (sI ((t : Int))))] dX7_swaps_74 (by decide) rfl ?_
                    refine at_iinc C 2 [(2, .int (sI ((i : Int) + 1))), (1, .int (sI (((qsw M i) + (if qGoe M i ≠ -1 then 1 else 0)) - (if qfl M i 6 (qGoe M i) = i then 1 else 0)))), (0, .ref (G.1 (258))), (3, .int (sI (kv))), (4, .int (sI ((t : Int))))] dX7_swaps_75 rfl (by decide) rfl ?_
                    refine at_goto C 4 dX7_swaps_78 (by decide) ?_
                    refine at_lv [2, 1, 0] rfl ?_
                    exact at_eq (ih4 (i + 1) (by omega) (by omega)) (lvc_s (lvc_i (rfl) (lvc_i (by omega) rfl))) rfl (rfl) (rfl)
                  · refine at_iconst C dX7_swaps_68 ?_
                    refine at_goto C 73 dX7_swaps_69 (by decide) ?_
                    refine at_ve (b := if qfl M i 6 (qGoe M i) = i then 1 else 0) ((if_pos (by omega)).symm) ?_
                    refine at_isub C dX7_swaps_73 ?_
                    refine at_istore_n C [(1, .int (sI (((qsw M i) + (if qGoe M i ≠ -1 then 1 else 0)) - (if qfl M i 6 (qGoe M i) = i then 1 else 0)))), (0, .ref (G.1 (258))), (2, .int (sI ((i : Int)))), (3, .int (sI (kv))), (4, .int (sI ((t : Int))))] dX7_swaps_74 (by decide) rfl ?_
                    refine at_iinc C 2 [(2, .int (sI ((i : Int) + 1))), (1, .int (sI (((qsw M i) + (if qGoe M i ≠ -1 then 1 else 0)) - (if qfl M i 6 (qGoe M i) = i then 1 else 0)))), (0, .ref (G.1 (258))), (3, .int (sI (kv))), (4, .int (sI ((t : Int))))] dX7_swaps_75 rfl (by decide) rfl ?_
                    refine at_goto C 4 dX7_swaps_78 (by decide) ?_
                    refine at_lv [2, 1, 0] rfl ?_
                    exact at_eq (ih4 (i + 1) (by omega) (by omega)) (lvc_s (lvc_i (rfl) (lvc_i (by omega) rfl))) rfl (rfl) (rfl)
                · refine at_aload_n C 0 dX7_swaps_50 rfl ?_
                  refine at_iload_n C 3 dX7_swaps_51 rfl ?_
                  refine at_ve (b := ((kv.toNat : Nat) : Int)) (by omega) ?_
                  refine at_call_i C (c_X7_goesTo l D G kv.toNat (by omega) hT) (As := [.int (sI (((kv.toNat : Nat) : Int)))]) (obj_Ref G) (ci := 7) rfl qw_1311 qw_1308 qw_8 qw_1310 qp_83 ⟨by decide, by decide, show (parseMethodDescriptor yX7_goesTo.desc).map (fun d => d.parameters.length) = some 1 by decide +kernel⟩ ⟨by decide, by decide⟩ ⟨Nat.zero_le _, Nat.zero_le _⟩ (Nat.le_of_ble_eq_true rfl) dX7_swaps_52 rfl (fun r M' L' hp21 => ?_)
                  obtain ⟨rfl, rfl, rfl⟩ := hp21
                  have hb20 := qGoe_r hT kv.toNat
                  refine at_istore_n C [(3, .int (sI (qGoe M kv.toNat))), (0, .ref (G.1 (258))), (1, .int (sI ((qsw M i) + (if qGoe M i ≠ -1 then 1 else 0)))), (2, .int (sI ((i : Int)))), (4, .int (sI ((t : Int))))] dX7_swaps_55 (by decide) rfl ?_
                  refine at_iinc C 4 [(4, .int (sI ((t : Int) + 1))), (3, .int (sI (qGoe M kv.toNat))), (0, .ref (G.1 (258))), (1, .int (sI ((qsw M i) + (if qGoe M i ≠ -1 then 1 else 0)))), (2, .int (sI ((i : Int))))] dX7_swaps_56 rfl (by decide) rfl ?_
                  refine at_goto C 38 dX7_swaps_59 (by decide) ?_
                  refine at_lv [2, 3, 4, 1, 0] rfl ?_
                  exact at_eq (ih38 (t + 1) (qGoe M kv.toNat) (by omega) (by omega) (⟨by omega, by omega⟩) (by rw [← hf, qfl_y (f := 6 - t) (by omega) (by omega), show 6 - t - 1 = 6 - (t + 1) by omega])) (lvc_s (lvc_s (lvc_s (lvc_i (rfl) (lvc_i (by omega) rfl))))) rfl (rfl) (rfl)
          refine at_lv [3, 2, 4, 1, 0] rfl ?_
          exact at_eq (H38 _ 0 (qGoe M i) (Nat.lt_succ_self _) (by omega) (⟨by omega, by omega⟩) (rfl)) (lvc_s (lvc_s (lvc_s (lvc_i (rfl) (lvc_i (rfl) rfl))))) rfl (rfl) (rfl)
  refine at_lv [2, 1, 0] rfl ?_
  exact at_eq (H4 _ 0 (Nat.lt_succ_self _) (by omega)) (lvc_s (lvc_i (rfl) (lvc_i (rfl) rfl))) rfl (rfl) (rfl)

set_option maxHeartbeats 4000000 in
set_option maxRecDepth 100000 in
theorem c_X7_lay (l : Launch) (D : va_G) (G : sG) {M : sM} {L : sL} (x y : Nat) (hx : x < 1000000) (hy : y < 1000000) (hy0 : 0 < y) : sKv l D G yX7_lay cX7_lay 11 0 0 [.ref (G.1 (258)), .long (lN x), .long (lN y)] M L (fun M' L' => M = M' ∧ L' = qFr L x y) := by
  refine sKv_go (by decide) (Nat.le_of_ble_eq_true rfl) ?_
  intro zp ze zs zm za zb zt zc Q C hret
  refine at_eq (lv' := [(0, .ref (G.1 (258))), (1, .long (lN x)), (3, .long (lN y))]) (st' := []) (M' := M) (L' := L) ?_ rfl rfl rfl rfl
  refine at_lload_n C 1 dX7_lay_0 rfl ?_
  refine at_lstore C [(5, .long (lN x)), (0, .ref (G.1 (258))), (1, .long (lN x)), (3, .long (lN y))] dX7_lay_1 (by decide) rfl ?_
  refine at_lload_n C 3 dX7_lay_3 rfl ?_
  refine at_lstore C [(7, .long (lN y)), (5, .long (lN x)), (0, .ref (G.1 (258))), (1, .long (lN x)), (3, .long (lN y))] dX7_lay_4 (by decide) rfl ?_
  have H6 : ∀ (fu : Nat) (a : Nat) (b : Nat), b < fu → (a < 1000000 ∧ b < 1000000 ∧ 0 < a + b) → (Nat.gcd a b = Nat.gcd x y) → sAt zp l ze (sRm 0 0) zs zm za zb zt zc D G 11 0 0 Q 6 [(0, .ref (G.1 (258))), (1, .long (lN x)), (3, .long (lN y)), (5, .long (lN a)), (7, .long (lN b))] [] M L := by
    intro fu
    induction fu with
    | zero => intro a b hd hab hg; exact absurd hd (Nat.not_lt_zero _)
    | succ fu ih6 =>
      intro a b hd6 hab hg
      refine at_lload C 4 dX7_lay_6 rfl ?_
      refine at_lconst (v := 0) C dX7_lay_8 (by decide) ?_
      refine at_lcmp C dX7_lay_9 ?_
      have hlc := lcI_c (lN b) 0
      refine at_if_eq C 31 dX7_lay_10 (by decide) (⟨by omega, by omega⟩) (fun h1 => ?_) (fun h1 => ?_)
      · have hb0 : b = 0 := by rcases hlc with q | q | q; omega; exact lN_inj (by omega) (by decide) (q.2.trans lz); omega
        have hga : a = Nat.gcd x y := by rw [← hg, hb0, Nat.gcd_zero_right]
        refine at_aload_n C 0 dX7_lay_31 rfl ?_
        refine at_lload_n C 1 dX7_lay_32 rfl ?_
        refine at_lload C 3 dX7_lay_33 rfl ?_
        refine at_ldiv C dX7_lay_35 (lN_ne0 (by omega) (by omega)) ?_
        refine at_vl (y := lN (x / Nat.gcd x y)) (by rw [pk_lDiv (by omega) (by omega) (by omega), hga]) ?_
        refine at_putL (slot := 31) (ty := .long) C tyX7 (obj_Ref G) (ci := 7) rfl inX7 tyX7_ok nmX7 (by decide) qw_913 rfl rfl (by decide +kernel) rfl rfl (Nat.le_of_ble_eq_true rfl) rfl dX7_lay_36 ?_
        refine at_aload_n C 0 dX7_lay_39 rfl ?_
        refine at_lload_n C 2 dX7_lay_40 rfl ?_
        refine at_lload C 3 dX7_lay_41 rfl ?_
        refine at_ldiv C dX7_lay_43 (lN_ne0 (by omega) (by omega)) ?_
        refine at_vl (y := lN (y / Nat.gcd x y)) (by rw [pk_lDiv (by omega) (by omega) (by omega), hga]) ?_
        refine at_putL (slot := 32) (ty := .long) C tyX7 (obj_Ref G) (ci := 7) rfl inX7 tyX7_ok nmX7 (by decide) qw_914 rfl rfl (by decide +kernel) rfl rfl (Nat.le_of_ble_eq_true rfl) rfl dX7_lay_44 ?_
        exact hret _ _ _ _ dX7_lay_47 (⟨rfl, rfl⟩)
      · have hb0 : b ≠ 0 := fun z => by subst z; rcases hlc with q | q | q; exact q.2 rfl; omega; exact q.2 rfl
        refine at_lload C 3 dX7_lay_13 rfl ?_
        refine at_lload C 4 dX7_lay_15 rfl ?_
        refine at_lrem C dX7_lay_17 (lN_ne0 (by omega) hb0) ?_
        refine at_vl (y := lN (a % b)) (pk_lRem (by omega) (by omega) (by omega)) ?_
        refine at_lstore C [(9, .long (lN (a % b))), (0, .ref (G.1 (258))), (1, .long (lN x)), (3, .long (lN y)), (5, .long (lN a)), (7, .long (lN b))] dX7_lay_18 (by decide) rfl ?_
        refine at_lload C 5 dX7_lay_20 rfl ?_
        refine at_lstore C [(5, .long (lN b)), (9, .long (lN (a % b))), (0, .ref (G.1 (258))), (1, .long (lN x)), (3, .long (lN y)), (7, .long (lN b))] dX7_lay_22 (by decide) rfl ?_
        refine at_lload C 1 dX7_lay_24 rfl ?_
        refine at_lstore C [(7, .long (lN (a % b))), (5, .long (lN b)), (9, .long (lN (a % b))), (0, .ref (G.1 (258))), (1, .long (lN x)), (3, .long (lN y))] dX7_lay_26 (by decide) rfl ?_
        refine at_goto C 6 dX7_lay_28 (by decide) ?_
        refine at_lv [3, 4, 5, 1, 0] rfl ?_
        exact at_eq (ih6 b (a % b) (Nat.lt_of_lt_of_le (Nat.mod_lt a (by omega)) (by omega)) (⟨by omega, Nat.lt_of_lt_of_le (Nat.mod_lt a (by omega)) (by omega), by omega⟩) (by rw [← gcd_st, hg])) rfl rfl (rfl) (rfl)
  refine at_lv [2, 3, 4, 1, 0] rfl ?_
  exact at_eq (H6 _ x y (Nat.lt_succ_self _) (⟨by omega, by omega, by omega⟩) (rfl)) rfl rfl (rfl) (rfl)

set_option maxHeartbeats 4000000 in
set_option maxRecDepth 100000 in
theorem c_X7_gulls (l : Launch) (D : va_G) (G : sG) {M : sM} {L : sL} (c : Int) (hcr : InR c) (hT : TInv M) (hc : qCt M) : sKi l D G yX7_gulls cX7_gulls 5 .int 3 65 [.ref (G.1 (258)), .int (sI (c))] M L (fun r M' L' => r = sI (rGulls c) ∧ M' = qB M (0 ≤ c ∧ c ≤ 10) ∧ TInv M' ∧ L' = qmGulls L M c) := by
  refine sKi_go (by decide) (Nat.le_of_ble_eq_true rfl) ?_
  intro zp ze zs zm za zb zt zc Q C hret
  refine at_eq (lv' := [(0, .ref (G.1 (258))), (1, .int (sI (c)))]) (st' := []) (M' := M) (L' := L) ?_ rfl rfl rfl rfl
  have hqn := qn_r hT
  have hqc := qc_r hT
  have hqu := qu_r hT
  have hqt := qt_r hT
  have hqs := qs_r hT
  have hqo := qo_r hT
  have hqm := qm_r hT
  refine at_iload_n C 1 dX7_gulls_0 rfl ?_
  refine at_iconst C dX7_gulls_1 ?_
  refine at_bipush C dX7_gulls_2 (by decide) (by decide) ?_
  refine at_stat_i C (c_X7_in l D G c 0 10 ⟨by omega, by omega⟩ ⟨by omega, by omega⟩ ⟨by omega, by omega⟩) (As := [.int (sI (c)), .int (sI (0)), .int (sI (10))]) qw_1004 qw_1002 qw_8 qw_1003 ⟨by decide, by decide, show (parseMethodDescriptor yX7_in.desc).map (fun d => d.parameters.length) = some 3 by decide +kernel⟩ ⟨by decide, by decide⟩ ⟨Nat.zero_le _, Nat.zero_le _⟩ (Nat.le_of_ble_eq_true rfl) dX7_gulls_4 rfl (fun r M' L' hp1 => ?_)
  obtain ⟨rfl, rfl, rfl⟩ := hp1
  refine at_if_neB C 15 dX7_gulls_7 (by decide) (fun h2 => ?_) (fun h2 => ?_)
  · refine at_lconst (v := 0) C dX7_gulls_15 (by decide) ?_
    refine at_lstore_n C [(2, .long (0)), (0, .ref (G.1 (258))), (1, .int (sI (c)))] dX7_gulls_16 (by decide) rfl ?_
    refine at_iconst C dX7_gulls_17 ?_
    refine at_istore C [(4, .int (sI (0))), (2, .long (0)), (0, .ref (G.1 (258))), (1, .int (sI (c)))] dX7_gulls_18 (by decide) rfl ?_
    have H20 : ∀ (fu : Nat) (k : Nat), qn M - k < fu → (k ≤ qn M) → sAt zp l ze (sRm 3 65) zs zm za zb zt zc D G 5 0 0 Q 20 [(0, .ref (G.1 (258))), (1, .int (sI (c))), (2, .long (lN (sumI (fun s => if 0 ≤ M 263 s then qWei M s else 0) k).toNat)), (4, .int (sI ((k : Int))))] [] M L := by
      intro fu
      induction fu with
      | zero => intro k hd hk; exact absurd hd (Nat.not_lt_zero _)
      | succ fu ih20 =>
        intro k hd20 hk
        have hsr := qgS_r hT k
        have hb3 := tv hT (k := 263) (j := k) (lo := -2) (hi := 11) rfl
        refine at_iload C 3 dX7_gulls_20 rfl ?_
        refine at_aload_n C 0 dX7_gulls_22 rfl ?_
        refine at_getf (v := .int (sI (M 258 1))) C (obj_Ref G) (ci := 7) rfl inX7 (slot := 1) (by decide) qw_883 rfl rfl dX7_gulls_23 ?_
        have hb3 : _ ≤ M 258 1 ∧ M 258 1 ≤ _ := tv hT (k := 258) (j := 1) rfl
        refine at_ve (b := (((qn M) : Nat) : Int)) (hqn.2) ?_
        refine at_icmp_ge C 59 dX7_gulls_26 (by decide) (⟨by omega, by omega⟩) (⟨by omega, by omega⟩) (fun h4 => ?_) (fun h4 => ?_)
        · have hgk : sumI (fun s => if 0 ≤ M 263 s then qWei M s else 0) k = qgS M := by unfold qgS; rw [show qn M = k by omega]
          have hgr : 0 ≤ qgS M ∧ qgS M ≤ 132 := by rw [← hgk]; omega
          have hxb : (qgS M).toNat * (10 - c).toNat < 1000000 := by have := Nat.mul_le_mul (show (qgS M).toNat ≤ 132 by omega) (show (10 - c).toNat ≤ 10 by omega); omega
          refine at_aload_n C 0 dX7_gulls_59 rfl ?_
          refine at_lload_n C 2 dX7_gulls_60 rfl ?_
          refine at_bipush C dX7_gulls_61 (by decide) (by decide) ?_
          refine at_iload_n C 1 dX7_gulls_63 rfl ?_
          refine at_isub C dX7_gulls_64 ?_
          refine at_i2l C dX7_gulls_65 ?_
          refine at_lmul C dX7_gulls_66 ?_
          refine at_vl (y := lN ((qgS M).toNat * (10 - c).toNat)) (by rw [hgk, lprod (by omega) (by omega) (by omega)]) ?_
          refine at_ldc2 C qw_1379 dX7_gulls_67 ?_
          refine at_vl (y := lN 10) (by decide +kernel) ?_
          refine at_call_v C (c_X7_lay l D G (M := M) (L := L) ((qgS M).toNat * (10 - c).toNat) 10 (by omega) (by omega) (by omega)) (As := [.long (lN ((qgS M).toNat * (10 - c).toNat)), .long (lN 10)]) (obj_Ref G) (ci := 7) rfl qw_1383 qw_1380 qw_8 qw_1382 qp_87 ⟨by decide, by decide, show (parseMethodDescriptor yX7_lay.desc).map (fun d => d.parameters.length) = some 2 by decide +kernel⟩ ⟨by decide, by decide⟩ ⟨Nat.zero_le _, Nat.zero_le _⟩ (Nat.le_of_ble_eq_true rfl) dX7_gulls_70 rfl (fun M' L' hp5 => ?_)
          obtain ⟨rfl, rfl⟩ := hp5
          refine at_iconst C dX7_gulls_73 ?_
          exact hret _ _ _ _ _ dX7_gulls_74 (⟨congrArg sI (if_pos (by omega)).symm, (if_pos (by omega)).symm, hT, (if_pos (by omega)).symm⟩)
        · refine at_lload_n C 2 dX7_gulls_29 rfl ?_
          refine at_aload_n C 0 dX7_gulls_30 rfl ?_
          refine at_getf (v := .ref (G.1 (263))) C (obj_Ref G) (ci := 7) rfl inX7 (slot := 11) (by decide) qw_893 rfl rfl dX7_gulls_31 ?_
          refine at_iload C 3 dX7_gulls_34 rfl ?_
          refine at_iald C k (ar_263 G) (rfl) (by omega) dX7_gulls_36 ?_
          have hb6 : _ ≤ M 263 k ∧ M 263 k ≤ _ := tv hT (k := 263) (j := k) rfl
          refine at_if_lt C 50 dX7_gulls_37 (by decide) (⟨by omega, by omega⟩) (fun h7 => ?_) (fun h7 => ?_)
          · refine at_lconst (v := 0) C dX7_gulls_50 (by decide) ?_
            refine at_ladd C dX7_gulls_51 ?_
            refine at_vl (y := lN (sumI (fun s => if 0 ≤ M 263 s then qWei M s else 0) (k + 1)).toNat) (by rw [lsum_n]; show _ = lN (sumI (fun s => if 0 ≤ M 263 s then qWei M s else 0) k + (if 0 ≤ M 263 k then qWei M k else 0)).toNat; rw [if_neg (by omega)]) ?_
            refine at_lstore_n C [(2, .long (lN (sumI (fun s => if 0 ≤ M 263 s then qWei M s else 0) (k + 1)).toNat)), (0, .ref (G.1 (258))), (1, .int (sI (c))), (4, .int (sI ((k : Int))))] dX7_gulls_52 (by decide) rfl ?_
            refine at_iinc C 3 [(4, .int (sI ((k : Int) + 1))), (2, .long (lN (sumI (fun s => if 0 ≤ M 263 s then qWei M s else 0) (k + 1)).toNat)), (0, .ref (G.1 (258))), (1, .int (sI (c)))] dX7_gulls_53 rfl (by decide) rfl ?_
            refine at_goto C 20 dX7_gulls_56 (by decide) ?_
            refine at_lv [2, 3, 1, 0] rfl ?_
            exact at_eq (ih20 (k + 1) (by omega) (by omega)) (lvc_s (lvc_s (lvc_s (lvc_i (by omega) rfl)))) rfl (rfl) (rfl)
          · refine at_aload_n C 0 dX7_gulls_40 rfl ?_
            refine at_iload C 3 dX7_gulls_41 rfl ?_
            refine at_call_i C (c_X7_weighs l D G k (by omega) hT) (As := [.int (sI ((k : Int)))]) (obj_Ref G) (ci := 7) rfl qw_1160 qw_1157 qw_8 qw_1159 qp_63 ⟨by decide, by decide, show (parseMethodDescriptor yX7_weighs.desc).map (fun d => d.parameters.length) = some 1 by decide +kernel⟩ ⟨by decide, by decide⟩ ⟨Nat.zero_le _, Nat.zero_le _⟩ (Nat.le_of_ble_eq_true rfl) dX7_gulls_43 rfl (fun r M' L' hp9 => ?_)
            obtain ⟨rfl, rfl, rfl⟩ := hp9
            have hb8 := qWei_r hT k
            refine at_i2l C dX7_gulls_46 ?_
            refine at_goto C 51 dX7_gulls_47 (by decide) ?_
            refine at_ladd C dX7_gulls_51 ?_
            refine at_vl (y := lN (sumI (fun s => if 0 ≤ M 263 s then qWei M s else 0) (k + 1)).toNat) (by rw [lsum_y (by omega) (by omega) (by omega)]; show _ = lN (sumI (fun s => if 0 ≤ M 263 s then qWei M s else 0) k + (if 0 ≤ M 263 k then qWei M k else 0)).toNat; rw [if_pos (by omega)]) ?_
            refine at_lstore_n C [(2, .long (lN (sumI (fun s => if 0 ≤ M 263 s then qWei M s else 0) (k + 1)).toNat)), (0, .ref (G.1 (258))), (1, .int (sI (c))), (4, .int (sI ((k : Int))))] dX7_gulls_52 (by decide) rfl ?_
            refine at_iinc C 3 [(4, .int (sI ((k : Int) + 1))), (2, .long (lN (sumI (fun s => if 0 ≤ M 263 s then qWei M s else 0) (k + 1)).toNat)), (0, .ref (G.1 (258))), (1, .int (sI (c)))] dX7_gulls_53 rfl (by decide) rfl ?_
            refine at_goto C 20 dX7_gulls_56 (by decide) ?_
            refine at_lv [2, 3, 1, 0] rfl ?_
            exact at_eq (ih20 (k + 1) (by omega) (by omega)) (lvc_s (lvc_s (lvc_s (lvc_i (by omega) rfl)))) rfl (rfl) (rfl)
    refine at_lv [2, 3, 1, 0] rfl ?_
    exact at_eq (H20 _ 0 (Nat.lt_succ_self _) (by omega)) (lvc_s (lvc_s (lvc_l (rfl) (lvc_i (rfl) rfl)))) rfl (rfl) (rfl)
  · refine at_aload_n C 0 dX7_gulls_10 rfl ?_
    refine at_call_i C (c_X7_bad l D G hT ⟨by omega, by omega, by omega⟩) (As := []) (obj_Ref G) (ci := 7) rfl qw_1012 qw_1009 qw_8 qw_1011 qp_34 ⟨by decide, by decide, show (parseMethodDescriptor yX7_bad.desc).map (fun d => d.parameters.length) = some 0 by decide +kernel⟩ ⟨by decide, by decide⟩ ⟨Nat.zero_le _, Nat.zero_le _⟩ (Nat.le_of_ble_eq_true rfl) dX7_gulls_11 rfl (fun r M' L' hp11 => ?_)
    obtain ⟨rfl, rfl, hT10, rfl⟩ := hp11
    exact hret _ _ _ _ _ dX7_gulls_14 (⟨congrArg sI (if_neg (by omega)).symm, (if_neg (by omega)).symm, hT10, (if_neg (by omega)).symm⟩)

set_option maxHeartbeats 4000000 in
set_option maxRecDepth 100000 in
theorem c_X7_part (l : Launch) (D : va_G) (G : sG) {M : sM} {L : sL} (w : Int) (hwr : InR w) (hT : TInv M) (hc : qCt M) : sKl l D G yX7_part cX7_part 2 1 20 [.ref (G.1 (258)), .int (sI (w))] M L (fun r M' L' => r = qrPart M L w ∧ M' = qB M (w = 0 ∨ w = 1) ∧ TInv M' ∧ L = L') := by
  refine sKl_go (by decide) (Nat.le_of_ble_eq_true rfl) ?_
  intro zp ze zs zm za zb zt zc Q C hret
  refine at_eq (lv' := [(0, .ref (G.1 (258))), (1, .int (sI (w)))]) (st' := []) (M' := M) (L' := L) ?_ rfl rfl rfl rfl
  have hqn := qn_r hT
  have hqc := qc_r hT
  have hqu := qu_r hT
  have hqt := qt_r hT
  have hqs := qs_r hT
  have hqo := qo_r hT
  have hqm := qm_r hT
  refine at_iload_n C 1 dX7_part_0 rfl ?_
  refine at_if_ne C 11 dX7_part_1 (by decide) (⟨by omega, by omega⟩) (fun h1 => ?_) (fun h1 => ?_)
  · refine at_iload_n C 1 dX7_part_11 rfl ?_
    refine at_iconst C dX7_part_12 ?_
    refine at_icmp_ne C 23 dX7_part_13 (by decide) (⟨by omega, by omega⟩) (⟨by omega, by omega⟩) (fun h2 => ?_) (fun h2 => ?_)
    · refine at_aload_n C 0 dX7_part_23 rfl ?_
      refine at_call_i C (c_X7_bad l D G hT ⟨by omega, by omega, by omega⟩) (As := []) (obj_Ref G) (ci := 7) rfl qw_1012 qw_1009 qw_8 qw_1011 qp_34 ⟨by decide, by decide, show (parseMethodDescriptor yX7_bad.desc).map (fun d => d.parameters.length) = some 0 by decide +kernel⟩ ⟨by decide, by decide⟩ ⟨Nat.zero_le _, Nat.zero_le _⟩ (Nat.le_of_ble_eq_true rfl) dX7_part_24 rfl (fun r M' L' hp4 => ?_)
      obtain ⟨rfl, rfl, hT3, rfl⟩ := hp4
      refine at_i2l C dX7_part_27 ?_
      exact hret _ _ _ _ _ dX7_part_28 (⟨(if_neg (by omega)).trans (if_neg (by omega)) |>.symm, (if_neg (by omega)).symm, hT3, rfl⟩)
    · refine at_aload_n C 0 dX7_part_16 rfl ?_
      refine at_getf (v := .long (L 258 32)) C (obj_Ref G) (ci := 7) rfl inX7 (slot := 32) (by decide) qw_914 rfl rfl dX7_part_17 ?_
      refine at_goto C 28 dX7_part_20 (by decide) ?_
      exact hret _ _ _ _ _ dX7_part_28 (⟨((if_neg (by omega)).trans (if_pos (by omega))).symm, (if_pos (by omega)).symm, hT, rfl⟩)
  · refine at_aload_n C 0 dX7_part_4 rfl ?_
    refine at_getf (v := .long (L 258 31)) C (obj_Ref G) (ci := 7) rfl inX7 (slot := 31) (by decide) qw_913 rfl rfl dX7_part_5 ?_
    refine at_goto C 28 dX7_part_8 (by decide) ?_
    exact hret _ _ _ _ _ dX7_part_28 (⟨(if_pos (by omega)).symm, (if_pos (by omega)).symm, hT, rfl⟩)

set_option maxHeartbeats 4000000 in
set_option maxRecDepth 100000 in
theorem c_X7_years (l : Launch) (D : va_G) (G : sG) {M : sM} {L : sL} (x n : Int) (hxr : InR x) (hnr : InR n) (ht : M 258 3 ≤ 999) (hT : TInv M) (hc : qCt M) : sKi l D G yX7_years cX7_years 8 .int 7 153 [.ref (G.1 (258)), .int (sI (x)), .int (sI (n))] M L (fun r M' L' => r = sI (qrYears M x n) ∧ M' = qmYears M x n ∧ TInv M' ∧ L = L') := by
  refine sKi_go (by decide) (Nat.le_of_ble_eq_true rfl) ?_
  intro zp ze zs zm za zb zt zc Q C hret
  refine at_eq (lv' := [(0, .ref (G.1 (258))), (1, .int (sI (x))), (2, .int (sI (n)))]) (st' := []) (M' := M) (L' := L) ?_ rfl rfl rfl rfl
  have hqn := qn_r hT
  have hqc := qc_r hT
  have hqu := qu_r hT
  have hqt := qt_r hT
  have hqs := qs_r hT
  have hqo := qo_r hT
  have hqm := qm_r hT
  refine at_iload_n C 1 dX7_years_0 rfl ?_
  refine at_iconst C dX7_years_1 ?_
  refine at_ldcw (n := 999999) C qw_1388 dX7_years_2 (by decide +kernel) ?_
  refine at_stat_i C (c_X7_in l D G x 0 999999 ⟨by omega, by omega⟩ ⟨by omega, by omega⟩ ⟨by omega, by omega⟩) (As := [.int (sI (x)), .int (sI (0)), .int (sI (999999))]) qw_1004 qw_1002 qw_8 qw_1003 ⟨by decide, by decide, show (parseMethodDescriptor yX7_in.desc).map (fun d => d.parameters.length) = some 3 by decide +kernel⟩ ⟨by decide, by decide⟩ ⟨Nat.zero_le _, Nat.zero_le _⟩ (Nat.le_of_ble_eq_true rfl) dX7_years_5 rfl (fun r M' L' hp1 => ?_)
  obtain ⟨rfl, rfl, rfl⟩ := hp1
  refine at_if_eqB C 21 dX7_years_8 (by decide) (fun h2 => ?_) (fun h2 => ?_)
  · refine at_aload_n C 0 dX7_years_21 rfl ?_
    refine at_call_i C (c_X7_bad l D G hT ⟨by omega, by omega, by omega⟩) (As := []) (obj_Ref G) (ci := 7) rfl qw_1012 qw_1009 qw_8 qw_1011 qp_34 ⟨by decide, by decide, show (parseMethodDescriptor yX7_bad.desc).map (fun d => d.parameters.length) = some 0 by decide +kernel⟩ ⟨by decide, by decide⟩ ⟨Nat.zero_le _, Nat.zero_le _⟩ (Nat.le_of_ble_eq_true rfl) dX7_years_22 rfl (fun r M' L' hp4 => ?_)
    obtain ⟨rfl, rfl, hT3, rfl⟩ := hp4
    exact hret _ _ _ _ _ dX7_years_25 (⟨congrArg sI (if_neg (by first | omega | (simp only [Int.toNat_natCast]; omega))).symm, (if_neg (by first | omega | (simp only [Int.toNat_natCast]; omega))).symm, hT3, rfl⟩)
  · refine at_iload_n C 2 dX7_years_11 rfl ?_
    refine at_iconst C dX7_years_12 ?_
    refine at_bipush C dX7_years_13 (by decide) (by decide) ?_
    refine at_stat_i C (c_X7_in l D G n 0 60 ⟨by omega, by omega⟩ ⟨by omega, by omega⟩ ⟨by omega, by omega⟩) (As := [.int (sI (n)), .int (sI (0)), .int (sI (60))]) qw_1004 qw_1002 qw_8 qw_1003 ⟨by decide, by decide, show (parseMethodDescriptor yX7_in.desc).map (fun d => d.parameters.length) = some 3 by decide +kernel⟩ ⟨by decide, by decide⟩ ⟨Nat.zero_le _, Nat.zero_le _⟩ (Nat.le_of_ble_eq_true rfl) dX7_years_15 rfl (fun r M' L' hp5 => ?_)
    obtain ⟨rfl, rfl, rfl⟩ := hp5
    refine at_if_neB C 26 dX7_years_18 (by decide) (fun h6 => ?_) (fun h6 => ?_)
    · obtain ⟨xx, rfl⟩ : ∃ xx : Nat, x = (xx : Int) := ⟨x.toNat, by omega⟩
      obtain ⟨nn, rfl⟩ : ∃ nn : Nat, n = (nn : Int) := ⟨n.toNat, by omega⟩
      refine at_aload_n C 0 dX7_years_26 rfl ?_
      refine at_aload_n C 0 dX7_years_27 rfl ?_
      refine at_getf (v := .ref (G.1 (273))) C (obj_Ref G) (ci := 7) rfl inX7 (slot := 26) (by decide) qw_908 rfl rfl dX7_years_28 ?_
      refine at_iconst C dX7_years_31 ?_
      refine at_call_v C (c_X7_lays l D G (b := 273) (a := 0) (n := 20) (ar_273 G) isRc_273 hT) (As := [.ref (G.1 (273)), .int (sI (0))]) (obj_Ref G) (ci := 7) rfl qw_1052 qw_1049 qw_8 qw_1051 qp_39 ⟨by decide, by decide, show (parseMethodDescriptor yX7_lays.desc).map (fun d => d.parameters.length) = some 2 by decide +kernel⟩ ⟨by decide, by decide⟩ ⟨Nat.zero_le _, Nat.zero_le _⟩ (Nat.le_of_ble_eq_true rfl) dX7_years_32 rfl (fun M' L' hp8 => ?_)
      obtain ⟨rfl, hT7, rfl⟩ := hp8
      refine at_aload_n C 0 dX7_years_35 rfl ?_
      refine at_iconst C dX7_years_36 ?_
      refine at_putM (slot := 23) (ty := .boolean) C tyX7 (obj_Ref G) (ci := 7) rfl inX7 tyX7_ok nmX7 (by decide) qw_905 rfl rfl (by decide +kernel) (by decide +kernel) (by decide +kernel) (Nat.le_of_ble_eq_true rfl) rfl dX7_years_37 ?_
      have hT9 : TInv (sSt (qLay M 273 0) 258 23 1) := tv_st hT7 (k := 258) (j := 23) rfl (⟨by omega, by omega⟩)
      refine at_iload_n C 1 dX7_years_40 rfl ?_
      refine at_i2l C dX7_years_41 ?_
      refine at_lstore_n C [(3, .long (((sI ((xx : Int)))).toInt64)), (0, .ref (G.1 (258))), (1, .int (sI ((xx : Int)))), (2, .int (sI ((nn : Int))))] dX7_years_42 (by decide) rfl ?_
      refine at_iconst C dX7_years_43 ?_
      refine at_istore C [(5, .int (sI (0))), (3, .long (((sI ((xx : Int)))).toInt64)), (0, .ref (G.1 (258))), (1, .int (sI ((xx : Int)))), (2, .int (sI ((nn : Int))))] dX7_years_44 (by decide) rfl ?_
      have H46 : ∀ (fu : Nat) (k : Nat), nn - k < fu → (k ≤ nn) → (TInv (qYIt (qY0 M) xx k)) → sAt zp l ze (sRm 7 153) zs zm za zb zt zc D G 8 0 0 Q 46 [(0, .ref (G.1 (258))), (1, .int (sI ((xx : Int)))), (2, .int (sI ((nn : Int)))), (3, .long (lN (lcgN xx k))), (5, .int (sI ((k : Int))))] [] (qYIt (qY0 M) xx k) L := by
        intro fu
        induction fu with
        | zero => intro k hd hk hTk; exact absurd hd (Nat.not_lt_zero _)
        | succ fu ih46 =>
          intro k hd46 hk hTk
          have g33 := qYIt_t (qY0 M) xx (by rw [show qY0 M 258 23 = 1 from rfl]; decide) k
          have g3 : qYIt (qY0 M) xx k 258 3 = M 258 3 + k := g33.1
          have hlx := lcgN_lt (show xx < 2147483648 by omega) k
          refine at_iload C 4 dX7_years_46 rfl ?_
          refine at_iload_n C 2 dX7_years_48 rfl ?_
          refine at_icmp_ge C 136 dX7_years_49 (by decide) (⟨by omega, by omega⟩) (⟨by omega, by omega⟩) (fun h10 => ?_) (fun h10 => ?_)
          · refine at_aload_n C 0 dX7_years_136 rfl ?_
            refine at_iconst C dX7_years_137 ?_
            refine at_putM (slot := 23) (ty := .boolean) C tyX7 (obj_Ref G) (ci := 7) rfl inX7 tyX7_ok nmX7 (by decide) qw_905 rfl rfl (by decide +kernel) (by decide +kernel) (by decide +kernel) (Nat.le_of_ble_eq_true rfl) rfl dX7_years_138 ?_
            have hT11 : TInv (sSt (qYIt (qY0 M) xx k) 258 23 0) := tv_st hTk (k := 258) (j := 23) rfl (⟨by omega, by omega⟩)
            have hE : (sSt (qYIt (qY0 M) xx k) 258 23 0) = qYE M xx nn := by unfold qYE; rw [show nn = k by omega]
            have hTE : TInv (qYE M xx nn) := TInv_e hE hT11
            refine at_m (M' := (qYE M xx nn)) (hE) ?_
            refine at_aload_n C 0 dX7_years_141 rfl ?_
            refine at_call_i C (c_X7_rightMany l D G hTE) (As := []) (obj_Ref G) (ci := 7) rfl qw_1291 qw_1288 qw_8 qw_1290 qp_80 ⟨by decide, by decide, show (parseMethodDescriptor yX7_rightMany.desc).map (fun d => d.parameters.length) = some 0 by decide +kernel⟩ ⟨by decide, by decide⟩ ⟨Nat.zero_le _, Nat.zero_le _⟩ (Nat.le_of_ble_eq_true rfl) dX7_years_142 rfl (fun r M' L' hp12 => ?_)
            obtain ⟨rfl, rfl, rfl⟩ := hp12
            refine at_istore C [(5, .int (sI (qRig (qYE M xx nn)))), (0, .ref (G.1 (258))), (1, .int (sI ((xx : Int)))), (2, .int (sI ((nn : Int)))), (3, .long (lN (lcgN xx k)))] dX7_years_145 (by decide) rfl ?_
            refine at_aload_n C 1 dX7_years_147 rfl ?_
            refine at_aload_n C 1 dX7_years_148 rfl ?_
            refine at_getf (v := .ref (G.1 (273))) C (obj_Ref G) (ci := 7) rfl inX7 (slot := 26) (by decide) qw_908 rfl rfl dX7_years_149 ?_
            refine at_iconst C dX7_years_152 ?_
            refine at_call_v C (c_X7_takes l D G (b := 273) (a := 0) (n := 20) (ar_273 G) isRc_273 hTE) (As := [.ref (G.1 (273)), .int (sI (0))]) (obj_Ref G) (ci := 7) rfl qw_1196 qw_1193 qw_8 qw_1195 qp_69 ⟨by decide, by decide, show (parseMethodDescriptor yX7_takes.desc).map (fun d => d.parameters.length) = some 2 by decide +kernel⟩ ⟨by decide, by decide⟩ ⟨Nat.zero_le _, Nat.zero_le _⟩ (Nat.le_of_ble_eq_true rfl) dX7_years_153 rfl (fun M' L' hp14 => ?_)
            obtain ⟨rfl, hT13, rfl⟩ := hp14
            refine at_iload C 0 dX7_years_156 rfl ?_
            exact hret _ _ _ _ _ dX7_years_158 (⟨congrArg sI (if_pos (by unfold okYears; omega)).symm, (if_pos (by unfold okYears; omega)).symm, hT13, rfl⟩)
          · refine at_lload_n C 3 dX7_years_52 rfl ?_
            refine at_ldc2 C qw_1389 dX7_years_53 ?_
            refine at_lmul C dX7_years_56 ?_
            refine at_ldc2 C qw_1390 dX7_years_57 ?_
            refine at_ladd C dX7_years_60 ?_
            refine at_ldc2 C qw_1391 dX7_years_61 ?_
            refine at_lrem C dX7_years_64 (by decide) ?_
            have hl2 := lcgN_lt (show xx < 2147483648 by omega) (k + 1)
            refine at_vl (y := lN (lcgN xx (k + 1))) (lcg_l hlx) ?_
            refine at_lstore_n C [(3, .long (lN (lcgN xx (k + 1)))), (0, .ref (G.1 (258))), (1, .int (sI ((xx : Int)))), (2, .int (sI ((nn : Int)))), (5, .int (sI ((k : Int))))] dX7_years_65 (by decide) rfl ?_
            refine at_aload_n C 1 dX7_years_66 rfl ?_
            refine at_lload_n C 0 dX7_years_67 rfl ?_
            refine at_ldc2 C qw_1392 dX7_years_68 ?_
            refine at_ldiv C dX7_years_71 (by decide) ?_
            refine at_ldc2 C qw_1393 dX7_years_72 ?_
            refine at_lrem C dX7_years_75 (by decide) ?_
            refine at_l2i C ((((lcgN xx (k + 1) / 65536 % 3) : Nat) : Int)) dX7_years_76 (lcg_a hl2) ?_
            refine at_iconst C dX7_years_77 ?_
            refine at_isub C dX7_years_78 ?_
            refine at_call_i C (c_X7_goesBy l D G (M := (qYIt (qY0 M) xx k)) ((((lcgN xx (k + 1) / 65536 % 3) : Nat) : Int) - 1) ⟨by omega, by omega⟩ (by omega) hTk) (As := [.int (sI ((((lcgN xx (k + 1) / 65536 % 3) : Nat) : Int) - 1))]) (obj_Ref G) (ci := 7) rfl qw_1114 qw_1111 qw_8 qw_1113 qp_53 ⟨by decide, by decide, show (parseMethodDescriptor yX7_goesBy.desc).map (fun d => d.parameters.length) = some 1 by decide +kernel⟩ ⟨by decide, by decide⟩ ⟨Nat.zero_le _, Nat.zero_le _⟩ (Nat.le_of_ble_eq_true rfl) dX7_years_79 rfl (fun r M' L' hp17 => ?_)
            obtain ⟨rfl, rfl, hT15, rfl⟩ := hp17
            have hb16 : 0 ≤ qGoC (qYIt (qY0 M) xx k) ((((lcgN xx (k + 1) / 65536 % 3) : Nat) : Int) - 1) ∧ qGoC (qYIt (qY0 M) xx k) ((((lcgN xx (k + 1) / 65536 % 3) : Nat) : Int) - 1) ≤ qn (qYIt (qY0 M) xx k) := cnt_r _ _
            refine at_pop C dX7_years_82 rfl ?_
            refine at_lload_n C 0 dX7_years_83 rfl ?_
            refine at_ldc2 C qw_1394 dX7_years_84 ?_
            refine at_ldiv C dX7_years_87 (by decide) ?_
            refine at_ldc2 C qw_1395 dX7_years_88 ?_
            refine at_lrem C dX7_years_91 (by decide) ?_
            refine at_l2i C ((((lcgN xx (k + 1) / 1048576 % 6) : Nat) : Int)) dX7_years_92 (lcg_b hl2) ?_
            refine at_istore C [(6, .int (sI ((((lcgN xx (k + 1) / 1048576 % 6) : Nat) : Int)))), (3, .long (lN (lcgN xx (k + 1)))), (0, .ref (G.1 (258))), (1, .int (sI ((xx : Int)))), (2, .int (sI ((nn : Int)))), (5, .int (sI ((k : Int))))] dX7_years_93 (by decide) rfl ?_
            refine at_aload_n C 2 dX7_years_95 rfl ?_
            refine at_iload C 0 dX7_years_96 rfl ?_
            refine at_call_i C (c_X7_isCaller l D G (((lcgN xx (k + 1) / 1048576 % 6) : Nat) : Int) ⟨by omega, by omega⟩ hT15) (As := [.int (sI ((((lcgN xx (k + 1) / 1048576 % 6) : Nat) : Int)))]) (obj_Ref G) (ci := 7) rfl qw_1224 qw_1221 qw_8 qw_1223 qp_73 ⟨by decide, by decide, show (parseMethodDescriptor yX7_isCaller.desc).map (fun d => d.parameters.length) = some 1 by decide +kernel⟩ ⟨by decide, by decide⟩ ⟨Nat.zero_le _, Nat.zero_le _⟩ (Nat.le_of_ble_eq_true rfl) dX7_years_98 rfl (fun r M' L' hp18 => ?_)
            obtain ⟨rfl, rfl, rfl⟩ := hp18
            refine at_if_eqB C 113 dX7_years_101 (by decide) (fun h19 => ?_) (fun h19 => ?_)
            · refine at_iconst C dX7_years_113 ?_
              refine at_istore C [(7, .int (sI (-1))), (6, .int (sI ((((lcgN xx (k + 1) / 1048576 % 6) : Nat) : Int)))), (3, .long (lN (lcgN xx (k + 1)))), (0, .ref (G.1 (258))), (1, .int (sI ((xx : Int)))), (2, .int (sI ((nn : Int)))), (5, .int (sI ((k : Int))))] dX7_years_114 (by decide) rfl ?_
              refine at_iload C 0 dX7_years_116 rfl ?_
              refine at_iconst C dX7_years_118 ?_
              refine at_icmp_eq C 130 dX7_years_119 (by decide) (⟨by omega, by omega⟩) (⟨by omega, by omega⟩) (fun h20 => ?_) (fun h20 => absurd h20 (by omega))
              refine at_iinc C 6 [(5, .int (sI ((k : Int) + 1))), (7, .int (sI (-1))), (6, .int (sI ((((lcgN xx (k + 1) / 1048576 % 6) : Nat) : Int)))), (3, .long (lN (lcgN xx (k + 1)))), (0, .ref (G.1 (258))), (1, .int (sI ((xx : Int)))), (2, .int (sI ((nn : Int))))] dX7_years_130 rfl (by decide) rfl ?_
              refine at_goto C 46 dX7_years_133 (by decide) ?_
              refine at_lv [4, 5, 6, 3, 0] rfl ?_
              exact at_eq (ih46 (k + 1) (by omega) (by omega) (TInv_e (N := qYIt (qY0 M) xx (k + 1)) (qy_n (fun z => by have z1 := z.1; have z2 := z.2; omega)) hT15)) (lvc_s (lvc_s (lvc_s (lvc_s (lvc_i (by omega) rfl))))) rfl (qy_n (fun z => by have z1 := z.1; have z2 := z.2; omega)) (rfl)
            · refine at_aload_n C 2 dX7_years_104 rfl ?_
              refine at_iload C 0 dX7_years_105 rfl ?_
              refine at_call_i C (c_X7_wouldTake l D G (lcgN xx (k + 1) / 1048576 % 6) (by omega) hT15) (As := [.int (sI ((((lcgN xx (k + 1) / 1048576 % 6) : Nat) : Int)))]) (obj_Ref G) (ci := 7) rfl qw_1140 qw_1137 qw_8 qw_1139 qp_58 ⟨by decide, by decide, show (parseMethodDescriptor yX7_wouldTake.desc).map (fun d => d.parameters.length) = some 1 by decide +kernel⟩ ⟨by decide, by decide⟩ ⟨Nat.zero_le _, Nat.zero_le _⟩ (Nat.le_of_ble_eq_true rfl) dX7_years_107 rfl (fun r M' L' hp23 => ?_)
              obtain ⟨rfl, rfl, rfl⟩ := hp23
              have hb21 := qCho_r (qGo (qYIt (qY0 M) xx k) ((((lcgN xx (k + 1) / 65536 % 3) : Nat) : Int) - 1)) (lcgN xx (k + 1) / 1048576 % 6)
              have hb22 := qn_r hT15
              refine at_goto C 114 dX7_years_110 (by decide) ?_
              refine at_istore C [(7, .int (sI (qCho (qGo (qYIt (qY0 M) xx k) ((((lcgN xx (k + 1) / 65536 % 3) : Nat) : Int) - 1)) (lcgN xx (k + 1) / 1048576 % 6)))), (6, .int (sI ((((lcgN xx (k + 1) / 1048576 % 6) : Nat) : Int)))), (3, .long (lN (lcgN xx (k + 1)))), (0, .ref (G.1 (258))), (1, .int (sI ((xx : Int)))), (2, .int (sI ((nn : Int)))), (5, .int (sI ((k : Int))))] dX7_years_114 (by decide) rfl ?_
              refine at_iload C 0 dX7_years_116 rfl ?_
              refine at_iconst C dX7_years_118 ?_
              refine at_icmp_eq C 130 dX7_years_119 (by decide) (⟨by omega, by omega⟩) (⟨by omega, by omega⟩) (fun h24 => ?_) (fun h24 => ?_)
              · refine at_iinc C 6 [(5, .int (sI ((k : Int) + 1))), (7, .int (sI (qCho (qGo (qYIt (qY0 M) xx k) ((((lcgN xx (k + 1) / 65536 % 3) : Nat) : Int) - 1)) (lcgN xx (k + 1) / 1048576 % 6)))), (6, .int (sI ((((lcgN xx (k + 1) / 1048576 % 6) : Nat) : Int)))), (3, .long (lN (lcgN xx (k + 1)))), (0, .ref (G.1 (258))), (1, .int (sI ((xx : Int)))), (2, .int (sI ((nn : Int))))] dX7_years_130 rfl (by decide) rfl ?_
                refine at_goto C 46 dX7_years_133 (by decide) ?_
                refine at_lv [4, 5, 6, 3, 0] rfl ?_
                exact at_eq (ih46 (k + 1) (by omega) (by omega) (TInv_e (N := qYIt (qY0 M) xx (k + 1)) (qy_n (fun z => by have z1 := z.1; have z2 := z.2; omega)) hT15)) (lvc_s (lvc_s (lvc_s (lvc_s (lvc_i (by omega) rfl))))) rfl (qy_n (fun z => by have z1 := z.1; have z2 := z.2; omega)) (rfl)
              · refine at_aload_n C 3 dX7_years_122 rfl ?_
                refine at_iload C 1 dX7_years_123 rfl ?_
                refine at_iload C 0 dX7_years_125 rfl ?_
                refine at_ve (b := (((qCho (qGo (qYIt (qY0 M) xx k) ((((lcgN xx (k + 1) / 65536 % 3) : Nat) : Int) - 1)) (lcgN xx (k + 1) / 1048576 % 6)).toNat : Nat) : Int)) (by omega) ?_
                refine at_call_v C (c_X7_takesOne l D G (lcgN xx (k + 1) / 1048576 % 6) ((qCho (qGo (qYIt (qY0 M) xx k) ((((lcgN xx (k + 1) / 65536 % 3) : Nat) : Int) - 1)) (lcgN xx (k + 1) / 1048576 % 6)).toNat) (by omega) (by omega) hT15) (As := [.int (sI ((((lcgN xx (k + 1) / 1048576 % 6) : Nat) : Int))), .int (sI ((((qCho (qGo (qYIt (qY0 M) xx k) ((((lcgN xx (k + 1) / 65536 % 3) : Nat) : Int) - 1)) (lcgN xx (k + 1) / 1048576 % 6)).toNat : Nat) : Int)))]) (obj_Ref G) (ci := 7) rfl qw_1184 qw_1181 qw_8 qw_1183 qp_66 ⟨by decide, by decide, show (parseMethodDescriptor yX7_takesOne.desc).map (fun d => d.parameters.length) = some 2 by decide +kernel⟩ ⟨by decide, by decide⟩ ⟨Nat.zero_le _, Nat.zero_le _⟩ (Nat.le_of_ble_eq_true rfl) dX7_years_127 rfl (fun M' L' hp26 => ?_)
                obtain ⟨rfl, hT25, rfl⟩ := hp26
                refine at_iinc C 6 [(5, .int (sI ((k : Int) + 1))), (7, .int (sI (qCho (qGo (qYIt (qY0 M) xx k) ((((lcgN xx (k + 1) / 65536 % 3) : Nat) : Int) - 1)) (lcgN xx (k + 1) / 1048576 % 6)))), (6, .int (sI ((((lcgN xx (k + 1) / 1048576 % 6) : Nat) : Int)))), (3, .long (lN (lcgN xx (k + 1)))), (0, .ref (G.1 (258))), (1, .int (sI ((xx : Int)))), (2, .int (sI ((nn : Int))))] dX7_years_130 rfl (by decide) rfl ?_
                refine at_goto C 46 dX7_years_133 (by decide) ?_
                refine at_lv [4, 5, 6, 3, 0] rfl ?_
                exact at_eq (ih46 (k + 1) (by omega) (by omega) (TInv_e (N := qYIt (qY0 M) xx (k + 1)) (qy_y (by omega) (by omega)) hT25)) (lvc_s (lvc_s (lvc_s (lvc_s (lvc_i (by omega) rfl))))) rfl (qy_y (by omega) (by omega)) (rfl)
      refine at_lv [2, 3, 4, 1, 0] rfl ?_
      exact at_eq (H46 _ 0 (Nat.lt_succ_self _) (by omega) (hT9)) (lvc_s (lvc_s (lvc_s (lvc_l (by rw [show sI (xx : Int) = nI xx from sI_nI xx, nI_l (by omega)]; rfl) (lvc_i (rfl) rfl))))) rfl (rfl) (rfl)
    · refine at_aload_n C 0 dX7_years_21 rfl ?_
      refine at_call_i C (c_X7_bad l D G hT ⟨by omega, by omega, by omega⟩) (As := []) (obj_Ref G) (ci := 7) rfl qw_1012 qw_1009 qw_8 qw_1011 qp_34 ⟨by decide, by decide, show (parseMethodDescriptor yX7_bad.desc).map (fun d => d.parameters.length) = some 0 by decide +kernel⟩ ⟨by decide, by decide⟩ ⟨Nat.zero_le _, Nat.zero_le _⟩ (Nat.le_of_ble_eq_true rfl) dX7_years_22 rfl (fun r M' L' hp28 => ?_)
      obtain ⟨rfl, rfl, hT27, rfl⟩ := hp28
      exact hret _ _ _ _ _ dX7_years_25 (⟨congrArg sI (if_neg (by first | omega | (simp only [Int.toNat_natCast]; omega))).symm, (if_neg (by first | omega | (simp only [Int.toNat_natCast]; omega))).symm, hT27, rfl⟩)
