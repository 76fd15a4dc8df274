/-! the rows of OrderSearch, gone through: all but the last had another behind them -/
def oRes2 (M : sM) (K : Nat) (M1 : sM) : Prop := oRes M K M1 ∧ ∀ j, j + 1 < K → hasN (rowN (ordR M) (ordN M) j) (ordN M)
set_option maxHeartbeats 4000000 in
set_option maxRecDepth 100000 in
theorem c_X2_find2 (l : Launch) (D : va_G) (G : sG) {M : sM} {L : sL} (hT : TInv M) : sKv l D G yX2_find cX2_find 5 4 91 [.ref (G.1 (253)), .ref (G.1 (1))] M L (fun M' L' => (∃ K, oRes2 M K M') ∧ TInv M' ∧ L = L') := by
  refine sKv_go (by decide) (Nat.le_of_ble_eq_true rfl) ?_
  intro zp ze zs zm za zb zt zc Q C hret
  refine at_eq (lv' := [(0, .ref (G.1 (253))), (1, .ref (G.1 (1)))]) (st' := []) (M' := M) (L' := L) ?_ rfl rfl rfl rfl
  have hn := nS_r hT (Or.inl rfl)
  have hm := nC_r hT (Or.inl rfl)
  have hNr := ordN_r hT
  have hHr := ordH_r hT
  have hin : rIn (ordN M) 6 (mLF M (nC M 1) 254) := fun j hj => by have z := (show rIn (ordN M) (nC M 1) (mLF M (nC M 1) 254) from (show mLF M (nC M 1) 254 = ordR M from sSr_eq) ▸ frR_in (M 254) (bHeld M 1) (nC M 1)) j hj; omega
  refine at_aload_n C 0 dX2_find_0 rfl ?_
  refine at_aload_n C 1 dX2_find_1 rfl ?_
  refine at_call_v C (c_X2_listFree l D G hT) (As := [.ref (G.1 (1))]) (obj_Ord G) (ci := 2) rfl qw_686 qw_683 qw_7 qw_685 qp_20 ⟨by decide, by decide, show (parseMethodDescriptor yX2_listFree.desc).map (fun d => d.parameters.length) = some 1 by decide +kernel⟩ ⟨by decide, by decide⟩ ⟨Nat.zero_le _, Nat.zero_le _⟩ (Nat.le_of_ble_eq_true rfl) dX2_find_2 rfl (fun M' L' hp2 => ?_)
  obtain ⟨rfl, hT1, rfl⟩ := hp2
  refine at_aload_n C 0 dX2_find_5 rfl ?_
  refine at_aload_n C 1 dX2_find_6 rfl ?_
  refine at_call_v C (c_X2_measure l D G (ordN M) (mLF_4 M _) hin hT1) (As := [.ref (G.1 (1))]) (obj_Ord G) (ci := 2) rfl qw_691 qw_688 qw_7 qw_690 qp_21 ⟨by decide, by decide, show (parseMethodDescriptor yX2_measure.desc).map (fun d => d.parameters.length) = some 1 by decide +kernel⟩ ⟨by decide, by decide⟩ ⟨Nat.zero_le _, Nat.zero_le _⟩ (Nat.le_of_ble_eq_true rfl) dX2_find_7 rfl (fun M4 L' hp3 => ?_)
  obtain ⟨hf0, hv0, hT0, rfl⟩ := hp3
  refine at_aload_n C 0 dX2_find_10 rfl ?_
  refine at_iconst C dX2_find_11 ?_
  refine at_putM (slot := 5) (ty := .int) C tyX2 (obj_Ord G) (ci := 2) rfl inX2 tyX2_ok nmX2 (by decide) qw_231 rfl rfl (by decide +kernel) rfl rfl (Nat.le_of_ble_eq_true rfl) rfl dX2_find_12 ?_
  have hT5 : TInv (sSt M4 253 5 (-1)) := tv_st hT0 (k := 253) (j := 5) rfl (⟨by omega, by omega⟩)
  refine at_iconst C dX2_find_15 ?_
  refine at_istore_n C [(2, .int (sI (1))), (0, .ref (G.1 (253))), (1, .ref (G.1 (1)))] dX2_find_16 (by decide) rfl ?_
  refine at_iconst C dX2_find_17 ?_
  refine at_istore_n C [(3, .int (sI (0))), (2, .int (sI (1))), (0, .ref (G.1 (253))), (1, .ref (G.1 (1)))] dX2_find_18 (by decide) rfl ?_
  have H19 : ∀ (fu : Nat) (k : Nat) (b : Int) (M1 : sM), 720 - k < fu → (k ≤ 720) → (TInv M1) → (oI M k M1) → ((b = 1 ∧ M1 254 = rowN (ordR M) (ordN M) k ∧ ∀ j, j < k → hasN (rowN (ordR M) (ordN M) j) (ordN M)) ∨ (b = 0 ∧ 1 ≤ k ∧ (ordH M ≤ mxV (ordV M) k ∨ ¬ hasN (rowN (ordR M) (ordN M) (k - 1)) (ordN M)) ∧ ∀ j, j + 1 < k → hasN (rowN (ordR M) (ordN M) j) (ordN M))) → sAt zp l ze (sRm 4 91) zs zm za zb zt zc D G 5 0 0 Q 19 [(0, .ref (G.1 (253))), (1, .ref (G.1 (1))), (2, .int (sI (b))), (3, .int (sI ((k : Int))))] [] M1 L := by
    intro fu
    induction fu with
    | zero => intro k b M1 hd hk hT1 h1 hb; exact absurd hd (Nat.not_lt_zero _)
    | succ fu ih19 =>
      intro k b M1 hd19 hk hT1 h1 hb
      have hvr := ordV_r hT k
      have hmr := mxV_r (V := ordV M) (fun q => ordV_r hT q) k
      have hmr2 := mxV_r (V := ordV M) (fun q => ordV_r hT q) (k + 1)
      refine at_iload_n C 3 dX2_find_19 rfl ?_
      refine at_sipush C dX2_find_20 (by decide) (by decide) ?_
      refine at_icmp_ge C 98 dX2_find_23 (by decide) (⟨by omega, by omega⟩) (⟨by omega, by omega⟩) (fun h6 => ?_) (fun h6 => ?_)
      · refine at_aload_n C 0 dX2_find_98 rfl ?_
        refine at_dup C dX2_find_99 rfl ?_
        refine at_getf (v := .int (sI (M1 253 5))) C (obj_Ord G) (ci := 2) rfl inX2 (slot := 5) (by decide) qw_231 rfl rfl dX2_find_100 ?_
        have hb7 := tv hT1 (k := 253) (j := 5) rfl
        refine at_ve (b := mxV (ordV M) k) (h1.2.2.2.2.1) ?_
        refine at_aload_n C 1 dX2_find_103 rfl ?_
        refine at_call_i C (c_X0_rightCount l D G (Or.inl rfl) hT1) (As := []) (obj_Bea G (Or.inl rfl)) (ci := 0) rfl qw_674 qw_712 qw_2 qw_672 qw_673 ⟨by decide, by decide, show (parseMethodDescriptor yX0_rightCount.desc).map (fun d => d.parameters.length) = some 0 by decide +kernel⟩ ⟨by decide, by decide⟩ ⟨Nat.zero_le _, Nat.zero_le _⟩ (Nat.le_of_ble_eq_true rfl) dX2_find_104 rfl (fun r M' L' hp8 => ?_)
        obtain ⟨rfl, rfl, rfl⟩ := hp8
        refine at_ve (b := bRig M1 1) rfl ?_
        refine at_ve (b := bRig M 1) (bRig_cg (fun c q1 q2 => h1.1 c (by omega))) ?_
        have hrr : 0 ≤ bRig M 1 ∧ bRig M 1 ≤ nS M 1 := cnt_r _ _
        refine at_iadd C dX2_find_107 ?_
        refine at_putM (slot := 5) (ty := .int) C tyX2 (obj_Ord G) (ci := 2) rfl inX2 tyX2_ok nmX2 (by decide) qw_231 rfl rfl (by decide +kernel) rfl rfl (Nat.le_of_ble_eq_true rfl) rfl dX2_find_108 ?_
        have hT9 : TInv (sSt M1 253 5 ((mxV (ordV M) k) + (bRig M 1))) := tv_st hT1 (k := 253) (j := 5) rfl (⟨by omega, by omega⟩)
        exact hret _ _ _ _ dX2_find_111 (⟨⟨k, oRes_i h1 ⟨by omega, hk, Or.inl (by omega)⟩, fun j hj => by rcases hb with z | z; exact z.2.2 j (by omega); exact z.2.2.2 j hj⟩, hT9, rfl⟩)
      · refine at_iload_n C 2 dX2_find_26 rfl ?_
        refine at_if_eq C 98 dX2_find_27 (by decide) (⟨by omega, by omega⟩) (fun h10 => ?_) (fun h10 => ?_)
        · refine at_aload_n C 0 dX2_find_98 rfl ?_
          refine at_dup C dX2_find_99 rfl ?_
          refine at_getf (v := .int (sI (M1 253 5))) C (obj_Ord G) (ci := 2) rfl inX2 (slot := 5) (by decide) qw_231 rfl rfl dX2_find_100 ?_
          have hb11 := tv hT1 (k := 253) (j := 5) rfl
          refine at_ve (b := mxV (ordV M) k) (h1.2.2.2.2.1) ?_
          refine at_aload_n C 1 dX2_find_103 rfl ?_
          refine at_call_i C (c_X0_rightCount l D G (Or.inl rfl) hT1) (As := []) (obj_Bea G (Or.inl rfl)) (ci := 0) rfl qw_674 qw_712 qw_2 qw_672 qw_673 ⟨by decide, by decide, show (parseMethodDescriptor yX0_rightCount.desc).map (fun d => d.parameters.length) = some 0 by decide +kernel⟩ ⟨by decide, by decide⟩ ⟨Nat.zero_le _, Nat.zero_le _⟩ (Nat.le_of_ble_eq_true rfl) dX2_find_104 rfl (fun r M' L' hp12 => ?_)
          obtain ⟨rfl, rfl, rfl⟩ := hp12
          refine at_ve (b := bRig M1 1) rfl ?_
          refine at_ve (b := bRig M 1) (bRig_cg (fun c q1 q2 => h1.1 c (by omega))) ?_
          have hrr : 0 ≤ bRig M 1 ∧ bRig M 1 ≤ nS M 1 := cnt_r _ _
          refine at_iadd C dX2_find_107 ?_
          refine at_putM (slot := 5) (ty := .int) C tyX2 (obj_Ord G) (ci := 2) rfl inX2 tyX2_ok nmX2 (by decide) qw_231 rfl rfl (by decide +kernel) rfl rfl (Nat.le_of_ble_eq_true rfl) rfl dX2_find_108 ?_
          have hT13 : TInv (sSt M1 253 5 ((mxV (ordV M) k) + (bRig M 1))) := tv_st hT1 (k := 253) (j := 5) rfl (⟨by omega, by omega⟩)
          exact hret _ _ _ _ dX2_find_111 (⟨⟨k, oRes_i h1 ⟨by (rcases hb with z | z); omega; exact z.2.1, hk, by rcases hb with z | z; (exfalso; omega); exact Or.inr z.2.2.1⟩, fun j hj => by rcases hb with z | z; exact z.2.2 j (by omega); exact z.2.2.2 j hj⟩, hT13, rfl⟩)
        · have hr : M1 254 = rowN (ordR M) (ordN M) k := by rcases hb with z | z; exact z.2.1; omega
          have hall : ∀ j, j < k → hasN (rowN (ordR M) (ordN M) j) (ordN M) := by rcases hb with z | z; exact z.2.2; omega
          refine at_aload_n C 0 dX2_find_30 rfl ?_
          refine at_call_i C (c_X2_ownBehindRow l D G (ordN M) h1.2.2.1 hT1) (As := []) (obj_Ord G) (ci := 2) rfl qw_698 qw_695 qw_7 qw_697 qp_22 ⟨by decide, by decide, show (parseMethodDescriptor yX2_ownBehindRow.desc).map (fun d => d.parameters.length) = some 0 by decide +kernel⟩ ⟨by decide, by decide⟩ ⟨Nat.zero_le _, Nat.zero_le _⟩ (Nat.le_of_ble_eq_true rfl) dX2_find_31 rfl (fun r M' L' hp14 => ?_)
          obtain ⟨rfl, rfl, rfl⟩ := hp14
          refine at_ve (b := ordV M k) (oI_v hT h1 hr) ?_
          refine at_istore C [(4, .int (sI (ordV M k))), (0, .ref (G.1 (253))), (1, .ref (G.1 (1))), (2, .int (sI (b))), (3, .int (sI ((k : Int))))] dX2_find_34 (by decide) rfl ?_
          refine at_iload C 0 dX2_find_36 rfl ?_
          refine at_aload_n C 1 dX2_find_38 rfl ?_
          refine at_getf (v := .int (sI (M1 253 5))) C (obj_Ord G) (ci := 2) rfl inX2 (slot := 5) (by decide) qw_231 rfl rfl dX2_find_39 ?_
          have hb15 := tv hT1 (k := 253) (j := 5) rfl
          refine at_ve (b := mxV (ordV M) k) (h1.2.2.2.2.1) ?_
          refine at_icmp_le C 68 dX2_find_42 (by decide) (⟨by omega, by omega⟩) (⟨by omega, by omega⟩) (fun h16 => ?_) (fun h16 => ?_)
          · have h2 : oI M (k + 1) M1 := oI_n hT h1 (by omega)
            have hr2 : M1 254 = rowN (ordR M) (ordN M) k := hr
            refine at_aload_n C 1 dX2_find_68 rfl ?_
            refine at_getf (v := .int (sI (M1 253 5))) C (obj_Ord G) (ci := 2) rfl inX2 (slot := 5) (by decide) qw_231 rfl rfl dX2_find_69 ?_
            have hb17 := tv hT1 (k := 253) (j := 5) rfl
            refine at_ve (b := mxV (ordV M) (k + 1)) (h2.2.2.2.2.1) ?_
            refine at_aload_n C 1 dX2_find_72 rfl ?_
            refine at_getf (v := .int (sI (M1 253 6))) C (obj_Ord G) (ci := 2) rfl inX2 (slot := 6) (by decide) qw_233 rfl rfl dX2_find_73 ?_
            have hb18 := tv hT1 (k := 253) (j := 6) rfl
            refine at_ve (b := ordH M) (h2.2.2.2.1) ?_
            refine at_icmp_ge C 90 dX2_find_76 (by decide) (⟨by omega, by omega⟩) (⟨by omega, by omega⟩) (fun h19 => ?_) (fun h19 => ?_)
            · refine at_iconst C dX2_find_90 ?_
              refine at_istore_n C [(2, .int (sI (0))), (4, .int (sI (ordV M k))), (0, .ref (G.1 (253))), (1, .ref (G.1 (1))), (3, .int (sI ((k : Int))))] dX2_find_91 (by decide) rfl ?_
              refine at_iinc C 4 [(3, .int (sI ((k : Int) + 1))), (2, .int (sI (0))), (4, .int (sI (ordV M k))), (0, .ref (G.1 (253))), (1, .ref (G.1 (1)))] dX2_find_92 rfl (by decide) rfl ?_
              refine at_goto C 19 dX2_find_95 (by decide) ?_
              refine at_lv [3, 4, 1, 0] rfl ?_
              exact at_eq (ih19 (k + 1) 0 M1 (by omega) (by omega) (hT1) (h2) (Or.inr ⟨rfl, by omega, Or.inl (by omega), fun j hj => hall j (by omega)⟩)) (lvc_s (lvc_s (lvc_s (lvc_i (by omega) rfl)))) rfl (rfl) (rfl)
            · refine at_aload_n C 1 dX2_find_79 rfl ?_
              refine at_call_i C (c_X2_nextRow l D G (ordN M) h2.2.2.1 hT1) (As := []) (obj_Ord G) (ci := 2) rfl qw_707 qw_704 qw_7 qw_706 qp_24 ⟨by decide, by decide, show (parseMethodDescriptor yX2_nextRow.desc).map (fun d => d.parameters.length) = some 0 by decide +kernel⟩ ⟨by decide, by decide⟩ ⟨Nat.zero_le _, Nat.zero_le _⟩ (Nat.le_of_ble_eq_true rfl) dX2_find_80 rfl (fun r M21 L' hp20 => ?_)
              obtain ⟨rfl, hM3, hT3, rfl⟩ := hp20
              refine at_if_eqB C 90 dX2_find_83 (by decide) (fun h22 => ?_) (fun h22 => ?_)
              · refine at_iconst C dX2_find_90 ?_
                refine at_istore_n C [(2, .int (sI (0))), (4, .int (sI (ordV M k))), (0, .ref (G.1 (253))), (1, .ref (G.1 (1))), (3, .int (sI ((k : Int))))] dX2_find_91 (by decide) rfl ?_
                refine at_iinc C 4 [(3, .int (sI ((k : Int) + 1))), (2, .int (sI (0))), (4, .int (sI (ordV M k))), (0, .ref (G.1 (253))), (1, .ref (G.1 (1)))] dX2_find_92 rfl (by decide) rfl ?_
                refine at_goto C 19 dX2_find_95 (by decide) ?_
                refine at_lv [3, 4, 1, 0] rfl ?_
                exact at_eq (ih19 (k + 1) 0 M21 (by omega) (by omega) (hT3) (by rw [hM3, if_neg (by assumption)]; exact h2) (Or.inr ⟨rfl, by omega, Or.inr (by rw [show k + 1 - 1 = k by omega, ← hr2]; assumption), fun j hj => hall j (by omega)⟩)) (lvc_s (lvc_s (lvc_s (lvc_i (by omega) rfl)))) rfl (rfl) (rfl)
              · refine at_iconst C dX2_find_86 ?_
                refine at_goto C 91 dX2_find_87 (by decide) ?_
                refine at_istore_n C [(2, .int (sI (1))), (4, .int (sI (ordV M k))), (0, .ref (G.1 (253))), (1, .ref (G.1 (1))), (3, .int (sI ((k : Int))))] dX2_find_91 (by decide) rfl ?_
                refine at_iinc C 4 [(3, .int (sI ((k : Int) + 1))), (2, .int (sI (1))), (4, .int (sI (ordV M k))), (0, .ref (G.1 (253))), (1, .ref (G.1 (1)))] dX2_find_92 rfl (by decide) rfl ?_
                refine at_goto C 19 dX2_find_95 (by decide) ?_
                refine at_lv [3, 4, 1, 0] rfl ?_
                exact at_eq (ih19 (k + 1) 1 M21 (by omega) (by omega) (hT3) (by rw [hM3, if_pos (by assumption)]; exact oI_r h2 _) (Or.inl ⟨rfl, by rw [hM3, if_pos (by assumption), sSr_eq, hr2]; rfl, fun j hj => by rcases Nat.lt_succ_iff_lt_or_eq.mp hj with y | y; exact hall j y; (rw [y, ← hr2]; assumption)⟩)) (lvc_s (lvc_s (lvc_s (lvc_i (by omega) rfl)))) rfl (rfl) (rfl)
          · refine at_aload_n C 1 dX2_find_45 rfl ?_
            refine at_iload C 0 dX2_find_46 rfl ?_
            refine at_putM (slot := 5) (ty := .int) C tyX2 (obj_Ord G) (ci := 2) rfl inX2 tyX2_ok nmX2 (by decide) qw_231 rfl rfl (by decide +kernel) rfl rfl (Nat.le_of_ble_eq_true rfl) rfl dX2_find_48 ?_
            have hT23 : TInv (sSt M1 253 5 (ordV M k)) := tv_st hT1 (k := 253) (j := 5) rfl (⟨by omega, by omega⟩)
            refine at_aload_n C 1 dX2_find_51 rfl ?_
            refine at_getf (v := .ref (G.1 (254))) C (obj_Ord G) (ci := 2) rfl inX2 (slot := 0) (by decide) qw_224 rfl rfl dX2_find_52 ?_
            refine at_iconst C dX2_find_55 ?_
            refine at_aload_n C 1 dX2_find_56 rfl ?_
            refine at_getf (v := .ref (G.1 (255))) C (obj_Ord G) (ci := 2) rfl inX2 (slot := 1) (by decide) qw_225 rfl rfl dX2_find_57 ?_
            refine at_iconst C dX2_find_60 ?_
            refine at_aload_n C 1 dX2_find_61 rfl ?_
            refine at_getf (v := .int (sI ((sSt M1 253 5 (ordV M k)) 253 4))) C (obj_Ord G) (ci := 2) rfl inX2 (slot := 4) (by decide) qw_229 rfl rfl dX2_find_62 ?_
            have hb24 := tv hT23 (k := 253) (j := 4) rfl
            refine at_ve (b := (((ordN M) : Nat) : Int)) (by rw [sSt_nj (by decide)]; exact h1.2.2.1) ?_
            refine at_copyI C 0 0 (ordN M) qw_703 (ar_254 G) (ar_255 G) (rfl) (rfl) (by omega) (by omega) (by omega) ⟨by decide, Nat.le_of_ble_eq_true rfl⟩ dX2_find_65 ?_
            have hT25 : TInv (sCpy (sSt M1 253 5 (ordV M k)) 254 255 0 0 (ordN M)) := tv_cpy hT23 (fun i hi => by rfl)
            have h2 : oI M (k + 1) (sCpy (sSt M1 253 5 (ordV M k)) 254 255 0 0 (ordN M)) := oI_y h1 hr (by omega)
            have hr2 : (sCpy (sSt M1 253 5 (ordV M k)) 254 255 0 0 (ordN M)) 254 = rowN (ordR M) (ordN M) k := by rw [sCpy_ne (by decide), sSt_ne (by decide)]; exact hr
            refine at_aload_n C 1 dX2_find_68 rfl ?_
            refine at_getf (v := .int (sI ((sCpy (sSt M1 253 5 (ordV M k)) 254 255 0 0 (ordN M)) 253 5))) C (obj_Ord G) (ci := 2) rfl inX2 (slot := 5) (by decide) qw_231 rfl rfl dX2_find_69 ?_
            have hb26 := tv hT25 (k := 253) (j := 5) rfl
            refine at_ve (b := mxV (ordV M) (k + 1)) (h2.2.2.2.2.1) ?_
            refine at_aload_n C 1 dX2_find_72 rfl ?_
            refine at_getf (v := .int (sI ((sCpy (sSt M1 253 5 (ordV M k)) 254 255 0 0 (ordN M)) 253 6))) C (obj_Ord G) (ci := 2) rfl inX2 (slot := 6) (by decide) qw_233 rfl rfl dX2_find_73 ?_
            have hb27 := tv hT25 (k := 253) (j := 6) rfl
            refine at_ve (b := ordH M) (h2.2.2.2.1) ?_
            refine at_icmp_ge C 90 dX2_find_76 (by decide) (⟨by omega, by omega⟩) (⟨by omega, by omega⟩) (fun h28 => ?_) (fun h28 => ?_)
            · refine at_iconst C dX2_find_90 ?_
              refine at_istore_n C [(2, .int (sI (0))), (4, .int (sI (ordV M k))), (0, .ref (G.1 (253))), (1, .ref (G.1 (1))), (3, .int (sI ((k : Int))))] dX2_find_91 (by decide) rfl ?_
              refine at_iinc C 4 [(3, .int (sI ((k : Int) + 1))), (2, .int (sI (0))), (4, .int (sI (ordV M k))), (0, .ref (G.1 (253))), (1, .ref (G.1 (1)))] dX2_find_92 rfl (by decide) rfl ?_
              refine at_goto C 19 dX2_find_95 (by decide) ?_
              refine at_lv [3, 4, 1, 0] rfl ?_
              exact at_eq (ih19 (k + 1) 0 (sCpy (sSt M1 253 5 (ordV M k)) 254 255 0 0 (ordN M)) (by omega) (by omega) (hT25) (h2) (Or.inr ⟨rfl, by omega, Or.inl (by omega), fun j hj => hall j (by omega)⟩)) (lvc_s (lvc_s (lvc_s (lvc_i (by omega) rfl)))) rfl (rfl) (rfl)
            · refine at_aload_n C 1 dX2_find_79 rfl ?_
              refine at_call_i C (c_X2_nextRow l D G (ordN M) h2.2.2.1 hT25) (As := []) (obj_Ord G) (ci := 2) rfl qw_707 qw_704 qw_7 qw_706 qp_24 ⟨by decide, by decide, show (parseMethodDescriptor yX2_nextRow.desc).map (fun d => d.parameters.length) = some 0 by decide +kernel⟩ ⟨by decide, by decide⟩ ⟨Nat.zero_le _, Nat.zero_le _⟩ (Nat.le_of_ble_eq_true rfl) dX2_find_80 rfl (fun r M30 L' hp29 => ?_)
              obtain ⟨rfl, hM3, hT3, rfl⟩ := hp29
              refine at_if_eqB C 90 dX2_find_83 (by decide) (fun h31 => ?_) (fun h31 => ?_)
              · refine at_iconst C dX2_find_90 ?_
                refine at_istore_n C [(2, .int (sI (0))), (4, .int (sI (ordV M k))), (0, .ref (G.1 (253))), (1, .ref (G.1 (1))), (3, .int (sI ((k : Int))))] dX2_find_91 (by decide) rfl ?_
                refine at_iinc C 4 [(3, .int (sI ((k : Int) + 1))), (2, .int (sI (0))), (4, .int (sI (ordV M k))), (0, .ref (G.1 (253))), (1, .ref (G.1 (1)))] dX2_find_92 rfl (by decide) rfl ?_
                refine at_goto C 19 dX2_find_95 (by decide) ?_
                refine at_lv [3, 4, 1, 0] rfl ?_
                exact at_eq (ih19 (k + 1) 0 M30 (by omega) (by omega) (hT3) (by rw [hM3, if_neg (by assumption)]; exact h2) (Or.inr ⟨rfl, by omega, Or.inr (by rw [show k + 1 - 1 = k by omega, ← hr2]; assumption), fun j hj => hall j (by omega)⟩)) (lvc_s (lvc_s (lvc_s (lvc_i (by omega) rfl)))) rfl (rfl) (rfl)
              · refine at_iconst C dX2_find_86 ?_
                refine at_goto C 91 dX2_find_87 (by decide) ?_
                refine at_istore_n C [(2, .int (sI (1))), (4, .int (sI (ordV M k))), (0, .ref (G.1 (253))), (1, .ref (G.1 (1))), (3, .int (sI ((k : Int))))] dX2_find_91 (by decide) rfl ?_
                refine at_iinc C 4 [(3, .int (sI ((k : Int) + 1))), (2, .int (sI (1))), (4, .int (sI (ordV M k))), (0, .ref (G.1 (253))), (1, .ref (G.1 (1)))] dX2_find_92 rfl (by decide) rfl ?_
                refine at_goto C 19 dX2_find_95 (by decide) ?_
                refine at_lv [3, 4, 1, 0] rfl ?_
                exact at_eq (ih19 (k + 1) 1 M30 (by omega) (by omega) (hT3) (by rw [hM3, if_pos (by assumption)]; exact oI_r h2 _) (Or.inl ⟨rfl, by rw [hM3, if_pos (by assumption), sSr_eq, hr2]; rfl, fun j hj => by rcases Nat.lt_succ_iff_lt_or_eq.mp hj with y | y; exact hall j y; (rw [y, ← hr2]; assumption)⟩)) (lvc_s (lvc_s (lvc_s (lvc_i (by omega) rfl)))) rfl (rfl) (rfl)
  refine at_lv [2, 3, 1, 0] rfl ?_
  exact at_eq (H19 _ 0 1 (sSt M4 253 5 (-1)) (Nat.lt_succ_self _) (by omega) (hT5) ((oI_0 hT hf0 hv0).1) (Or.inl ⟨rfl, (oI_0 hT hf0 hv0).2, fun j hj => absurd hj (Nat.not_lt_zero j)⟩)) (lvc_s (lvc_s (lvc_s (lvc_i (rfl) rfl)))) rfl (rfl) (rfl)

set_option maxHeartbeats 4000000 in
set_option maxRecDepth 100000 in
theorem c_X6_order2 (l : Launch) (D : va_G) (G : sG) {M : sM} {L : sL} (k : Int) (hkr : InR k) (hT : TInv M) (hc : sCt M) : sKi l D G yX6_order cX6_order 2 .int 5 115 [.ref (G.1 (0)), .int (sI (k))] M L (fun r M' L' => (k < -1 → r = sI (-10) ∧ M' = sBad M) ∧ (-1 ≤ k → ∃ K, oRes2 M K M' ∧ r = sI (if k = -1 then mxV (ordV M) K + bRig M 1 else if k < ordN M then rowN (ordR M) (ordN M) (mxI (ordV M) K) k.toNat else -5)) ∧ TInv M' ∧ L = L') := by
  refine sKi_go (by decide) (Nat.le_of_ble_eq_true rfl) ?_
  intro zp ze zs zm za zb zt zc Q C hret
  refine at_eq (lv' := [(0, .ref (G.1 (0))), (1, .int (sI (k)))]) (st' := []) (M' := M) (L' := L) ?_ rfl rfl rfl rfl
  have hNr := ordN_r hT
  refine at_iload_n C 1 dX6_order_0 rfl ?_
  refine at_iconst C dX6_order_1 ?_
  refine at_icmp_ge C 12 dX6_order_2 (by decide) (⟨by omega, by omega⟩) (⟨by omega, by omega⟩) (fun h1 => ?_) (fun h1 => ?_)
  · refine at_aload_n C 0 dX6_order_12 rfl ?_
    refine at_getf (v := .ref (G.1 (253))) C (obj_Sho G) (ci := 6) rfl inX6 (slot := 6) (by decide) qw_255 rfl rfl dX6_order_13 ?_
    refine at_aload_n C 0 dX6_order_16 rfl ?_
    refine at_getf (v := .ref (G.1 (1))) C (obj_Sho G) (ci := 6) rfl inX6 (slot := 0) (by decide) qw_249 rfl rfl dX6_order_17 ?_
    refine at_call_v C (c_X2_find2 l D G hT) (As := [.ref (G.1 (1))]) (obj_Ord G) (ci := 2) rfl qw_682 qw_679 qw_7 qw_680 qw_681 ⟨by decide, by decide, show (parseMethodDescriptor yX2_find.desc).map (fun d => d.parameters.length) = some 1 by decide +kernel⟩ ⟨by decide, by decide⟩ ⟨Nat.zero_le _, Nat.zero_le _⟩ (Nat.le_of_ble_eq_true rfl) dX6_order_20 rfl (fun M3 L' hp2 => ?_)
    obtain ⟨⟨K, hK⟩, hT1, rfl⟩ := hp2
    refine at_iload_n C 1 dX6_order_23 rfl ?_
    refine at_iconst C dX6_order_24 ?_
    refine at_icmp_ne C 36 dX6_order_25 (by decide) (⟨by omega, by omega⟩) (⟨by omega, by omega⟩) (fun h4 => ?_) (fun h4 => ?_)
    · refine at_iload_n C 1 dX6_order_36 rfl ?_
      refine at_aload_n C 0 dX6_order_37 rfl ?_
      refine at_getf (v := .ref (G.1 (253))) C (obj_Sho G) (ci := 6) rfl inX6 (slot := 6) (by decide) qw_255 rfl rfl dX6_order_38 ?_
      refine at_getf (v := .int (sI (M3 253 4))) C (obj_Ord G) (ci := 2) rfl inX2 (slot := 4) (by decide) qw_230 rfl rfl dX6_order_41 ?_
      have hb5 := tv hT1 (k := 253) (j := 4) rfl
      refine at_ve (b := (((ordN M) : Nat) : Int)) (hK.1.2.2.1) ?_
      refine at_icmp_ge C 59 dX6_order_44 (by decide) (⟨by omega, by omega⟩) (⟨by omega, by omega⟩) (fun h6 => ?_) (fun h6 => ?_)
      · refine at_bipush C dX6_order_59 (by decide) (by decide) ?_
        exact hret _ _ _ _ _ dX6_order_61 (⟨fun z => by omega, fun _ => ⟨K, hK, congrArg sI (((if_neg (by omega)).trans (if_neg (by omega))).symm)⟩, hT1, rfl⟩)
      · refine at_aload_n C 0 dX6_order_47 rfl ?_
        refine at_getf (v := .ref (G.1 (253))) C (obj_Sho G) (ci := 6) rfl inX6 (slot := 6) (by decide) qw_255 rfl rfl dX6_order_48 ?_
        refine at_getf (v := .ref (G.1 (255))) C (obj_Ord G) (ci := 2) rfl inX2 (slot := 1) (by decide) qw_226 rfl rfl dX6_order_51 ?_
        refine at_iload_n C 1 dX6_order_54 rfl ?_
        refine at_iald C ((k).toNat) (ar_255 G) (by omega) (by omega) dX6_order_55 ?_
        have hb7 := tv hT1 (k := 255) (j := ((k).toNat)) rfl
        refine at_ve (b := rowN (ordR M) (ordN M) (mxI (ordV M) K) k.toNat) (hK.1.2.2.2.2 _ (by omega)) ?_
        refine at_goto C 61 dX6_order_56 (by decide) ?_
        exact hret _ _ _ _ _ dX6_order_61 (⟨fun z => by omega, fun _ => ⟨K, hK, congrArg sI (((if_neg (by omega)).trans (if_pos (by omega))).symm)⟩, hT1, rfl⟩)
    · refine at_aload_n C 0 dX6_order_28 rfl ?_
      refine at_getf (v := .ref (G.1 (253))) C (obj_Sho G) (ci := 6) rfl inX6 (slot := 6) (by decide) qw_255 rfl rfl dX6_order_29 ?_
      refine at_getf (v := .int (sI (M3 253 5))) C (obj_Ord G) (ci := 2) rfl inX2 (slot := 5) (by decide) qw_232 rfl rfl dX6_order_32 ?_
      have hb8 := tv hT1 (k := 253) (j := 5) rfl
      refine at_ve (b := mxV (ordV M) K + bRig M 1) (hK.1.2.2.2.1) ?_
      exact hret _ _ _ _ _ dX6_order_35 (⟨fun z => by omega, fun _ => ⟨K, hK, congrArg sI ((if_pos (by omega)).symm)⟩, hT1, rfl⟩)
  · refine at_aload_n C 0 dX6_order_5 rfl ?_
    refine at_bipush C dX6_order_6 (by decide) (by decide) ?_
    refine at_call_i C (c_X6_refuseBad l D G (-10) hT ⟨by omega, by omega, by omega⟩) (As := [.int (sI (-10))]) (obj_Sho G) (ci := 6) rfl qw_311 qw_308 qw_1 qw_310 qp_0 ⟨by decide, by decide, show (parseMethodDescriptor yX6_refuseBad.desc).map (fun d => d.parameters.length) = some 1 by decide +kernel⟩ ⟨by decide, by decide⟩ ⟨Nat.zero_le _, Nat.zero_le _⟩ (Nat.le_of_ble_eq_true rfl) dX6_order_8 rfl (fun r M' L' hp10 => ?_)
    obtain ⟨rfl, rfl, hT9, rfl⟩ := hp10
    exact hret _ _ _ _ _ dX6_order_11 (⟨fun _ => ⟨rfl, rfl⟩, fun z => by omega, hT9, rfl⟩)
