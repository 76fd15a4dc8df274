theorem nU_r {M : sM} {o : Nat} (hT : TInv M) (ho : isB o) : nU M o ≤ 8 ∧ M o 11 = (nU M o : Int) := by
  have := tv_undos hT ho
  unfold nU
  omega
theorem remE {M : sM} {o : Nat} : sSt (mCp (sSt (shf M o 8) o 11 7) (o + 16 + 4 * 7) (o + 5)) o 11 (7 + 1) = sSt (mCp (shf M o 8) (o + 16 + 4 * 7) (o + 5)) o 11 8 := by
  have e : ∀ c j, ¬ (c = o ∧ j = 11) → sSt (shf M o 8) o 11 7 c j = shf M o 8 c j := fun c j h => by rw [sSt_at, if_neg h]
  funext c j
  rw [sSt_at, sSt_at, mCp_at, mCp_at]
  by_cases h1 : c = o ∧ j = 11
  · rw [if_pos h1, if_pos h1]; rfl
  · rw [if_neg h1, if_neg h1, e _ _ h1, e _ _ (by omega)]
theorem bcp_eq {M : sM} {a b : Nat} {P R : Nat → Prop} [DecidablePred P] [DecidablePred R] (h : ∀ x, P x ↔ R x) : bcp M a b P = bcp M a b R := by
  funext c
  unfold bcp
  exact if_congr' (by rw [h])
theorem bcp_mom' {M : sM} {a b u : Nat} {P R : Nat → Prop} [DecidablePred P] [DecidablePred R] (hab : a + 48 ≤ b ∨ b + 48 ≤ a) (hu : u < 8) (hP : ∀ x, 16 + 4 * u ≤ x → x < 16 + 4 * u + 4 → ¬ P x) (hR : ∀ x, R x ↔ P x ∨ (16 + 4 * u ≤ x ∧ x < 16 + 4 * u + 4)) : mCp (bcp M a b P) (a + 16 + 4 * u) (b + 16 + 4 * u) = bcp M a b R := by
  have := bcp_mom (M := M) (i := 16 + 4 * u) hab (by omega) hP hR (by omega)
  rw [show a + 16 + 4 * u = a + (16 + 4 * u) by omega, show b + 16 + 4 * u = b + (16 + 4 * u) by omega]
  exact this
set_option maxHeartbeats 4000000 in
set_option maxRecDepth 100000 in
theorem c_X0_remember (l : Launch) (D : va_G) (G : sG) {M : sM} {L : sL} {o : Nat} (ho : isB o) (hT : TInv M) : sKv l D G yX0_remember cX0_remember 2 2 61 [.ref (G.1 (o))] M L (fun M' L' => M' = bRem M o ∧ TInv M' ∧ L = L') := by
  refine sKv_go (by decide) (Nat.le_of_ble_eq_true rfl) ?_
  intro zp ze zs zm za zb zt zc Q C hret
  refine at_eq (lv' := [(0, .ref (G.1 (o)))]) (st' := []) (M' := M) (L' := L) ?_ rfl rfl rfl rfl
  have hnu := nU_r hT ho
  refine at_aload_n C 0 dX0_remember_0 rfl ?_
  refine at_getf (v := .int (sI (M o 11))) C (obj_Bea G ho) (ci := 0) rfl inX0 (slot := 11) (by decide) qw_113 rfl rfl dX0_remember_1 ?_
  have hb1 := tv_undos hT ho
  refine at_bipush C dX0_remember_4 (by decide) (by decide) ?_
  refine at_icmp_lt C 46 dX0_remember_6 (by decide) (⟨by omega, by omega⟩) (⟨by omega, by omega⟩) (fun h2 => ?_) (fun h2 => ?_)
  · refine at_aload_n C 0 dX0_remember_46 rfl ?_
    refine at_getf (v := .ref (G.1 ((o + 9)))) C (obj_Bea G ho) (ci := 0) rfl inX0 (slot := 5) (by decide) qw_97 rfl rfl dX0_remember_47 ?_
    refine at_aload_n C 0 dX0_remember_50 rfl ?_
    refine at_getf (v := .int (sI (M o 11))) C (obj_Bea G ho) (ci := 0) rfl inX0 (slot := 11) (by decide) qw_113 rfl rfl dX0_remember_51 ?_
    have hb3 := tv_undos hT ho
    refine at_ve (b := ((nU M o : Nat) : Int)) (hnu.2) ?_
    have hl4 : (nU M o) < 8 := by omega
    refine at_aaldM (f := fun u => some (G.1 (o + 16 + 4 * u))) (b := (o + 16 + 4 * (nU M o))) (n := 8) C (nU M o) (isB_lt ho (by omega)) (by decide) (fun r q => by rw [shp_B G ho (by omega)]; rfl) (by omega) hl4 rfl dX0_remember_54 ?_
    refine at_aload_n C 0 dX0_remember_55 rfl ?_
    refine at_getf (v := .ref (G.1 ((o + 5)))) C (obj_Bea G ho) (ci := 0) rfl inX0 (slot := 4) (by decide) qw_93 rfl rfl dX0_remember_56 ?_
    refine at_call_v C (c_X1_copy l D G (isMo_past G ho hl4) (isMo_now G ho) (mrg_past ho (by omega)) (mrg_now ho) (by omega) hT) (As := [.ref (G.1 ((o + 5)))]) ((isMo_past G ho hl4).1) (ci := 1) rfl qw_541 qw_538 qw_3 qw_539 qw_540 ⟨by decide, by decide, show (parseMethodDescriptor yX1_copy.desc).map (fun d => d.parameters.length) = some 1 by decide +kernel⟩ ⟨by decide, by decide⟩ ⟨Nat.zero_le _, Nat.zero_le _⟩ (Nat.le_of_ble_eq_true rfl) dX0_remember_59 rfl (fun M' L' hp6 => ?_)
    obtain ⟨rfl, hT5, rfl⟩ := hp6
    refine at_aload_n C 0 dX0_remember_62 rfl ?_
    refine at_dup C dX0_remember_63 rfl ?_
    refine at_getf (v := .int (sI ((mCp M (o + 16 + 4 * (nU M o)) (o + 5)) o 11))) C (obj_Bea G ho) (ci := 0) rfl inX0 (slot := 11) (by decide) qw_113 rfl rfl dX0_remember_64 ?_
    have hb7 := tv_undos hT5 ho
    refine at_ve (b := M o 11) (by rw [mCp_at, if_neg (by omega)]) ?_
    refine at_iconst C dX0_remember_67 ?_
    refine at_iadd C dX0_remember_68 ?_
    refine at_putM (slot := 11) (ty := .int) C tyX0 (obj_Bea G ho) (ci := 0) rfl inX0 tyX0_ok nmX0 (by decide) qw_113 rfl rfl (by decide +kernel) rfl rfl (Nat.le_of_ble_eq_true rfl) rfl dX0_remember_69 ?_
    have hT8 : TInv (sSt (mCp M (o + 16 + 4 * (nU M o)) (o + 5)) o 11 ((M o 11) + 1)) := tw_undos hT5 ho (⟨by omega, by omega⟩)
    exact hret _ _ _ _ dX0_remember_72 (⟨by unfold bRem; rw [if_pos (by omega)], hT8, rfl⟩)
  · refine at_iconst C dX0_remember_9 ?_
    refine at_istore_n C [(1, .int (sI (1))), (0, .ref (G.1 (o)))] dX0_remember_10 (by decide) rfl ?_
    have H11 : ∀ (fu : Nat) (u : Nat), 8 - u < fu → (1 ≤ u ∧ u ≤ 8) → (TInv (shf M o u)) → sAt zp l ze (sRm 2 61) zs zm za zb zt zc D G 2 0 0 Q 11 [(0, .ref (G.1 (o))), (1, .int (sI ((u : Int))))] [] (shf M o u) L := by
      intro fu
      induction fu with
      | zero => intro u hd hu hTk; exact absurd hd (Nat.not_lt_zero _)
      | succ fu ih11 =>
        intro u hd11 hu hTk
        refine at_iload_n C 1 dX0_remember_11 rfl ?_
        refine at_bipush C dX0_remember_12 (by decide) (by decide) ?_
        refine at_icmp_ge C 40 dX0_remember_14 (by decide) (⟨by omega, by omega⟩) (⟨by omega, by omega⟩) (fun h9 => ?_) (fun h9 => ?_)
        · refine at_aload_n C 0 dX0_remember_40 rfl ?_
          refine at_bipush C dX0_remember_41 (by decide) (by decide) ?_
          refine at_putM (slot := 11) (ty := .int) C tyX0 (obj_Bea G ho) (ci := 0) rfl inX0 tyX0_ok nmX0 (by decide) qw_113 rfl rfl (by decide +kernel) rfl rfl (Nat.le_of_ble_eq_true rfl) rfl dX0_remember_43 ?_
          have hT10 : TInv (sSt (shf M o u) o 11 7) := tw_undos hTk ho (⟨by decide, by decide⟩)
          obtain rfl : u = 8 := by omega
          refine at_aload_n C 0 dX0_remember_46 rfl ?_
          refine at_getf (v := .ref (G.1 ((o + 9)))) C (obj_Bea G ho) (ci := 0) rfl inX0 (slot := 5) (by decide) qw_97 rfl rfl dX0_remember_47 ?_
          refine at_aload_n C 0 dX0_remember_50 rfl ?_
          refine at_getf (v := .int (sI ((sSt (shf M o 8) o 11 7) o 11))) C (obj_Bea G ho) (ci := 0) rfl inX0 (slot := 11) (by decide) qw_113 rfl rfl dX0_remember_51 ?_
          have hb11 := tv_undos hT10 ho
          refine at_ve (b := 7) (sSt_eq) ?_
          have hl12 : 7 < 8 := by omega
          refine at_aaldM (f := fun u => some (G.1 (o + 16 + 4 * u))) (b := (o + 16 + 4 * 7)) (n := 8) C 7 (isB_lt ho (by omega)) (by decide) (fun r q => by rw [shp_B G ho (by omega)]; rfl) (rfl) hl12 rfl dX0_remember_54 ?_
          refine at_aload_n C 0 dX0_remember_55 rfl ?_
          refine at_getf (v := .ref (G.1 ((o + 5)))) C (obj_Bea G ho) (ci := 0) rfl inX0 (slot := 4) (by decide) qw_93 rfl rfl dX0_remember_56 ?_
          refine at_call_v C (c_X1_copy l D G (isMo_past G ho hl12) (isMo_now G ho) (mrg_past ho (by omega)) (mrg_now ho) (by omega) hT10) (As := [.ref (G.1 ((o + 5)))]) ((isMo_past G ho hl12).1) (ci := 1) rfl qw_541 qw_538 qw_3 qw_539 qw_540 ⟨by decide, by decide, show (parseMethodDescriptor yX1_copy.desc).map (fun d => d.parameters.length) = some 1 by decide +kernel⟩ ⟨by decide, by decide⟩ ⟨Nat.zero_le _, Nat.zero_le _⟩ (Nat.le_of_ble_eq_true rfl) dX0_remember_59 rfl (fun M' L' hp14 => ?_)
          obtain ⟨rfl, hT13, rfl⟩ := hp14
          refine at_aload_n C 0 dX0_remember_62 rfl ?_
          refine at_dup C dX0_remember_63 rfl ?_
          refine at_getf (v := .int (sI ((mCp (sSt (shf M o 8) o 11 7) (o + 16 + 4 * 7) (o + 5)) o 11))) C (obj_Bea G ho) (ci := 0) rfl inX0 (slot := 11) (by decide) qw_113 rfl rfl dX0_remember_64 ?_
          have hb15 := tv_undos hT13 ho
          refine at_ve (b := 7) (by rw [mCp_at, if_neg (by omega), sSt_eq]) ?_
          refine at_iconst C dX0_remember_67 ?_
          refine at_iadd C dX0_remember_68 ?_
          refine at_putM (slot := 11) (ty := .int) C tyX0 (obj_Bea G ho) (ci := 0) rfl inX0 tyX0_ok nmX0 (by decide) qw_113 rfl rfl (by decide +kernel) rfl rfl (Nat.le_of_ble_eq_true rfl) rfl dX0_remember_69 ?_
          have hT16 : TInv (sSt (mCp (sSt (shf M o 8) o 11 7) (o + 16 + 4 * 7) (o + 5)) o 11 (7 + 1)) := tw_undos hT13 ho (⟨by omega, by omega⟩)
          exact hret _ _ _ _ dX0_remember_72 (⟨by unfold bRem; rw [if_neg (by omega)]; exact remE, hT16, rfl⟩)
        · refine at_aload_n C 0 dX0_remember_17 rfl ?_
          refine at_getf (v := .ref (G.1 ((o + 9)))) C (obj_Bea G ho) (ci := 0) rfl inX0 (slot := 5) (by decide) qw_97 rfl rfl dX0_remember_18 ?_
          refine at_iload_n C 1 dX0_remember_21 rfl ?_
          refine at_iconst C dX0_remember_22 ?_
          refine at_isub C dX0_remember_23 ?_
          have hl17 : (u - 1) < 8 := by omega
          refine at_aaldM (f := fun u => some (G.1 (o + 16 + 4 * u))) (b := (o + 16 + 4 * (u - 1))) (n := 8) C (u - 1) (isB_lt ho (by omega)) (by decide) (fun r q => by rw [shp_B G ho (by omega)]; rfl) (by omega) hl17 rfl dX0_remember_24 ?_
          refine at_aload_n C 0 dX0_remember_25 rfl ?_
          refine at_getf (v := .ref (G.1 ((o + 9)))) C (obj_Bea G ho) (ci := 0) rfl inX0 (slot := 5) (by decide) qw_97 rfl rfl dX0_remember_26 ?_
          refine at_iload_n C 1 dX0_remember_29 rfl ?_
          have hl18 : u < 8 := by omega
          refine at_aaldM (f := fun u => some (G.1 (o + 16 + 4 * u))) (b := (o + 16 + 4 * u)) (n := 8) C u (isB_lt ho (by omega)) (by decide) (fun r q => by rw [shp_B G ho (by omega)]; rfl) (rfl) hl18 rfl dX0_remember_30 ?_
          refine at_call_v C (c_X1_copy l D G (isMo_past G ho hl17) (isMo_past G ho hl18) (mrg_past ho (by omega)) (mrg_past ho (by omega)) (by omega) hTk) (As := [.ref (G.1 ((o + 16 + 4 * u)))]) ((isMo_past G ho hl17).1) (ci := 1) rfl qw_541 qw_538 qw_3 qw_539 qw_540 ⟨by decide, by decide, show (parseMethodDescriptor yX1_copy.desc).map (fun d => d.parameters.length) = some 1 by decide +kernel⟩ ⟨by decide, by decide⟩ ⟨Nat.zero_le _, Nat.zero_le _⟩ (Nat.le_of_ble_eq_true rfl) dX0_remember_31 rfl (fun M' L' hp20 => ?_)
          obtain ⟨rfl, hT19, rfl⟩ := hp20
          refine at_iinc C 1 [(1, .int (sI ((u : Int) + 1))), (0, .ref (G.1 (o)))] dX0_remember_34 rfl (by decide) rfl ?_
          refine at_goto C 11 dX0_remember_37 (by decide) ?_
          refine at_lv [1, 0] rfl ?_
          exact at_eq (ih11 (u + 1) (by omega) (⟨by omega, by omega⟩) (by rw [← shf_s (M := M) (o := o) hu.1]; exact hT19)) (lvc_s (lvc_i (by omega) rfl)) rfl (shf_s hu.1) (rfl)
    refine at_lv [1, 0] rfl ?_
    exact at_eq (H11 _ 1 (Nat.lt_succ_self _) (⟨by omega, by omega⟩) ((shf_1 M o) ▸ hT)) (lvc_s (lvc_i (rfl) rfl)) rfl (shf_1 M o) (rfl)

set_option maxHeartbeats 4000000 in
set_option maxRecDepth 100000 in
theorem c_X0_stepBack (l : Launch) (D : va_G) (G : sG) {M : sM} {L : sL} {o : Nat} (ho : isB o) (hT : TInv M) (hu : 0 < M o 11) : sKv l D G yX0_stepBack cX0_stepBack 1 2 61 [.ref (G.1 (o))] M L (fun M' L' => M' = bUnd M o ∧ TInv M' ∧ L = L') := by
  refine sKv_go (by decide) (Nat.le_of_ble_eq_true rfl) ?_
  intro zp ze zs zm za zb zt zc Q C hret
  refine at_eq (lv' := [(0, .ref (G.1 (o)))]) (st' := []) (M' := M) (L' := L) ?_ rfl rfl rfl rfl
  have hur := nU_r hT ho
  refine at_aload_n C 0 dX0_stepBack_0 rfl ?_
  refine at_getf (v := .int (sI (M o 11))) C (obj_Bea G ho) (ci := 0) rfl inX0 (slot := 11) (by decide) qw_113 rfl rfl dX0_stepBack_1 ?_
  have hb1 := tv_undos hT ho
  refine at_if_le C 33 dX0_stepBack_4 (by decide) (⟨by omega, by omega⟩) (fun h2 => absurd h2 (by omega)) (fun h2 => ?_)
  refine at_aload_n C 0 dX0_stepBack_7 rfl ?_
  refine at_dup C dX0_stepBack_8 rfl ?_
  refine at_getf (v := .int (sI (M o 11))) C (obj_Bea G ho) (ci := 0) rfl inX0 (slot := 11) (by decide) qw_113 rfl rfl dX0_stepBack_9 ?_
  have hb3 := tv_undos hT ho
  refine at_iconst C dX0_stepBack_12 ?_
  refine at_isub C dX0_stepBack_13 ?_
  refine at_putM (slot := 11) (ty := .int) C tyX0 (obj_Bea G ho) (ci := 0) rfl inX0 tyX0_ok nmX0 (by decide) qw_113 rfl rfl (by decide +kernel) rfl rfl (Nat.le_of_ble_eq_true rfl) rfl dX0_stepBack_14 ?_
  have hT4 : TInv (sSt M o 11 ((M o 11) - 1)) := tw_undos hT ho (⟨by omega, by omega⟩)
  refine at_aload_n C 0 dX0_stepBack_17 rfl ?_
  refine at_getf (v := .ref (G.1 ((o + 5)))) C (obj_Bea G ho) (ci := 0) rfl inX0 (slot := 4) (by decide) qw_93 rfl rfl dX0_stepBack_18 ?_
  refine at_aload_n C 0 dX0_stepBack_21 rfl ?_
  refine at_getf (v := .ref (G.1 ((o + 9)))) C (obj_Bea G ho) (ci := 0) rfl inX0 (slot := 5) (by decide) qw_97 rfl rfl dX0_stepBack_22 ?_
  refine at_aload_n C 0 dX0_stepBack_25 rfl ?_
  refine at_getf (v := .int (sI ((sSt M o 11 ((M o 11) - 1)) o 11))) C (obj_Bea G ho) (ci := 0) rfl inX0 (slot := 11) (by decide) qw_113 rfl rfl dX0_stepBack_26 ?_
  have hb5 := tv_undos hT4 ho
  refine at_ve (b := (((nU M o - 1) : Nat) : Int)) (by rw [sSt_eq]; omega) ?_
  have hl6 : (nU M o - 1) < 8 := by omega
  refine at_aaldM (f := fun u => some (G.1 (o + 16 + 4 * u))) (b := (o + 16 + 4 * (nU M o - 1))) (n := 8) C (nU M o - 1) (isB_lt ho (by omega)) (by decide) (fun r q => by rw [shp_B G ho (by omega)]; rfl) (by omega) hl6 rfl dX0_stepBack_29 ?_
  refine at_call_v C (c_X1_copy l D G (isMo_now G ho) (isMo_past G ho hl6) (mrg_now ho) (mrg_past ho (by omega)) (by omega) hT4) (As := [.ref (G.1 ((o + 16 + 4 * (nU M o - 1))))]) ((isMo_now G ho).1) (ci := 1) rfl qw_541 qw_538 qw_3 qw_539 qw_540 ⟨by decide, by decide, show (parseMethodDescriptor yX1_copy.desc).map (fun d => d.parameters.length) = some 1 by decide +kernel⟩ ⟨by decide, by decide⟩ ⟨Nat.zero_le _, Nat.zero_le _⟩ (Nat.le_of_ble_eq_true rfl) dX0_stepBack_30 rfl (fun M' L' hp8 => ?_)
  obtain ⟨rfl, hT7, rfl⟩ := hp8
  exact hret _ _ _ _ dX0_stepBack_33 (⟨rfl, hT7, rfl⟩)

set_option maxHeartbeats 4000000 in
set_option maxRecDepth 100000 in
theorem c_X0_reset (l : Launch) (D : va_G) (G : sG) {M : sM} {L : sL} {o : Nat} (ho : isB o) (hT : TInv M) : sKv l D G yX0_reset cX0_reset 2 1 21 [.ref (G.1 (o))] M L (fun M' L' => M' = bRes M o ∧ TInv M' ∧ L = L') := by
  refine sKv_go (by decide) (Nat.le_of_ble_eq_true rfl) ?_
  intro zp ze zs zm za zb zt zc Q C hret
  refine at_eq (lv' := [(0, .ref (G.1 (o)))]) (st' := []) (M' := M) (L' := L) ?_ rfl rfl rfl rfl
  refine at_iconst C dX0_reset_0 ?_
  refine at_istore_n C [(1, .int (sI (0))), (0, .ref (G.1 (o)))] dX0_reset_1 (by decide) rfl ?_
  have H2 : ∀ (fu : Nat) (k : Nat), 12 - k < fu → (k ≤ 12) → (TInv (rsC M o k)) → sAt zp l ze (sRm 1 21) zs zm za zb zt zc D G 2 0 0 Q 2 [(0, .ref (G.1 (o))), (1, .int (sI ((k : Int))))] [] (rsC M o k) L := by
    intro fu
    induction fu with
    | zero => intro k hd hk hTk; exact absurd hd (Nat.not_lt_zero _)
    | succ fu ih2 =>
      intro k hd2 hk hTk
      refine at_iload_n C 1 dX0_reset_2 rfl ?_
      refine at_bipush C dX0_reset_3 (by decide) (by decide) ?_
      refine at_icmp_ge C 21 dX0_reset_5 (by decide) (⟨by omega, by omega⟩) (⟨by omega, by omega⟩) (fun h1 => ?_) (fun h1 => ?_)
      · refine at_aload_n C 0 dX0_reset_21 rfl ?_
        refine at_getf (v := .ref (G.1 ((o + 5)))) C (obj_Bea G ho) (ci := 0) rfl inX0 (slot := 4) (by decide) qw_93 rfl rfl dX0_reset_22 ?_
        refine at_iconst C dX0_reset_25 ?_
        refine at_putM (slot := 3) (ty := .int) C tyX1 ((isMo_now G ho).1) (ci := 1) rfl inX1 tyX1_ok nmX1 (by decide) qw_45 rfl rfl (by decide +kernel) rfl rfl (Nat.le_of_ble_eq_true rfl) rfl dX0_reset_26 ?_
        have hT2 : TInv (sSt (rsC M o k) (o + 5) 3 0) := tw_comber hTk ho (⟨by omega, by omega⟩)
        refine at_aload_n C 0 dX0_reset_29 rfl ?_
        refine at_getf (v := .ref (G.1 ((o + 5)))) C (obj_Bea G ho) (ci := 0) rfl inX0 (slot := 4) (by decide) qw_93 rfl rfl dX0_reset_30 ?_
        refine at_iconst C dX0_reset_33 ?_
        refine at_putM (slot := 4) (ty := .int) C tyX1 ((isMo_now G ho).1) (ci := 1) rfl inX1 tyX1_ok nmX1 (by decide) qw_49 rfl rfl (by decide +kernel) rfl rfl (Nat.le_of_ble_eq_true rfl) rfl dX0_reset_34 ?_
        have hT3 : TInv (sSt (sSt (rsC M o k) (o + 5) 3 0) (o + 5) 4 0) := tw_tide hT2 ho (⟨by omega, by omega⟩)
        refine at_aload_n C 0 dX0_reset_37 rfl ?_
        refine at_getf (v := .ref (G.1 ((o + 10)))) C (obj_Bea G ho) (ci := 0) rfl inX0 (slot := 6) (by decide) qw_98 rfl rfl dX0_reset_38 ?_
        refine at_call_i C (c_X4_drop_sgn l D G ho hT3) (As := []) ((isTa_sig G ho).1) (ci := 4) rfl qw_300 qw_297 qw_4 qw_298 qw_299 ⟨by decide, by decide, show (parseMethodDescriptor yX4_drop.desc).map (fun d => d.parameters.length) = some 0 by decide +kernel⟩ ⟨by decide, by decide⟩ ⟨Nat.zero_le _, Nat.zero_le _⟩ (Nat.le_of_ble_eq_true rfl) dX0_reset_41 rfl (fun r M' L' hp5 => ?_)
        obtain ⟨rfl, rfl, hT4, rfl⟩ := hp5
        refine at_pop C dX0_reset_44 rfl ?_
        refine at_aload_n C 0 dX0_reset_45 rfl ?_
        refine at_getf (v := .ref (G.1 ((o + 12)))) C (obj_Bea G ho) (ci := 0) rfl inX0 (slot := 7) (by decide) qw_100 rfl rfl dX0_reset_46 ?_
        refine at_call_i C (c_X4_drop_ntn l D G ho hT4) (As := []) ((isTa_not G ho).1) (ci := 4) rfl qw_300 qw_297 qw_4 qw_298 qw_299 ⟨by decide, by decide, show (parseMethodDescriptor yX4_drop.desc).map (fun d => d.parameters.length) = some 0 by decide +kernel⟩ ⟨by decide, by decide⟩ ⟨Nat.zero_le _, Nat.zero_le _⟩ (Nat.le_of_ble_eq_true rfl) dX0_reset_49 rfl (fun r M' L' hp7 => ?_)
        obtain ⟨rfl, rfl, hT6, rfl⟩ := hp7
        refine at_pop C dX0_reset_52 rfl ?_
        refine at_aload_n C 0 dX0_reset_53 rfl ?_
        refine at_getf (v := .ref (G.1 ((o + 14)))) C (obj_Bea G ho) (ci := 0) rfl inX0 (slot := 8) (by decide) qw_102 rfl rfl dX0_reset_54 ?_
        refine at_call_i C (c_X4_drop_mkn l D G ho hT6) (As := []) ((isTa_mar G ho).1) (ci := 4) rfl qw_300 qw_297 qw_4 qw_298 qw_299 ⟨by decide, by decide, show (parseMethodDescriptor yX4_drop.desc).map (fun d => d.parameters.length) = some 0 by decide +kernel⟩ ⟨by decide, by decide⟩ ⟨Nat.zero_le _, Nat.zero_le _⟩ (Nat.le_of_ble_eq_true rfl) dX0_reset_57 rfl (fun r M' L' hp9 => ?_)
        obtain ⟨rfl, rfl, hT8, rfl⟩ := hp9
        refine at_pop C dX0_reset_60 rfl ?_
        refine at_aload_n C 0 dX0_reset_61 rfl ?_
        refine at_iconst C dX0_reset_62 ?_
        refine at_putM (slot := 9) (ty := .int) C tyX0 (obj_Bea G ho) (ci := 0) rfl inX0 tyX0_ok nmX0 (by decide) qw_106 rfl rfl (by decide +kernel) rfl rfl (Nat.le_of_ble_eq_true rfl) rfl dX0_reset_63 ?_
        have hT10 : TInv (sSt (sSt (sSt (sSt (sSt (sSt (rsC M o k) (o + 5) 3 0) (o + 5) 4 0) (o + 10) 3 0) (o + 12) 3 0) (o + 14) 3 0) o 9 0) := tw_souls hT8 ho (⟨by omega, by omega⟩)
        refine at_aload_n C 0 dX0_reset_66 rfl ?_
        refine at_iconst C dX0_reset_67 ?_
        refine at_putM (slot := 10) (ty := .int) C tyX0 (obj_Bea G ho) (ci := 0) rfl inX0 tyX0_ok nmX0 (by decide) qw_109 rfl rfl (by decide +kernel) rfl rfl (Nat.le_of_ble_eq_true rfl) rfl dX0_reset_68 ?_
        have hT11 : TInv (sSt (sSt (sSt (sSt (sSt (sSt (sSt (rsC M o k) (o + 5) 3 0) (o + 5) 4 0) (o + 10) 3 0) (o + 12) 3 0) (o + 14) 3 0) o 9 0) o 10 0) := tw_callers hT10 ho (⟨by omega, by omega⟩)
        refine at_aload_n C 0 dX0_reset_71 rfl ?_
        refine at_iconst C dX0_reset_72 ?_
        refine at_putM (slot := 11) (ty := .int) C tyX0 (obj_Bea G ho) (ci := 0) rfl inX0 tyX0_ok nmX0 (by decide) qw_113 rfl rfl (by decide +kernel) rfl rfl (Nat.le_of_ble_eq_true rfl) rfl dX0_reset_73 ?_
        have hT12 : TInv (sSt (sSt (sSt (sSt (sSt (sSt (sSt (sSt (rsC M o k) (o + 5) 3 0) (o + 5) 4 0) (o + 10) 3 0) (o + 12) 3 0) (o + 14) 3 0) o 9 0) o 10 0) o 11 0) := tw_undos hT11 ho (⟨by omega, by omega⟩)
        exact hret _ _ _ _ dX0_reset_76 (⟨by unfold bRes; rw [show (12 : Nat) = k by omega], hT12, rfl⟩)
      · refine at_aload_n C 0 dX0_reset_8 rfl ?_
        refine at_getf (v := .ref (G.1 ((o + 1)))) C (obj_Bea G ho) (ci := 0) rfl inX0 (slot := 0) (by decide) qw_85 rfl rfl dX0_reset_9 ?_
        refine at_iload_n C 1 dX0_reset_12 rfl ?_
        refine at_iconst C dX0_reset_13 ?_
        refine at_iast C k (arI_cur G ho) (rfl) (by omega) dX0_reset_14 ?_
        have hT13 : TInv (sSt (rsC M o k) (o + 1) k 0) := tw_cur hTk ho (⟨by omega, by omega⟩)
        refine at_iinc C 1 [(1, .int (sI ((k : Int) + 1))), (0, .ref (G.1 (o)))] dX0_reset_15 rfl (by decide) rfl ?_
        refine at_goto C 2 dX0_reset_18 (by decide) ?_
        refine at_lv [1, 0] rfl ?_
        exact at_eq (ih2 (k + 1) (by omega) (by omega) (by rw [← rsC_s]; exact hT13)) (lvc_s (lvc_i (by omega) rfl)) rfl (rsC_s M o k) (rfl)
  refine at_lv [1, 0] rfl ?_
  exact at_eq (H2 _ 0 (Nat.lt_succ_self _) (by omega) ((rsC_0 M o) ▸ hT)) (lvc_s (lvc_i (rfl) rfl)) rfl (rsC_0 M o) (rfl)

set_option maxHeartbeats 4000000 in
set_option maxRecDepth 100000 in
theorem c_X0_copy (l : Launch) (D : va_G) (G : sG) {M : sM} {L : sL} {o o2 : Nat} (ho : isB o) (ho2 : isB o2) (hd : o + 48 ≤ o2 ∨ o2 + 48 ≤ o) (hT : TInv M) : sKv l D G yX0_copy cX0_copy 3 2 61 [.ref (G.1 (o)), .ref (G.1 (o2))] M L (fun M' L' => M' = bCpy M o o2 ∧ TInv M' ∧ L = L') := by
  refine sKv_go (by decide) (Nat.le_of_ble_eq_true rfl) ?_
  intro zp ze zs zm za zb zt zc Q C hret
  refine at_eq (lv' := [(0, .ref (G.1 (o))), (1, .ref (G.1 (o2)))]) (st' := []) (M' := M) (L' := L) ?_ rfl rfl rfl rfl
  have e0 := bcp_start M o o2
  have hT0 : TInv (bcp M o o2 (fun x => x < 1 ∧ 1 ≤ x)) := e0 ▸ hT
  refine at_m e0 ?_
  refine at_aload_n C 1 dX0_copy_0 rfl ?_
  refine at_getf (v := .ref (G.1 ((o2 + 1)))) C (obj_Bea G ho2) (ci := 0) rfl inX0 (slot := 0) (by decide) qw_85 rfl rfl dX0_copy_1 ?_
  refine at_iconst C dX0_copy_4 ?_
  refine at_aload_n C 0 dX0_copy_5 rfl ?_
  refine at_getf (v := .ref (G.1 ((o + 1)))) C (obj_Bea G ho) (ci := 0) rfl inX0 (slot := 0) (by decide) qw_85 rfl rfl dX0_copy_6 ?_
  refine at_iconst C dX0_copy_9 ?_
  refine at_bipush C dX0_copy_10 (by decide) (by decide) ?_
  refine at_copyI C 0 0 12 qw_535 (arI_cur G ho2) (arI_cur G ho) (rfl) (rfl) (rfl) (by omega) (by omega) ⟨by decide, Nat.le_of_ble_eq_true rfl⟩ dX0_copy_12 ?_
  have hT1 : TInv (sCpy (bcp M o o2 (fun x => x < 1 ∧ 1 ≤ x)) (o2 + 1) (o + 1) 0 0 12) := tv_cpy hT0 (fun i hi => by rw [rg_B ho2 (by omega), rg_B ho (by omega)])
  have e3 : _ = bcp M o o2 (fun x => 1 ≤ x ∧ x < 2) := bcp_row (M := M) (a := o) (b := o2) (i := 1) (n := 12) (P := (fun x => x < 1 ∧ 1 ≤ x)) (R := (fun x => 1 ≤ x ∧ x < 2)) hd (by omega) (by omega) (fun x => by omega) (fun x y j => by unfold brow; exact if_congr' (by omega))
  have hT2 : TInv (bcp M o o2 (fun x => 1 ≤ x ∧ x < 2)) := e3 ▸ hT1
  refine at_m e3 ?_
  refine at_aload_n C 1 dX0_copy_15 rfl ?_
  refine at_getf (v := .ref (G.1 ((o2 + 2)))) C (obj_Bea G ho2) (ci := 0) rfl inX0 (slot := 1) (by decide) qw_88 rfl rfl dX0_copy_16 ?_
  refine at_iconst C dX0_copy_19 ?_
  refine at_aload_n C 0 dX0_copy_20 rfl ?_
  refine at_getf (v := .ref (G.1 ((o + 2)))) C (obj_Bea G ho) (ci := 0) rfl inX0 (slot := 1) (by decide) qw_88 rfl rfl dX0_copy_21 ?_
  refine at_iconst C dX0_copy_24 ?_
  refine at_bipush C dX0_copy_25 (by decide) (by decide) ?_
  refine at_copyI C 0 0 6 qw_535 (arI_kd G ho2) (arI_kd G ho) (rfl) (rfl) (rfl) (by omega) (by omega) ⟨by decide, Nat.le_of_ble_eq_true rfl⟩ dX0_copy_27 ?_
  have hT4 : TInv (sCpy (bcp M o o2 (fun x => 1 ≤ x ∧ x < 2)) (o2 + 2) (o + 2) 0 0 6) := tv_cpy hT2 (fun i hi => by rw [rg_B ho2 (by omega), rg_B ho (by omega)])
  have e6 : _ = bcp M o o2 (fun x => 1 ≤ x ∧ x < 3) := bcp_row (M := M) (a := o) (b := o2) (i := 2) (n := 6) (P := (fun x => 1 ≤ x ∧ x < 2)) (R := (fun x => 1 ≤ x ∧ x < 3)) hd (by omega) (by omega) (fun x => by omega) (fun x y j => by unfold brow; exact if_congr' (by omega))
  have hT5 : TInv (bcp M o o2 (fun x => 1 ≤ x ∧ x < 3)) := e6 ▸ hT4
  refine at_m e6 ?_
  refine at_aload_n C 1 dX0_copy_30 rfl ?_
  refine at_getf (v := .ref (G.1 ((o2 + 3)))) C (obj_Bea G ho2) (ci := 0) rfl inX0 (slot := 2) (by decide) qw_89 rfl rfl dX0_copy_31 ?_
  refine at_iconst C dX0_copy_34 ?_
  refine at_aload_n C 0 dX0_copy_35 rfl ?_
  refine at_getf (v := .ref (G.1 ((o + 3)))) C (obj_Bea G ho) (ci := 0) rfl inX0 (slot := 2) (by decide) qw_89 rfl rfl dX0_copy_36 ?_
  refine at_iconst C dX0_copy_39 ?_
  refine at_bipush C dX0_copy_40 (by decide) (by decide) ?_
  refine at_copyI C 0 0 6 qw_535 (arI_wt G ho2) (arI_wt G ho) (rfl) (rfl) (rfl) (by omega) (by omega) ⟨by decide, Nat.le_of_ble_eq_true rfl⟩ dX0_copy_42 ?_
  have hT7 : TInv (sCpy (bcp M o o2 (fun x => 1 ≤ x ∧ x < 3)) (o2 + 3) (o + 3) 0 0 6) := tv_cpy hT5 (fun i hi => by rw [rg_B ho2 (by omega), rg_B ho (by omega)])
  have e9 : _ = bcp M o o2 (fun x => 1 ≤ x ∧ x < 4) := bcp_row (M := M) (a := o) (b := o2) (i := 3) (n := 6) (P := (fun x => 1 ≤ x ∧ x < 3)) (R := (fun x => 1 ≤ x ∧ x < 4)) hd (by omega) (by omega) (fun x => by omega) (fun x y j => by unfold brow; exact if_congr' (by omega))
  have hT8 : TInv (bcp M o o2 (fun x => 1 ≤ x ∧ x < 4)) := e9 ▸ hT7
  refine at_m e9 ?_
  refine at_aload_n C 1 dX0_copy_45 rfl ?_
  refine at_getf (v := .ref (G.1 ((o2 + 4)))) C (obj_Bea G ho2) (ci := 0) rfl inX0 (slot := 3) (by decide) qw_91 rfl rfl dX0_copy_46 ?_
  refine at_iconst C dX0_copy_49 ?_
  refine at_aload_n C 0 dX0_copy_50 rfl ?_
  refine at_getf (v := .ref (G.1 ((o + 4)))) C (obj_Bea G ho) (ci := 0) rfl inX0 (slot := 3) (by decide) qw_91 rfl rfl dX0_copy_51 ?_
  refine at_iconst C dX0_copy_54 ?_
  refine at_bipush C dX0_copy_55 (by decide) (by decide) ?_
  refine at_copyI C 0 0 6 qw_535 (arI_ck G ho2) (arI_ck G ho) (rfl) (rfl) (rfl) (by omega) (by omega) ⟨by decide, Nat.le_of_ble_eq_true rfl⟩ dX0_copy_57 ?_
  have hT10 : TInv (sCpy (bcp M o o2 (fun x => 1 ≤ x ∧ x < 4)) (o2 + 4) (o + 4) 0 0 6) := tv_cpy hT8 (fun i hi => by rw [rg_B ho2 (by omega), rg_B ho (by omega)])
  have e12 : _ = bcp M o o2 (fun x => 1 ≤ x ∧ x < 5) := bcp_row (M := M) (a := o) (b := o2) (i := 4) (n := 6) (P := (fun x => 1 ≤ x ∧ x < 4)) (R := (fun x => 1 ≤ x ∧ x < 5)) hd (by omega) (by omega) (fun x => by omega) (fun x y j => by unfold brow; exact if_congr' (by omega))
  have hT11 : TInv (bcp M o o2 (fun x => 1 ≤ x ∧ x < 5)) := e12 ▸ hT10
  refine at_m e12 ?_
  refine at_aload_n C 0 dX0_copy_60 rfl ?_
  refine at_getf (v := .ref (G.1 ((o + 5)))) C (obj_Bea G ho) (ci := 0) rfl inX0 (slot := 4) (by decide) qw_93 rfl rfl dX0_copy_61 ?_
  refine at_aload_n C 1 dX0_copy_64 rfl ?_
  refine at_getf (v := .ref (G.1 ((o2 + 5)))) C (obj_Bea G ho2) (ci := 0) rfl inX0 (slot := 4) (by decide) qw_93 rfl rfl dX0_copy_65 ?_
  refine at_call_v C (c_X1_copy l D G (isMo_now G ho) (isMo_now G ho2) (mrg_now ho) (mrg_now ho2) (by omega) hT11) (As := [.ref (G.1 ((o2 + 5)))]) ((isMo_now G ho).1) (ci := 1) rfl qw_541 qw_538 qw_3 qw_539 qw_540 ⟨by decide, by decide, show (parseMethodDescriptor yX1_copy.desc).map (fun d => d.parameters.length) = some 1 by decide +kernel⟩ ⟨by decide, by decide⟩ ⟨Nat.zero_le _, Nat.zero_le _⟩ (Nat.le_of_ble_eq_true rfl) dX0_copy_68 rfl (fun M' L' hp14 => ?_)
  obtain ⟨rfl, hT13, rfl⟩ := hp14
  have e16 : _ = bcp M o o2 (fun x => 1 ≤ x ∧ x < 9) := bcp_mom (M := M) (a := o) (b := o2) (i := 5) (P := (fun x => 1 ≤ x ∧ x < 5)) (R := (fun x => 1 ≤ x ∧ x < 9)) hd (by omega) (fun x h1 h2 => by omega) (fun x => by omega) (Or.inl rfl)
  have hT15 : TInv (bcp M o o2 (fun x => 1 ≤ x ∧ x < 9)) := e16 ▸ hT13
  refine at_m e16 ?_
  refine at_iconst C dX0_copy_71 ?_
  refine at_istore_n C [(2, .int (sI (0))), (0, .ref (G.1 (o))), (1, .ref (G.1 (o2)))] dX0_copy_72 (by decide) rfl ?_
  have H73 : ∀ (fu : Nat) (u : Nat), 8 - u < fu → (u ≤ 8) → (TInv (bcp M o o2 (fun x => (1 ≤ x ∧ x < 9) ∨ (16 ≤ x ∧ x < 16 + 4 * u)))) → sAt zp l ze (sRm 2 61) zs zm za zb zt zc D G 3 0 0 Q 73 [(0, .ref (G.1 (o))), (1, .ref (G.1 (o2))), (2, .int (sI ((u : Int))))] [] (bcp M o o2 (fun x => (1 ≤ x ∧ x < 9) ∨ (16 ≤ x ∧ x < 16 + 4 * u))) L := by
    intro fu
    induction fu with
    | zero => intro u hd hu hTk; exact absurd hd (Nat.not_lt_zero _)
    | succ fu ih73 =>
      intro u hd73 hu hTk
      refine at_iload_n C 2 dX0_copy_73 rfl ?_
      refine at_bipush C dX0_copy_74 (by decide) (by decide) ?_
      refine at_icmp_ge C 100 dX0_copy_76 (by decide) (⟨by omega, by omega⟩) (⟨by omega, by omega⟩) (fun h17 => ?_) (fun h17 => ?_)
      · obtain rfl : u = 8 := by omega
        refine at_aload_n C 0 dX0_copy_100 rfl ?_
        refine at_getf (v := .ref (G.1 ((o + 10)))) C (obj_Bea G ho) (ci := 0) rfl inX0 (slot := 6) (by decide) qw_98 rfl rfl dX0_copy_101 ?_
        refine at_aload_n C 1 dX0_copy_104 rfl ?_
        refine at_getf (v := .ref (G.1 ((o2 + 10)))) C (obj_Bea G ho2) (ci := 0) rfl inX0 (slot := 6) (by decide) qw_98 rfl rfl dX0_copy_105 ?_
        refine at_call_v C (c_X4_copy_sgn l D G ho ho2 (by omega) hTk) (As := [.ref (G.1 ((o2 + 10)))]) ((isTa_sig G ho).1) (ci := 4) rfl qw_546 qw_543 qw_4 qw_544 qw_545 ⟨by decide, by decide, show (parseMethodDescriptor yX4_copy.desc).map (fun d => d.parameters.length) = some 1 by decide +kernel⟩ ⟨by decide, by decide⟩ ⟨Nat.zero_le _, Nat.zero_le _⟩ (Nat.le_of_ble_eq_true rfl) dX0_copy_108 rfl (fun M' L' hp19 => ?_)
        obtain ⟨rfl, hT18, rfl⟩ := hp19
        have e21 : _ = bcp M o o2 (fun x => (1 ≤ x ∧ x < 9) ∨ (16 ≤ x ∧ x < 16 + 4 * 8) ∨ x = 10 ∨ x = 11) := bcp_tab (M := M) (a := o) (b := o2) (i := 10) (n := 10) (P := (fun x => (1 ≤ x ∧ x < 9) ∨ (16 ≤ x ∧ x < 16 + 4 * 8))) (R := (fun x => (1 ≤ x ∧ x < 9) ∨ (16 ≤ x ∧ x < 16 + 4 * 8) ∨ x = 10 ∨ x = 11)) hd (by omega) ⟨by omega, by omega⟩ (fun x => by omega) (by omega)
        have hT20 : TInv (bcp M o o2 (fun x => (1 ≤ x ∧ x < 9) ∨ (16 ≤ x ∧ x < 16 + 4 * 8) ∨ x = 10 ∨ x = 11)) := e21 ▸ hT18
        refine at_m e21 ?_
        refine at_aload_n C 0 dX0_copy_111 rfl ?_
        refine at_getf (v := .ref (G.1 ((o + 12)))) C (obj_Bea G ho) (ci := 0) rfl inX0 (slot := 7) (by decide) qw_100 rfl rfl dX0_copy_112 ?_
        refine at_aload_n C 1 dX0_copy_115 rfl ?_
        refine at_getf (v := .ref (G.1 ((o2 + 12)))) C (obj_Bea G ho2) (ci := 0) rfl inX0 (slot := 7) (by decide) qw_100 rfl rfl dX0_copy_116 ?_
        refine at_call_v C (c_X4_copy_ntn l D G ho ho2 (by omega) hT20) (As := [.ref (G.1 ((o2 + 12)))]) ((isTa_not G ho).1) (ci := 4) rfl qw_546 qw_543 qw_4 qw_544 qw_545 ⟨by decide, by decide, show (parseMethodDescriptor yX4_copy.desc).map (fun d => d.parameters.length) = some 1 by decide +kernel⟩ ⟨by decide, by decide⟩ ⟨Nat.zero_le _, Nat.zero_le _⟩ (Nat.le_of_ble_eq_true rfl) dX0_copy_119 rfl (fun M' L' hp23 => ?_)
        obtain ⟨rfl, hT22, rfl⟩ := hp23
        have e25 : _ = bcp M o o2 (fun x => (1 ≤ x ∧ x < 9) ∨ (16 ≤ x ∧ x < 16 + 4 * 8) ∨ (10 ≤ x ∧ x < 14)) := bcp_tab (M := M) (a := o) (b := o2) (i := 12) (n := 24) (P := (fun x => (1 ≤ x ∧ x < 9) ∨ (16 ≤ x ∧ x < 16 + 4 * 8) ∨ x = 10 ∨ x = 11)) (R := (fun x => (1 ≤ x ∧ x < 9) ∨ (16 ≤ x ∧ x < 16 + 4 * 8) ∨ (10 ≤ x ∧ x < 14))) hd (by omega) ⟨by omega, by omega⟩ (fun x => by omega) (by omega)
        have hT24 : TInv (bcp M o o2 (fun x => (1 ≤ x ∧ x < 9) ∨ (16 ≤ x ∧ x < 16 + 4 * 8) ∨ (10 ≤ x ∧ x < 14))) := e25 ▸ hT22
        refine at_m e25 ?_
        refine at_aload_n C 0 dX0_copy_122 rfl ?_
        refine at_getf (v := .ref (G.1 ((o + 14)))) C (obj_Bea G ho) (ci := 0) rfl inX0 (slot := 8) (by decide) qw_102 rfl rfl dX0_copy_123 ?_
        refine at_aload_n C 1 dX0_copy_126 rfl ?_
        refine at_getf (v := .ref (G.1 ((o2 + 14)))) C (obj_Bea G ho2) (ci := 0) rfl inX0 (slot := 8) (by decide) qw_102 rfl rfl dX0_copy_127 ?_
        refine at_call_v C (c_X4_copy_mkn l D G ho ho2 (by omega) hT24) (As := [.ref (G.1 ((o2 + 14)))]) ((isTa_mar G ho).1) (ci := 4) rfl qw_546 qw_543 qw_4 qw_544 qw_545 ⟨by decide, by decide, show (parseMethodDescriptor yX4_copy.desc).map (fun d => d.parameters.length) = some 1 by decide +kernel⟩ ⟨by decide, by decide⟩ ⟨Nat.zero_le _, Nat.zero_le _⟩ (Nat.le_of_ble_eq_true rfl) dX0_copy_130 rfl (fun M' L' hp27 => ?_)
        obtain ⟨rfl, hT26, rfl⟩ := hp27
        have e29 : _ = bcp M o o2 (fun x => (1 ≤ x ∧ x < 9) ∨ (16 ≤ x ∧ x < 16 + 4 * 8) ∨ (10 ≤ x ∧ x < 16)) := bcp_tab (M := M) (a := o) (b := o2) (i := 14) (n := 18) (P := (fun x => (1 ≤ x ∧ x < 9) ∨ (16 ≤ x ∧ x < 16 + 4 * 8) ∨ (10 ≤ x ∧ x < 14))) (R := (fun x => (1 ≤ x ∧ x < 9) ∨ (16 ≤ x ∧ x < 16 + 4 * 8) ∨ (10 ≤ x ∧ x < 16))) hd (by omega) ⟨by omega, by omega⟩ (fun x => by omega) (by omega)
        have hT28 : TInv (bcp M o o2 (fun x => (1 ≤ x ∧ x < 9) ∨ (16 ≤ x ∧ x < 16 + 4 * 8) ∨ (10 ≤ x ∧ x < 16))) := e29 ▸ hT26
        refine at_m e29 ?_
        refine at_aload_n C 0 dX0_copy_133 rfl ?_
        refine at_aload_n C 1 dX0_copy_134 rfl ?_
        refine at_getf (v := .int (sI ((bcp M o o2 (fun x => (1 ≤ x ∧ x < 9) ∨ (16 ≤ x ∧ x < 16 + 4 * 8) ∨ (10 ≤ x ∧ x < 16))) o2 9))) C (obj_Bea G ho2) (ci := 0) rfl inX0 (slot := 9) (by decide) qw_106 rfl rfl dX0_copy_135 ?_
        have hb30 := tv_souls hT28 ho2
        refine at_ve (b := M o2 9) (by rw [bcp_out (by omega)]) ?_
        have hr9 := tv_souls hT ho2
        refine at_putM (slot := 9) (ty := .int) C tyX0 (obj_Bea G ho) (ci := 0) rfl inX0 tyX0_ok nmX0 (by decide) qw_106 rfl rfl (by decide +kernel) rfl rfl (Nat.le_of_ble_eq_true rfl) rfl dX0_copy_138 ?_
        have hT31 : TInv (sSt (bcp M o o2 (fun x => (1 ≤ x ∧ x < 9) ∨ (16 ≤ x ∧ x < 16 + 4 * 8) ∨ (10 ≤ x ∧ x < 16))) o 9 (M o2 9)) := tw_souls hT28 ho (⟨by omega, by omega⟩)
        refine at_aload_n C 0 dX0_copy_141 rfl ?_
        refine at_aload_n C 1 dX0_copy_142 rfl ?_
        refine at_getf (v := .int (sI ((sSt (bcp M o o2 (fun x => (1 ≤ x ∧ x < 9) ∨ (16 ≤ x ∧ x < 16 + 4 * 8) ∨ (10 ≤ x ∧ x < 16))) o 9 (M o2 9)) o2 10))) C (obj_Bea G ho2) (ci := 0) rfl inX0 (slot := 10) (by decide) qw_109 rfl rfl dX0_copy_143 ?_
        have hb32 := tv_callers hT31 ho2
        refine at_ve (b := M o2 10) (by rw [sSt_ne (by omega), bcp_out (by omega)]) ?_
        have hr10 := tv_callers hT ho2
        refine at_putM (slot := 10) (ty := .int) C tyX0 (obj_Bea G ho) (ci := 0) rfl inX0 tyX0_ok nmX0 (by decide) qw_109 rfl rfl (by decide +kernel) rfl rfl (Nat.le_of_ble_eq_true rfl) rfl dX0_copy_146 ?_
        have hT33 : TInv (sSt (sSt (bcp M o o2 (fun x => (1 ≤ x ∧ x < 9) ∨ (16 ≤ x ∧ x < 16 + 4 * 8) ∨ (10 ≤ x ∧ x < 16))) o 9 (M o2 9)) o 10 (M o2 10)) := tw_callers hT31 ho (⟨by omega, by omega⟩)
        refine at_aload_n C 0 dX0_copy_149 rfl ?_
        refine at_aload_n C 1 dX0_copy_150 rfl ?_
        refine at_getf (v := .int (sI ((sSt (sSt (bcp M o o2 (fun x => (1 ≤ x ∧ x < 9) ∨ (16 ≤ x ∧ x < 16 + 4 * 8) ∨ (10 ≤ x ∧ x < 16))) o 9 (M o2 9)) o 10 (M o2 10)) o2 11))) C (obj_Bea G ho2) (ci := 0) rfl inX0 (slot := 11) (by decide) qw_113 rfl rfl dX0_copy_151 ?_
        have hb34 := tv_undos hT33 ho2
        refine at_ve (b := M o2 11) (by rw [sSt_ne (by omega), sSt_ne (by omega), bcp_out (by omega)]) ?_
        have hr11 := tv_undos hT ho2
        refine at_putM (slot := 11) (ty := .int) C tyX0 (obj_Bea G ho) (ci := 0) rfl inX0 tyX0_ok nmX0 (by decide) qw_113 rfl rfl (by decide +kernel) rfl rfl (Nat.le_of_ble_eq_true rfl) rfl dX0_copy_154 ?_
        have hT35 : TInv (sSt (sSt (sSt (bcp M o o2 (fun x => (1 ≤ x ∧ x < 9) ∨ (16 ≤ x ∧ x < 16 + 4 * 8) ∨ (10 ≤ x ∧ x < 16))) o 9 (M o2 9)) o 10 (M o2 10)) o 11 (M o2 11)) := tw_undos hT33 ho (⟨by omega, by omega⟩)
        exact hret _ _ _ _ dX0_copy_157 (⟨bcp_end (fun x hx => by omega), hT35, rfl⟩)
      · refine at_aload_n C 0 dX0_copy_79 rfl ?_
        refine at_getf (v := .ref (G.1 ((o + 9)))) C (obj_Bea G ho) (ci := 0) rfl inX0 (slot := 5) (by decide) qw_97 rfl rfl dX0_copy_80 ?_
        refine at_iload_n C 2 dX0_copy_83 rfl ?_
        have hl36 : u < 8 := by omega
        refine at_aaldM (f := fun u => some (G.1 (o + 16 + 4 * u))) (b := (o + 16 + 4 * u)) (n := 8) C u (isB_lt ho (by omega)) (by decide) (fun r q => by rw [shp_B G ho (by omega)]; rfl) (rfl) hl36 rfl dX0_copy_84 ?_
        refine at_aload_n C 1 dX0_copy_85 rfl ?_
        refine at_getf (v := .ref (G.1 ((o2 + 9)))) C (obj_Bea G ho2) (ci := 0) rfl inX0 (slot := 5) (by decide) qw_97 rfl rfl dX0_copy_86 ?_
        refine at_iload_n C 2 dX0_copy_89 rfl ?_
        have hl37 : u < 8 := by omega
        refine at_aaldM (f := fun u => some (G.1 (o2 + 16 + 4 * u))) (b := (o2 + 16 + 4 * u)) (n := 8) C u (isB_lt ho2 (by omega)) (by decide) (fun r q => by rw [shp_B G ho2 (by omega)]; rfl) (rfl) hl37 rfl dX0_copy_90 ?_
        refine at_call_v C (c_X1_copy l D G (isMo_past G ho hl36) (isMo_past G ho2 hl37) (mrg_past ho (by omega)) (mrg_past ho2 (by omega)) (by omega) hTk) (As := [.ref (G.1 ((o2 + 16 + 4 * u)))]) ((isMo_past G ho hl36).1) (ci := 1) rfl qw_541 qw_538 qw_3 qw_539 qw_540 ⟨by decide, by decide, show (parseMethodDescriptor yX1_copy.desc).map (fun d => d.parameters.length) = some 1 by decide +kernel⟩ ⟨by decide, by decide⟩ ⟨Nat.zero_le _, Nat.zero_le _⟩ (Nat.le_of_ble_eq_true rfl) dX0_copy_91 rfl (fun M' L' hp39 => ?_)
        obtain ⟨rfl, hT38, rfl⟩ := hp39
        have e41 : _ = bcp M o o2 (fun x => (1 ≤ x ∧ x < 9) ∨ (16 ≤ x ∧ x < 16 + 4 * (u + 1))) := bcp_mom' (M := M) (a := o) (b := o2) (u := u) (P := (fun x => (1 ≤ x ∧ x < 9) ∨ (16 ≤ x ∧ x < 16 + 4 * u))) (R := (fun x => (1 ≤ x ∧ x < 9) ∨ (16 ≤ x ∧ x < 16 + 4 * (u + 1)))) hd (by omega) (fun x h1 h2 => by omega) (fun x => by omega)
        have hT40 : TInv (bcp M o o2 (fun x => (1 ≤ x ∧ x < 9) ∨ (16 ≤ x ∧ x < 16 + 4 * (u + 1)))) := e41 ▸ hT38
        refine at_m e41 ?_
        refine at_iinc C 2 [(2, .int (sI ((u : Int) + 1))), (0, .ref (G.1 (o))), (1, .ref (G.1 (o2)))] dX0_copy_94 rfl (by decide) rfl ?_
        refine at_goto C 73 dX0_copy_97 (by decide) ?_
        refine at_lv [1, 2, 0] rfl ?_
        exact at_eq (ih73 (u + 1) (by omega) (by omega) (hT40)) (lvc_s (lvc_s (lvc_i (by omega) rfl))) rfl (rfl) (rfl)
  refine at_lv [1, 2, 0] rfl ?_
  exact at_eq (H73 _ 0 (Nat.lt_succ_self _) (by omega) ((bcp_eq (M := M) (a := o) (b := o2) (P := (fun x => 1 ≤ x ∧ x < 9)) (R := (fun x => (1 ≤ x ∧ x < 9) ∨ (16 ≤ x ∧ x < 16 + 4 * 0))) (fun x => by omega)) ▸ hT15)) (lvc_s (lvc_s (lvc_i (rfl) rfl))) rfl (bcp_eq (fun x => by omega)) (rfl)
