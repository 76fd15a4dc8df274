theorem bCho_r {M : sM} {o : Nat} (hT : TInv M) (ho : isB o) (i : Nat) : -1 ≤ bCho M o i ∧ bCho M o i < nS M o := by
  have := nea_r (fun s => shv M o s) (fun s => bDst M o s i) (nS M o)
  unfold bCho bNea
  split
  · exact this
  · omega
theorem nea_yes {p : Nat → Prop} [DecidablePred p] {d : Nat → Int} {n : Nat} (h : p n) (h2 : nea p d n = -1 ∨ d n < d (nea p d n).toNat) : nea p d (n + 1) = n := if_pos ⟨h, h2⟩
theorem nea_no {p : Nat → Prop} [DecidablePred p] {d : Nat → Int} {n : Nat} (h : p n → ¬ (nea p d n = -1 ∨ d n < d (nea p d n).toNat)) : nea p d (n + 1) = nea p d n := if_neg (fun z => h z.1 z.2)
set_option maxHeartbeats 4000000 in
set_option maxRecDepth 100000 in
theorem c_X1_copy (l : Launch) (D : va_G) (G : sG) {M : sM} {L : sL} {a b : Nat} (ha : isMo G a) (hb : isMo G b) (ra : mrg a) (rb : mrg b) (hd : a + 4 ≤ b ∨ b + 4 ≤ a) (hT : TInv M) : sKv l D G yX1_copy cX1_copy 2 1 40 [.ref (G.1 (a)), .ref (G.1 (b))] M L (fun M' L' => M' = mCp M a b ∧ TInv M' ∧ L = L') := by
  refine sKv_go (by decide) (Nat.le_of_ble_eq_true rfl) ?_
  intro zp ze zs zm za zb zt zc Q C hret
  refine at_eq (lv' := [(0, .ref (G.1 (a))), (1, .ref (G.1 (b)))]) (st' := []) (M' := M) (L' := L) ?_ rfl rfl rfl rfl
  refine at_aload_n C 1 dX1_copy_0 rfl ?_
  refine at_getf (v := .ref (G.1 ((b + 1)))) C (hb.1) (ci := 1) rfl inX1 (slot := 0) (by decide) qw_35 rfl rfl dX1_copy_1 ?_
  refine at_iconst C dX1_copy_4 ?_
  refine at_aload_n C 0 dX1_copy_5 rfl ?_
  refine at_getf (v := .ref (G.1 ((a + 1)))) C (ha.1) (ci := 1) rfl inX1 (slot := 0) (by decide) qw_35 rfl rfl dX1_copy_6 ?_
  refine at_iconst C dX1_copy_9 ?_
  refine at_bipush C dX1_copy_10 (by decide) (by decide) ?_
  refine at_copyI C 0 0 6 qw_542 (hb.2.1) (ha.2.1) (rfl) (rfl) (rfl) (by omega) (by omega) ⟨by decide, Nat.le_of_ble_eq_true rfl⟩ dX1_copy_12 ?_
  have hT1 : TInv (sCpy M (b + 1) (a + 1) 0 0 6) := tv_cpy hT (fun i hi => by rw [rb.1, ra.1])
  refine at_aload_n C 1 dX1_copy_15 rfl ?_
  refine at_getf (v := .ref (G.1 ((b + 2)))) C (hb.1) (ci := 1) rfl inX1 (slot := 1) (by decide) qw_39 rfl rfl dX1_copy_16 ?_
  refine at_iconst C dX1_copy_19 ?_
  refine at_aload_n C 0 dX1_copy_20 rfl ?_
  refine at_getf (v := .ref (G.1 ((a + 2)))) C (ha.1) (ci := 1) rfl inX1 (slot := 1) (by decide) qw_39 rfl rfl dX1_copy_21 ?_
  refine at_iconst C dX1_copy_24 ?_
  refine at_bipush C dX1_copy_25 (by decide) (by decide) ?_
  refine at_copyI C 0 0 6 qw_542 (hb.2.2.1) (ha.2.2.1) (rfl) (rfl) (rfl) (by omega) (by omega) ⟨by decide, Nat.le_of_ble_eq_true rfl⟩ dX1_copy_27 ?_
  have hT2 : TInv (sCpy (sCpy M (b + 1) (a + 1) 0 0 6) (b + 2) (a + 2) 0 0 6) := tv_cpy hT1 (fun i hi => by rw [rb.2.1, ra.2.1])
  refine at_aload_n C 1 dX1_copy_30 rfl ?_
  refine at_getf (v := .ref (G.1 ((b + 3)))) C (hb.1) (ci := 1) rfl inX1 (slot := 2) (by decide) qw_43 rfl rfl dX1_copy_31 ?_
  refine at_iconst C dX1_copy_34 ?_
  refine at_aload_n C 0 dX1_copy_35 rfl ?_
  refine at_getf (v := .ref (G.1 ((a + 3)))) C (ha.1) (ci := 1) rfl inX1 (slot := 2) (by decide) qw_43 rfl rfl dX1_copy_36 ?_
  refine at_iconst C dX1_copy_39 ?_
  refine at_bipush C dX1_copy_40 (by decide) (by decide) ?_
  refine at_copyI C 0 0 6 qw_542 (hb.2.2.2) (ha.2.2.2) (rfl) (rfl) (rfl) (by omega) (by omega) ⟨by decide, Nat.le_of_ble_eq_true rfl⟩ dX1_copy_42 ?_
  have hT3 : TInv (sCpy (sCpy (sCpy M (b + 1) (a + 1) 0 0 6) (b + 2) (a + 2) 0 0 6) (b + 3) (a + 3) 0 0 6) := tv_cpy hT2 (fun i hi => by rw [rb.2.2.1, ra.2.2.1])
  refine at_aload_n C 0 dX1_copy_45 rfl ?_
  refine at_aload_n C 1 dX1_copy_46 rfl ?_
  refine at_getf (v := .int (sI ((sCpy (sCpy (sCpy M (b + 1) (a + 1) 0 0 6) (b + 2) (a + 2) 0 0 6) (b + 3) (a + 3) 0 0 6) b 3))) C (hb.1) (ci := 1) rfl inX1 (slot := 3) (by decide) qw_46 rfl rfl dX1_copy_47 ?_
  refine at_putM (slot := 3) (ty := .int) C tyX1 (ha.1) (ci := 1) rfl inX1 tyX1_ok nmX1 (by decide) qw_46 rfl rfl (by decide +kernel) rfl rfl (Nat.le_of_ble_eq_true rfl) rfl dX1_copy_50 ?_
  have hT4 : TInv (sSt (sCpy (sCpy (sCpy M (b + 1) (a + 1) 0 0 6) (b + 2) (a + 2) 0 0 6) (b + 3) (a + 3) 0 0 6) a 3 ((sCpy (sCpy (sCpy M (b + 1) (a + 1) 0 0 6) (b + 2) (a + 2) 0 0 6) (b + 3) (a + 3) 0 0 6) b 3)) := tv_st hT3 ra.2.2.2.1 (tv hT3 rb.2.2.2.1)
  refine at_aload_n C 0 dX1_copy_53 rfl ?_
  refine at_aload_n C 1 dX1_copy_54 rfl ?_
  refine at_getf (v := .int (sI ((sSt (sCpy (sCpy (sCpy M (b + 1) (a + 1) 0 0 6) (b + 2) (a + 2) 0 0 6) (b + 3) (a + 3) 0 0 6) a 3 ((sCpy (sCpy (sCpy M (b + 1) (a + 1) 0 0 6) (b + 2) (a + 2) 0 0 6) (b + 3) (a + 3) 0 0 6) b 3)) b 4))) C (hb.1) (ci := 1) rfl inX1 (slot := 4) (by decide) qw_50 rfl rfl dX1_copy_55 ?_
  refine at_putM (slot := 4) (ty := .int) C tyX1 (ha.1) (ci := 1) rfl inX1 tyX1_ok nmX1 (by decide) qw_50 rfl rfl (by decide +kernel) rfl rfl (Nat.le_of_ble_eq_true rfl) rfl dX1_copy_58 ?_
  have hT5 : TInv (sSt (sSt (sCpy (sCpy (sCpy M (b + 1) (a + 1) 0 0 6) (b + 2) (a + 2) 0 0 6) (b + 3) (a + 3) 0 0 6) a 3 ((sCpy (sCpy (sCpy M (b + 1) (a + 1) 0 0 6) (b + 2) (a + 2) 0 0 6) (b + 3) (a + 3) 0 0 6) b 3)) a 4 ((sSt (sCpy (sCpy (sCpy M (b + 1) (a + 1) 0 0 6) (b + 2) (a + 2) 0 0 6) (b + 3) (a + 3) 0 0 6) a 3 ((sCpy (sCpy (sCpy M (b + 1) (a + 1) 0 0 6) (b + 2) (a + 2) 0 0 6) (b + 3) (a + 3) 0 0 6) b 3)) b 4)) := tv_st hT4 ra.2.2.2.2 (tv hT4 rb.2.2.2.2)
  exact hret _ _ _ _ dX1_copy_61 (⟨mCp_is hd, hT5, rfl⟩)

set_option maxHeartbeats 4000000 in
set_option maxRecDepth 100000 in
theorem c_X4_put_sgn (l : Launch) (D : va_G) (G : sG) {M : sM} {L : sL} {o : Nat} (ho : isB o) (hT : TInv M) (c : Nat) (v : Int) (hc : c < 4) (hv : 0 ≤ v ∧ v ≤ 60) (hs : M (o + 10) 3 < 5) : sKv l D G yX4_put cX4_put 3 0 0 [.ref (G.1 ((o + 10))), .int (sI ((c : Int))), .int (sI (v))] M L (fun M' L' => M' = tput M (o + 10) 2 c v ∧ TInv M' ∧ L = L') := by
  refine sKv_go (by decide) (Nat.le_of_ble_eq_true rfl) ?_
  intro zp ze zs zm za zb zt zc Q C hret
  refine at_eq (lv' := [(0, .ref (G.1 ((o + 10)))), (1, .int (sI ((c : Int)))), (2, .int (sI (v)))]) (st' := []) (M' := M) (L' := L) ?_ rfl rfl rfl rfl
  refine at_iload_n C 1 dX4_put_0 rfl ?_
  refine at_aload_n C 0 dX4_put_1 rfl ?_
  refine at_getf (v := .int (sI (M (o + 10) 1))) C ((isTa_sig G ho).1) (ci := 4) rfl inX4 (slot := 1) (by decide) qw_72 rfl rfl dX4_put_2 ?_
  have hb1 := tv hT (k := (o + 10)) (j := 1) (lo := 2) (hi := 2) (by rw [rg_B ho (by omega)]; rfl)
  refine at_ve (b := 2) (by omega) ?_
  refine at_icmp_ge C 25 dX4_put_5 (by decide) (⟨by omega, by omega⟩) (⟨by omega, by omega⟩) (fun h2 => ?_) (fun h2 => ?_)
  · exact hret _ _ _ _ dX4_put_25 (⟨by unfold tput; rw [if_neg (by omega)], hT, rfl⟩)
  · refine at_aload_n C 0 dX4_put_8 rfl ?_
    refine at_getf (v := .ref (G.1 (((o + 10) + 1)))) C ((isTa_sig G ho).1) (ci := 4) rfl inX4 (slot := 2) (by decide) qw_73 rfl rfl dX4_put_9 ?_
    refine at_aload_n C 0 dX4_put_12 rfl ?_
    refine at_getf (v := .int (sI (M (o + 10) 3))) C ((isTa_sig G ho).1) (ci := 4) rfl inX4 (slot := 3) (by decide) qw_74 rfl rfl dX4_put_13 ?_
    have hb3 := tv hT (k := (o + 10)) (j := 3) (lo := 0) (hi := 5) (by rw [rg_B ho (by omega)]; rfl)
    refine at_aload_n C 0 dX4_put_16 rfl ?_
    refine at_getf (v := .int (sI (M (o + 10) 1))) C ((isTa_sig G ho).1) (ci := 4) rfl inX4 (slot := 1) (by decide) qw_72 rfl rfl dX4_put_17 ?_
    have hb4 := tv hT (k := (o + 10)) (j := 1) (lo := 2) (hi := 2) (by rw [rg_B ho (by omega)]; rfl)
    refine at_ve (b := 2) (by omega) ?_
    refine at_imul C dX4_put_20 ?_
    refine at_iload_n C 1 dX4_put_21 rfl ?_
    refine at_iadd C dX4_put_22 ?_
    refine at_iload_n C 2 dX4_put_23 rfl ?_
    refine at_iast C ((M (o + 10) 3).toNat * 2 + c) ((isTa_sig G ho).2) (by omega) (by omega) dX4_put_24 ?_
    have hT5 : TInv (sSt M ((o + 10) + 1) ((M (o + 10) 3).toNat * 2 + c) v) := tw_sgn hT ho (⟨by omega, by omega⟩)
    exact hret _ _ _ _ dX4_put_25 (⟨by unfold tput; rw [if_pos (by omega)], hT5, rfl⟩)

set_option maxHeartbeats 4000000 in
set_option maxRecDepth 100000 in
theorem c_X4_add_sgn (l : Launch) (D : va_G) (G : sG) {M : sM} {L : sL} {o : Nat} (ho : isB o) (hT : TInv M) (a b c d : Int) (ha : 0 ≤ a ∧ a ≤ 60) (hb : 0 ≤ b ∧ b ≤ 60) (hc : 0 ≤ c ∧ c ≤ 60) (hd : 0 ≤ d ∧ d ≤ 60) (hs : M (o + 10) 3 < 5) : sKi l D G yX4_add cX4_add 5 .int 1 22 [.ref (G.1 ((o + 10))), .int (sI (a)), .int (sI (b)), .int (sI (c)), .int (sI (d))] M L (fun r M' L' => r = sI (M (o + 10) 3 + 1) ∧ M' = tadd M (o + 10) 2 a b c d ∧ TInv M' ∧ L = L') := by
  refine sKi_go (by decide) (Nat.le_of_ble_eq_true rfl) ?_
  intro zp ze zs zm za zb zt zc Q C hret
  refine at_eq (lv' := [(0, .ref (G.1 ((o + 10)))), (1, .int (sI (a))), (2, .int (sI (b))), (3, .int (sI (c))), (4, .int (sI (d)))]) (st' := []) (M' := M) (L' := L) ?_ rfl rfl rfl rfl
  refine at_aload_n C 0 dX4_add_0 rfl ?_
  refine at_getf (v := .int (sI (M (o + 10) 3))) C ((isTa_sig G ho).1) (ci := 4) rfl inX4 (slot := 3) (by decide) qw_74 rfl rfl dX4_add_1 ?_
  have hb1 := tv hT (k := (o + 10)) (j := 3) (lo := 0) (hi := 5) (by rw [rg_B ho (by omega)]; rfl)
  refine at_aload_n C 0 dX4_add_4 rfl ?_
  refine at_getf (v := .int (sI (M (o + 10) 0))) C ((isTa_sig G ho).1) (ci := 4) rfl inX4 (slot := 0) (by decide) qw_71 rfl rfl dX4_add_5 ?_
  have hb2 := tv hT (k := (o + 10)) (j := 0) (lo := 5) (hi := 5) (by rw [rg_B ho (by omega)]; rfl)
  refine at_ve (b := 5) (by omega) ?_
  refine at_icmp_ge C 46 dX4_add_8 (by decide) (⟨by omega, by omega⟩) (⟨by omega, by omega⟩) (fun h3 => absurd h3 (by omega)) (fun h3 => ?_)
  refine at_aload_n C 0 dX4_add_11 rfl ?_
  refine at_iconst C dX4_add_12 ?_
  refine at_iload_n C 1 dX4_add_13 rfl ?_
  refine at_call_v C (c_X4_put_sgn l D G ho hT 0 a (by omega) ⟨by omega, by omega⟩ (by omega)) (As := [.int (sI (0)), .int (sI (a))]) ((isTa_sig G ho).1) (ci := 4) rfl qw_730 qw_727 qw_4 qw_729 qp_26 ⟨by decide, by decide, show (parseMethodDescriptor yX4_put.desc).map (fun d => d.parameters.length) = some 2 by decide +kernel⟩ ⟨by decide, by decide⟩ ⟨Nat.zero_le _, Nat.zero_le _⟩ (Nat.le_of_ble_eq_true rfl) dX4_add_14 rfl (fun M' L' hp6 => ?_)
  obtain ⟨rfl, hT4, rfl⟩ := hp6
  have hz5 : (tput M (o + 10) 2 0 a) (o + 10) 3 = M (o + 10) 3 := by simp only [tput_3]
  refine at_aload_n C 0 dX4_add_17 rfl ?_
  refine at_iconst C dX4_add_18 ?_
  refine at_iload_n C 2 dX4_add_19 rfl ?_
  refine at_call_v C (c_X4_put_sgn l D G ho hT4 1 b (by omega) ⟨by omega, by omega⟩ (by omega)) (As := [.int (sI (1)), .int (sI (b))]) ((isTa_sig G ho).1) (ci := 4) rfl qw_730 qw_727 qw_4 qw_729 qp_26 ⟨by decide, by decide, show (parseMethodDescriptor yX4_put.desc).map (fun d => d.parameters.length) = some 2 by decide +kernel⟩ ⟨by decide, by decide⟩ ⟨Nat.zero_le _, Nat.zero_le _⟩ (Nat.le_of_ble_eq_true rfl) dX4_add_20 rfl (fun M' L' hp9 => ?_)
  obtain ⟨rfl, hT7, rfl⟩ := hp9
  have hz8 : (tput (tput M (o + 10) 2 0 a) (o + 10) 2 1 b) (o + 10) 3 = M (o + 10) 3 := by simp only [tput_3]
  refine at_aload_n C 0 dX4_add_23 rfl ?_
  refine at_iconst C dX4_add_24 ?_
  refine at_iload_n C 3 dX4_add_25 rfl ?_
  refine at_call_v C (c_X4_put_sgn l D G ho hT7 2 c (by omega) ⟨by omega, by omega⟩ (by omega)) (As := [.int (sI (2)), .int (sI (c))]) ((isTa_sig G ho).1) (ci := 4) rfl qw_730 qw_727 qw_4 qw_729 qp_26 ⟨by decide, by decide, show (parseMethodDescriptor yX4_put.desc).map (fun d => d.parameters.length) = some 2 by decide +kernel⟩ ⟨by decide, by decide⟩ ⟨Nat.zero_le _, Nat.zero_le _⟩ (Nat.le_of_ble_eq_true rfl) dX4_add_26 rfl (fun M' L' hp12 => ?_)
  obtain ⟨rfl, hT10, rfl⟩ := hp12
  have hz11 : (tput (tput (tput M (o + 10) 2 0 a) (o + 10) 2 1 b) (o + 10) 2 2 c) (o + 10) 3 = M (o + 10) 3 := by simp only [tput_3]
  refine at_aload_n C 0 dX4_add_29 rfl ?_
  refine at_iconst C dX4_add_30 ?_
  refine at_iload C 4 dX4_add_31 rfl ?_
  refine at_call_v C (c_X4_put_sgn l D G ho hT10 3 d (by omega) ⟨by omega, by omega⟩ (by omega)) (As := [.int (sI (3)), .int (sI (d))]) ((isTa_sig G ho).1) (ci := 4) rfl qw_730 qw_727 qw_4 qw_729 qp_26 ⟨by decide, by decide, show (parseMethodDescriptor yX4_put.desc).map (fun d => d.parameters.length) = some 2 by decide +kernel⟩ ⟨by decide, by decide⟩ ⟨Nat.zero_le _, Nat.zero_le _⟩ (Nat.le_of_ble_eq_true rfl) dX4_add_33 rfl (fun M' L' hp15 => ?_)
  obtain ⟨rfl, hT13, rfl⟩ := hp15
  have hz14 : (tput (tput (tput (tput M (o + 10) 2 0 a) (o + 10) 2 1 b) (o + 10) 2 2 c) (o + 10) 2 3 d) (o + 10) 3 = M (o + 10) 3 := by simp only [tput_3]
  refine at_aload_n C 0 dX4_add_36 rfl ?_
  refine at_dup C dX4_add_37 rfl ?_
  refine at_getf (v := .int (sI ((tput (tput (tput (tput M (o + 10) 2 0 a) (o + 10) 2 1 b) (o + 10) 2 2 c) (o + 10) 2 3 d) (o + 10) 3))) C ((isTa_sig G ho).1) (ci := 4) rfl inX4 (slot := 3) (by decide) qw_74 rfl rfl dX4_add_38 ?_
  have hb16 := tv hT13 (k := (o + 10)) (j := 3) (lo := 0) (hi := 5) (by rw [rg_B ho (by omega)]; rfl)
  refine at_ve (b := M (o + 10) 3) (by omega) ?_
  refine at_iconst C dX4_add_41 ?_
  refine at_iadd C dX4_add_42 ?_
  refine at_putM (slot := 3) (ty := .int) C tyX4 ((isTa_sig G ho).1) (ci := 4) rfl inX4 tyX4_ok nmX4 (by decide) qw_74 rfl rfl (by decide +kernel) rfl rfl (Nat.le_of_ble_eq_true rfl) rfl dX4_add_43 ?_
  have hT17 : TInv (sSt (tput (tput (tput (tput M (o + 10) 2 0 a) (o + 10) 2 1 b) (o + 10) 2 2 c) (o + 10) 2 3 d) (o + 10) 3 ((M (o + 10) 3) + 1)) := tv_st hT13 (k := (o + 10)) (j := 3) (lo := 0) (hi := 5) (by rw [rg_B ho (by omega)]; rfl) (⟨by omega, by omega⟩)
  refine at_aload_n C 0 dX4_add_46 rfl ?_
  refine at_getf (v := .int (sI ((sSt (tput (tput (tput (tput M (o + 10) 2 0 a) (o + 10) 2 1 b) (o + 10) 2 2 c) (o + 10) 2 3 d) (o + 10) 3 ((M (o + 10) 3) + 1)) (o + 10) 3))) C ((isTa_sig G ho).1) (ci := 4) rfl inX4 (slot := 3) (by decide) qw_74 rfl rfl dX4_add_47 ?_
  have hb18 := tv hT17 (k := (o + 10)) (j := 3) (lo := 0) (hi := 5) (by rw [rg_B ho (by omega)]; rfl)
  refine at_ve (b := M (o + 10) 3 + 1) (sSt_eq) ?_
  exact hret _ _ _ _ _ dX4_add_50 (⟨rfl, rfl, hT17, rfl⟩)

set_option maxHeartbeats 4000000 in
set_option maxRecDepth 100000 in
theorem c_X4_get_sgn (l : Launch) (D : va_G) (G : sG) {M : sM} {L : sL} {o : Nat} (ho : isB o) (hT : TInv M) (q c : Nat) (hr : q < 5) (hc : c < 2) : sKi l D G yX4_get cX4_get 3 .int 0 0 [.ref (G.1 ((o + 10))), .int (sI ((q : Int))), .int (sI ((c : Int)))] M L (fun r M' L' => r = sI (M (o + 11) (q * 2 + c)) ∧ M = M' ∧ L = L') := by
  refine sKi_go (by decide) (Nat.le_of_ble_eq_true rfl) ?_
  intro zp ze zs zm za zb zt zc Q C hret
  refine at_eq (lv' := [(0, .ref (G.1 ((o + 10)))), (1, .int (sI ((q : Int)))), (2, .int (sI ((c : Int))))]) (st' := []) (M' := M) (L' := L) ?_ rfl rfl rfl rfl
  refine at_aload_n C 0 dX4_get_0 rfl ?_
  refine at_getf (v := .ref (G.1 (((o + 10) + 1)))) C ((isTa_sig G ho).1) (ci := 4) rfl inX4 (slot := 2) (by decide) qw_73 rfl rfl dX4_get_1 ?_
  refine at_iload_n C 1 dX4_get_4 rfl ?_
  refine at_aload_n C 0 dX4_get_5 rfl ?_
  refine at_getf (v := .int (sI (M (o + 10) 1))) C ((isTa_sig G ho).1) (ci := 4) rfl inX4 (slot := 1) (by decide) qw_72 rfl rfl dX4_get_6 ?_
  have hb1 := tv hT (k := (o + 10)) (j := 1) (lo := 2) (hi := 2) (by rw [rg_B ho (by omega)]; rfl)
  refine at_ve (b := 2) (by omega) ?_
  refine at_imul C dX4_get_9 ?_
  refine at_iload_n C 2 dX4_get_10 rfl ?_
  refine at_iadd C dX4_get_11 ?_
  refine at_iald C ((q * 2) + c) ((isTa_sig G ho).2) (by omega) (by omega) dX4_get_12 ?_
  have hb2 := tv_sgn hT ho ((q * 2) + c)
  exact hret _ _ _ _ _ dX4_get_13 (⟨rfl, rfl, rfl⟩)

set_option maxHeartbeats 4000000 in
set_option maxRecDepth 100000 in
theorem c_X4_drop_sgn (l : Launch) (D : va_G) (G : sG) {M : sM} {L : sL} {o : Nat} (ho : isB o) (hT : TInv M) : sKi l D G yX4_drop cX4_drop 2 .int 0 0 [.ref (G.1 ((o + 10)))] M L (fun r M' L' => r = sI (M (o + 10) 3) ∧ M' = sSt M (o + 10) 3 0 ∧ TInv M' ∧ L = L') := by
  refine sKi_go (by decide) (Nat.le_of_ble_eq_true rfl) ?_
  intro zp ze zs zm za zb zt zc Q C hret
  refine at_eq (lv' := [(0, .ref (G.1 ((o + 10))))]) (st' := []) (M' := M) (L' := L) ?_ rfl rfl rfl rfl
  refine at_aload_n C 0 dX4_drop_0 rfl ?_
  refine at_getf (v := .int (sI (M (o + 10) 3))) C ((isTa_sig G ho).1) (ci := 4) rfl inX4 (slot := 3) (by decide) qw_74 rfl rfl dX4_drop_1 ?_
  have hb1 := tv hT (k := (o + 10)) (j := 3) (lo := 0) (hi := 5) (by rw [rg_B ho (by omega)]; rfl)
  refine at_istore_n C [(1, .int (sI (M (o + 10) 3))), (0, .ref (G.1 ((o + 10))))] dX4_drop_4 (by decide) rfl ?_
  refine at_aload_n C 1 dX4_drop_5 rfl ?_
  refine at_iconst C dX4_drop_6 ?_
  refine at_putM (slot := 3) (ty := .int) C tyX4 ((isTa_sig G ho).1) (ci := 4) rfl inX4 tyX4_ok nmX4 (by decide) qw_74 rfl rfl (by decide +kernel) rfl rfl (Nat.le_of_ble_eq_true rfl) rfl dX4_drop_7 ?_
  have hT2 : TInv (sSt M (o + 10) 3 0) := tv_st hT (k := (o + 10)) (j := 3) (lo := 0) (hi := 5) (by rw [rg_B ho (by omega)]; rfl) (⟨by omega, by omega⟩)
  refine at_iload_n C 0 dX4_drop_10 rfl ?_
  exact hret _ _ _ _ _ dX4_drop_11 (⟨rfl, rfl, hT2, rfl⟩)

set_option maxHeartbeats 4000000 in
set_option maxRecDepth 100000 in
theorem c_X4_copy_sgn (l : Launch) (D : va_G) (G : sG) {M : sM} {L : sL} {o o2 : Nat} (ho : isB o) (ho2 : isB o2) (hd : o + 48 ≤ o2 ∨ o2 + 48 ≤ o) (hT : TInv M) : sKv l D G yX4_copy cX4_copy 2 1 40 [.ref (G.1 ((o + 10))), .ref (G.1 ((o2 + 10)))] M L (fun M' L' => M' = tcp M (o + 10) (o2 + 10) 10 ∧ TInv M' ∧ L = L') := by
  refine sKv_go (by decide) (Nat.le_of_ble_eq_true rfl) ?_
  intro zp ze zs zm za zb zt zc Q C hret
  refine at_eq (lv' := [(0, .ref (G.1 ((o + 10)))), (1, .ref (G.1 ((o2 + 10))))]) (st' := []) (M' := M) (L' := L) ?_ rfl rfl rfl rfl
  refine at_aload_n C 1 dX4_copy_0 rfl ?_
  refine at_getf (v := .ref (G.1 (((o2 + 10) + 1)))) C ((isTa_sig G ho2).1) (ci := 4) rfl inX4 (slot := 2) (by decide) qw_73 rfl rfl dX4_copy_1 ?_
  refine at_iconst C dX4_copy_4 ?_
  refine at_aload_n C 0 dX4_copy_5 rfl ?_
  refine at_getf (v := .ref (G.1 (((o + 10) + 1)))) C ((isTa_sig G ho).1) (ci := 4) rfl inX4 (slot := 2) (by decide) qw_73 rfl rfl dX4_copy_6 ?_
  refine at_iconst C dX4_copy_9 ?_
  refine at_aload_n C 0 dX4_copy_10 rfl ?_
  refine at_getf (v := .ref (G.1 (((o + 10) + 1)))) C ((isTa_sig G ho).1) (ci := 4) rfl inX4 (slot := 2) (by decide) qw_73 rfl rfl dX4_copy_11 ?_
  refine at_alen C ((isTa_sig G ho).2) dX4_copy_14 ?_
  refine at_aload_n C 1 dX4_copy_15 rfl ?_
  refine at_getf (v := .ref (G.1 (((o2 + 10) + 1)))) C ((isTa_sig G ho2).1) (ci := 4) rfl inX4 (slot := 2) (by decide) qw_73 rfl rfl dX4_copy_16 ?_
  refine at_alen C ((isTa_sig G ho2).2) dX4_copy_19 ?_
  refine at_mmin C qw_547 (⟨by omega, by omega⟩) (⟨by omega, by omega⟩) ⟨by decide, Nat.le_of_ble_eq_true rfl⟩ ⟨Nat.zero_le _, Nat.zero_le _⟩ dX4_copy_20 ?_
  refine at_ve (b := 10) (by omega) ?_
  refine at_copyI C 0 0 10 qw_548 ((isTa_sig G ho2).2) ((isTa_sig G ho).2) (rfl) (rfl) (rfl) (by omega) (by omega) ⟨by decide, Nat.le_of_ble_eq_true rfl⟩ dX4_copy_23 ?_
  have hT1 : TInv (sCpy M ((o2 + 10) + 1) ((o + 10) + 1) 0 0 10) := tv_cpy hT (fun i hi => by show rg (o2 + 11) _ = rg (o + 11) _; rw [rg_B ho2 (by omega), rg_B ho (by omega)])
  refine at_aload_n C 0 dX4_copy_26 rfl ?_
  refine at_aload_n C 1 dX4_copy_27 rfl ?_
  refine at_getf (v := .int (sI ((sCpy M ((o2 + 10) + 1) ((o + 10) + 1) 0 0 10) (o2 + 10) 3))) C ((isTa_sig G ho2).1) (ci := 4) rfl inX4 (slot := 3) (by decide) qw_74 rfl rfl dX4_copy_28 ?_
  have hb2 := tv hT1 (k := (o2 + 10)) (j := 3) (lo := 0) (hi := 5) (by rw [rg_B ho2 (by omega)]; rfl)
  refine at_ve (b := M (o2 + 10) 3) (by rw [sCpy_ne (by omega)]) ?_
  have hr3 := tv hT (k := (o2 + 10)) (j := 3) (lo := 0) (hi := 5) (by rw [rg_B ho2 (by omega)]; rfl)
  refine at_putM (slot := 3) (ty := .int) C tyX4 ((isTa_sig G ho).1) (ci := 4) rfl inX4 tyX4_ok nmX4 (by decide) qw_74 rfl rfl (by decide +kernel) rfl rfl (Nat.le_of_ble_eq_true rfl) rfl dX4_copy_31 ?_
  have hT3 : TInv (sSt (sCpy M ((o2 + 10) + 1) ((o + 10) + 1) 0 0 10) (o + 10) 3 (M (o2 + 10) 3)) := tv_st hT1 (k := (o + 10)) (j := 3) (lo := 0) (hi := 5) (by rw [rg_B ho (by omega)]; rfl) (⟨by omega, by omega⟩)
  exact hret _ _ _ _ dX4_copy_34 (⟨rfl, hT3, rfl⟩)

set_option maxHeartbeats 4000000 in
set_option maxRecDepth 100000 in
theorem c_X4_mixInto_sgn (l : Launch) (D : va_G) (G : sG) {M : sM} {L : sL} {o : Nat} (ho : isB o) (hT : TInv M) (h : Int64) : sKl l D G yX4_mixInto cX4_mixInto 6 0 0 [.ref (G.1 ((o + 10))), .long (h)] M L (fun r M' L' => r = mixR (M (o + 11)) ((M (o + 10) 3).toNat * 2) h ∧ M = M' ∧ L = L') := by
  refine sKl_go (by decide) (Nat.le_of_ble_eq_true rfl) ?_
  intro zp ze zs zm za zb zt zc Q C hret
  refine at_eq (lv' := [(0, .ref (G.1 ((o + 10)))), (1, .long (h))]) (st' := []) (M' := M) (L' := L) ?_ rfl rfl rfl rfl
  refine at_lload_n C 1 dX4_mixInto_0 rfl ?_
  refine at_lstore_n C [(3, .long (h)), (0, .ref (G.1 ((o + 10)))), (1, .long (h))] dX4_mixInto_1 (by decide) rfl ?_
  refine at_iconst C dX4_mixInto_2 ?_
  refine at_istore C [(5, .int (sI (0))), (3, .long (h)), (0, .ref (G.1 ((o + 10)))), (1, .long (h))] dX4_mixInto_3 (by decide) rfl ?_
  have H5 : ∀ (fu : Nat) (k : Nat), (M (o + 10) 3).toNat * 2 - k < fu → (k ≤ (M (o + 10) 3).toNat * 2) → sAt zp l ze (sRm 0 0) zs zm za zb zt zc D G 6 0 0 Q 5 [(0, .ref (G.1 ((o + 10)))), (1, .long (h)), (3, .long (mixR (M (o + 11)) k h)), (5, .int (sI ((k : Int))))] [] M L := by
    intro fu
    induction fu with
    | zero => intro k hd hk; exact absurd hd (Nat.not_lt_zero _)
    | succ fu ih5 =>
      intro k hd5 hk
      have hsz := tv hT (k := (o + 10)) (j := 3) (lo := 0) (hi := 5) (by rw [rg_B ho (by omega)]; rfl)
      refine at_iload C 3 dX4_mixInto_5 rfl ?_
      refine at_aload_n C 0 dX4_mixInto_7 rfl ?_
      refine at_getf (v := .int (sI (M (o + 10) 3))) C ((isTa_sig G ho).1) (ci := 4) rfl inX4 (slot := 3) (by decide) qw_74 rfl rfl dX4_mixInto_8 ?_
      have hb1 := tv hT (k := (o + 10)) (j := 3) (lo := 0) (hi := 5) (by rw [rg_B ho (by omega)]; rfl)
      refine at_aload_n C 0 dX4_mixInto_11 rfl ?_
      refine at_getf (v := .int (sI (M (o + 10) 1))) C ((isTa_sig G ho).1) (ci := 4) rfl inX4 (slot := 1) (by decide) qw_72 rfl rfl dX4_mixInto_12 ?_
      have hb2 := tv hT (k := (o + 10)) (j := 1) (lo := 2) (hi := 2) (by rw [rg_B ho (by omega)]; rfl)
      refine at_ve (b := 2) (by omega) ?_
      refine at_imul C dX4_mixInto_15 ?_
      refine at_icmp_ge C 40 dX4_mixInto_16 (by decide) (⟨by omega, by omega⟩) (⟨by omega, by omega⟩) (fun h3 => ?_) (fun h3 => ?_)
      · refine at_lload_n C 2 dX4_mixInto_40 rfl ?_
        exact hret _ _ _ _ _ dX4_mixInto_41 (⟨by rw [show (M (o + 10) 3).toNat * 2 = k by omega], rfl, rfl⟩)
      · refine at_ldc2 C qw_871 dX4_mixInto_19 ?_
        refine at_lload_n C 2 dX4_mixInto_22 rfl ?_
        refine at_lmul C dX4_mixInto_23 ?_
        refine at_aload_n C 0 dX4_mixInto_24 rfl ?_
        refine at_getf (v := .ref (G.1 (((o + 10) + 1)))) C ((isTa_sig G ho).1) (ci := 4) rfl inX4 (slot := 2) (by decide) qw_73 rfl rfl dX4_mixInto_25 ?_
        refine at_iload C 3 dX4_mixInto_28 rfl ?_
        refine at_iald C k ((isTa_sig G ho).2) (rfl) (by omega) dX4_mixInto_30 ?_
        have hb4 := tv_sgn hT ho k
        refine at_i2l C dX4_mixInto_31 ?_
        refine at_ladd C dX4_mixInto_32 ?_
        refine at_lstore_n C [(3, .long ((31 * (mixR (M (o + 11)) k h)) + (((sI (M ((o + 10) + 1) k))).toInt64))), (0, .ref (G.1 ((o + 10)))), (1, .long (h)), (5, .int (sI ((k : Int))))] dX4_mixInto_33 (by decide) rfl ?_
        refine at_iinc C 3 [(5, .int (sI ((k : Int) + 1))), (3, .long ((31 * (mixR (M (o + 11)) k h)) + (((sI (M ((o + 10) + 1) k))).toInt64))), (0, .ref (G.1 ((o + 10)))), (1, .long (h))] dX4_mixInto_34 rfl (by decide) rfl ?_
        refine at_goto C 5 dX4_mixInto_37 (by decide) ?_
        refine at_lv [2, 3, 1, 0] rfl ?_
        exact at_eq (ih5 (k + 1) (by omega) (by omega)) (lvc_s (lvc_s (lvc_l (rfl) (lvc_i (by omega) rfl)))) rfl (rfl) (rfl)
  refine at_lv [2, 3, 1, 0] rfl ?_
  exact at_eq (H5 _ 0 (Nat.lt_succ_self _) (by omega)) (lvc_s (lvc_s (lvc_l (rfl) (lvc_i (rfl) rfl)))) rfl (rfl) (rfl)

set_option maxHeartbeats 4000000 in
set_option maxRecDepth 100000 in
theorem c_X4_put_ntn (l : Launch) (D : va_G) (G : sG) {M : sM} {L : sL} {o : Nat} (ho : isB o) (hT : TInv M) (c : Nat) (v : Int) (hc : c < 4) (hv : 0 ≤ v ∧ v ≤ 99) (hs : M (o + 12) 3 < 6) : sKv l D G yX4_put cX4_put 3 0 0 [.ref (G.1 ((o + 12))), .int (sI ((c : Int))), .int (sI (v))] M L (fun M' L' => M' = tput M (o + 12) 4 c v ∧ TInv M' ∧ L = L') := by
  refine sKv_go (by decide) (Nat.le_of_ble_eq_true rfl) ?_
  intro zp ze zs zm za zb zt zc Q C hret
  refine at_eq (lv' := [(0, .ref (G.1 ((o + 12)))), (1, .int (sI ((c : Int)))), (2, .int (sI (v)))]) (st' := []) (M' := M) (L' := L) ?_ rfl rfl rfl rfl
  refine at_iload_n C 1 dX4_put_0 rfl ?_
  refine at_aload_n C 0 dX4_put_1 rfl ?_
  refine at_getf (v := .int (sI (M (o + 12) 1))) C ((isTa_not G ho).1) (ci := 4) rfl inX4 (slot := 1) (by decide) qw_72 rfl rfl dX4_put_2 ?_
  have hb1 := tv hT (k := (o + 12)) (j := 1) (lo := 4) (hi := 4) (by rw [rg_B ho (by omega)]; rfl)
  refine at_ve (b := 4) (by omega) ?_
  refine at_icmp_ge C 25 dX4_put_5 (by decide) (⟨by omega, by omega⟩) (⟨by omega, by omega⟩) (fun h2 => ?_) (fun h2 => ?_)
  · exact hret _ _ _ _ dX4_put_25 (⟨by unfold tput; rw [if_neg (by omega)], hT, rfl⟩)
  · refine at_aload_n C 0 dX4_put_8 rfl ?_
    refine at_getf (v := .ref (G.1 (((o + 12) + 1)))) C ((isTa_not G ho).1) (ci := 4) rfl inX4 (slot := 2) (by decide) qw_73 rfl rfl dX4_put_9 ?_
    refine at_aload_n C 0 dX4_put_12 rfl ?_
    refine at_getf (v := .int (sI (M (o + 12) 3))) C ((isTa_not G ho).1) (ci := 4) rfl inX4 (slot := 3) (by decide) qw_74 rfl rfl dX4_put_13 ?_
    have hb3 := tv hT (k := (o + 12)) (j := 3) (lo := 0) (hi := 6) (by rw [rg_B ho (by omega)]; rfl)
    refine at_aload_n C 0 dX4_put_16 rfl ?_
    refine at_getf (v := .int (sI (M (o + 12) 1))) C ((isTa_not G ho).1) (ci := 4) rfl inX4 (slot := 1) (by decide) qw_72 rfl rfl dX4_put_17 ?_
    have hb4 := tv hT (k := (o + 12)) (j := 1) (lo := 4) (hi := 4) (by rw [rg_B ho (by omega)]; rfl)
    refine at_ve (b := 4) (by omega) ?_
    refine at_imul C dX4_put_20 ?_
    refine at_iload_n C 1 dX4_put_21 rfl ?_
    refine at_iadd C dX4_put_22 ?_
    refine at_iload_n C 2 dX4_put_23 rfl ?_
    refine at_iast C ((M (o + 12) 3).toNat * 4 + c) ((isTa_not G ho).2) (by omega) (by omega) dX4_put_24 ?_
    have hT5 : TInv (sSt M ((o + 12) + 1) ((M (o + 12) 3).toNat * 4 + c) v) := tw_ntn hT ho (⟨by omega, by omega⟩)
    exact hret _ _ _ _ dX4_put_25 (⟨by unfold tput; rw [if_pos (by omega)], hT5, rfl⟩)

set_option maxHeartbeats 4000000 in
set_option maxRecDepth 100000 in
theorem c_X4_add_ntn (l : Launch) (D : va_G) (G : sG) {M : sM} {L : sL} {o : Nat} (ho : isB o) (hT : TInv M) (a b c d : Int) (ha : 0 ≤ a ∧ a ≤ 99) (hb : 0 ≤ b ∧ b ≤ 99) (hc : 0 ≤ c ∧ c ≤ 99) (hd : 0 ≤ d ∧ d ≤ 99) (hs : M (o + 12) 3 < 6) : sKi l D G yX4_add cX4_add 5 .int 1 22 [.ref (G.1 ((o + 12))), .int (sI (a)), .int (sI (b)), .int (sI (c)), .int (sI (d))] M L (fun r M' L' => r = sI (M (o + 12) 3 + 1) ∧ M' = tadd M (o + 12) 4 a b c d ∧ TInv M' ∧ L = L') := by
  refine sKi_go (by decide) (Nat.le_of_ble_eq_true rfl) ?_
  intro zp ze zs zm za zb zt zc Q C hret
  refine at_eq (lv' := [(0, .ref (G.1 ((o + 12)))), (1, .int (sI (a))), (2, .int (sI (b))), (3, .int (sI (c))), (4, .int (sI (d)))]) (st' := []) (M' := M) (L' := L) ?_ rfl rfl rfl rfl
  refine at_aload_n C 0 dX4_add_0 rfl ?_
  refine at_getf (v := .int (sI (M (o + 12) 3))) C ((isTa_not G ho).1) (ci := 4) rfl inX4 (slot := 3) (by decide) qw_74 rfl rfl dX4_add_1 ?_
  have hb1 := tv hT (k := (o + 12)) (j := 3) (lo := 0) (hi := 6) (by rw [rg_B ho (by omega)]; rfl)
  refine at_aload_n C 0 dX4_add_4 rfl ?_
  refine at_getf (v := .int (sI (M (o + 12) 0))) C ((isTa_not G ho).1) (ci := 4) rfl inX4 (slot := 0) (by decide) qw_71 rfl rfl dX4_add_5 ?_
  have hb2 := tv hT (k := (o + 12)) (j := 0) (lo := 6) (hi := 6) (by rw [rg_B ho (by omega)]; rfl)
  refine at_ve (b := 6) (by omega) ?_
  refine at_icmp_ge C 46 dX4_add_8 (by decide) (⟨by omega, by omega⟩) (⟨by omega, by omega⟩) (fun h3 => absurd h3 (by omega)) (fun h3 => ?_)
  refine at_aload_n C 0 dX4_add_11 rfl ?_
  refine at_iconst C dX4_add_12 ?_
  refine at_iload_n C 1 dX4_add_13 rfl ?_
  refine at_call_v C (c_X4_put_ntn l D G ho hT 0 a (by omega) ⟨by omega, by omega⟩ (by omega)) (As := [.int (sI (0)), .int (sI (a))]) ((isTa_not G ho).1) (ci := 4) rfl qw_730 qw_727 qw_4 qw_729 qp_26 ⟨by decide, by decide, show (parseMethodDescriptor yX4_put.desc).map (fun d => d.parameters.length) = some 2 by decide +kernel⟩ ⟨by decide, by decide⟩ ⟨Nat.zero_le _, Nat.zero_le _⟩ (Nat.le_of_ble_eq_true rfl) dX4_add_14 rfl (fun M' L' hp6 => ?_)
  obtain ⟨rfl, hT4, rfl⟩ := hp6
  have hz5 : (tput M (o + 12) 4 0 a) (o + 12) 3 = M (o + 12) 3 := by simp only [tput_3]
  refine at_aload_n C 0 dX4_add_17 rfl ?_
  refine at_iconst C dX4_add_18 ?_
  refine at_iload_n C 2 dX4_add_19 rfl ?_
  refine at_call_v C (c_X4_put_ntn l D G ho hT4 1 b (by omega) ⟨by omega, by omega⟩ (by omega)) (As := [.int (sI (1)), .int (sI (b))]) ((isTa_not G ho).1) (ci := 4) rfl qw_730 qw_727 qw_4 qw_729 qp_26 ⟨by decide, by decide, show (parseMethodDescriptor yX4_put.desc).map (fun d => d.parameters.length) = some 2 by decide +kernel⟩ ⟨by decide, by decide⟩ ⟨Nat.zero_le _, Nat.zero_le _⟩ (Nat.le_of_ble_eq_true rfl) dX4_add_20 rfl (fun M' L' hp9 => ?_)
  obtain ⟨rfl, hT7, rfl⟩ := hp9
  have hz8 : (tput (tput M (o + 12) 4 0 a) (o + 12) 4 1 b) (o + 12) 3 = M (o + 12) 3 := by simp only [tput_3]
  refine at_aload_n C 0 dX4_add_23 rfl ?_
  refine at_iconst C dX4_add_24 ?_
  refine at_iload_n C 3 dX4_add_25 rfl ?_
  refine at_call_v C (c_X4_put_ntn l D G ho hT7 2 c (by omega) ⟨by omega, by omega⟩ (by omega)) (As := [.int (sI (2)), .int (sI (c))]) ((isTa_not G ho).1) (ci := 4) rfl qw_730 qw_727 qw_4 qw_729 qp_26 ⟨by decide, by decide, show (parseMethodDescriptor yX4_put.desc).map (fun d => d.parameters.length) = some 2 by decide +kernel⟩ ⟨by decide, by decide⟩ ⟨Nat.zero_le _, Nat.zero_le _⟩ (Nat.le_of_ble_eq_true rfl) dX4_add_26 rfl (fun M' L' hp12 => ?_)
  obtain ⟨rfl, hT10, rfl⟩ := hp12
  have hz11 : (tput (tput (tput M (o + 12) 4 0 a) (o + 12) 4 1 b) (o + 12) 4 2 c) (o + 12) 3 = M (o + 12) 3 := by simp only [tput_3]
  refine at_aload_n C 0 dX4_add_29 rfl ?_
  refine at_iconst C dX4_add_30 ?_
  refine at_iload C 4 dX4_add_31 rfl ?_
  refine at_call_v C (c_X4_put_ntn l D G ho hT10 3 d (by omega) ⟨by omega, by omega⟩ (by omega)) (As := [.int (sI (3)), .int (sI (d))]) ((isTa_not G ho).1) (ci := 4) rfl qw_730 qw_727 qw_4 qw_729 qp_26 ⟨by decide, by decide, show (parseMethodDescriptor yX4_put.desc).map (fun d => d.parameters.length) = some 2 by decide +kernel⟩ ⟨by decide, by decide⟩ ⟨Nat.zero_le _, Nat.zero_le _⟩ (Nat.le_of_ble_eq_true rfl) dX4_add_33 rfl (fun M' L' hp15 => ?_)
  obtain ⟨rfl, hT13, rfl⟩ := hp15
  have hz14 : (tput (tput (tput (tput M (o + 12) 4 0 a) (o + 12) 4 1 b) (o + 12) 4 2 c) (o + 12) 4 3 d) (o + 12) 3 = M (o + 12) 3 := by simp only [tput_3]
  refine at_aload_n C 0 dX4_add_36 rfl ?_
  refine at_dup C dX4_add_37 rfl ?_
  refine at_getf (v := .int (sI ((tput (tput (tput (tput M (o + 12) 4 0 a) (o + 12) 4 1 b) (o + 12) 4 2 c) (o + 12) 4 3 d) (o + 12) 3))) C ((isTa_not G ho).1) (ci := 4) rfl inX4 (slot := 3) (by decide) qw_74 rfl rfl dX4_add_38 ?_
  have hb16 := tv hT13 (k := (o + 12)) (j := 3) (lo := 0) (hi := 6) (by rw [rg_B ho (by omega)]; rfl)
  refine at_ve (b := M (o + 12) 3) (by omega) ?_
  refine at_iconst C dX4_add_41 ?_
  refine at_iadd C dX4_add_42 ?_
  refine at_putM (slot := 3) (ty := .int) C tyX4 ((isTa_not G ho).1) (ci := 4) rfl inX4 tyX4_ok nmX4 (by decide) qw_74 rfl rfl (by decide +kernel) rfl rfl (Nat.le_of_ble_eq_true rfl) rfl dX4_add_43 ?_
  have hT17 : TInv (sSt (tput (tput (tput (tput M (o + 12) 4 0 a) (o + 12) 4 1 b) (o + 12) 4 2 c) (o + 12) 4 3 d) (o + 12) 3 ((M (o + 12) 3) + 1)) := tv_st hT13 (k := (o + 12)) (j := 3) (lo := 0) (hi := 6) (by rw [rg_B ho (by omega)]; rfl) (⟨by omega, by omega⟩)
  refine at_aload_n C 0 dX4_add_46 rfl ?_
  refine at_getf (v := .int (sI ((sSt (tput (tput (tput (tput M (o + 12) 4 0 a) (o + 12) 4 1 b) (o + 12) 4 2 c) (o + 12) 4 3 d) (o + 12) 3 ((M (o + 12) 3) + 1)) (o + 12) 3))) C ((isTa_not G ho).1) (ci := 4) rfl inX4 (slot := 3) (by decide) qw_74 rfl rfl dX4_add_47 ?_
  have hb18 := tv hT17 (k := (o + 12)) (j := 3) (lo := 0) (hi := 6) (by rw [rg_B ho (by omega)]; rfl)
  refine at_ve (b := M (o + 12) 3 + 1) (sSt_eq) ?_
  exact hret _ _ _ _ _ dX4_add_50 (⟨rfl, rfl, hT17, rfl⟩)

set_option maxHeartbeats 4000000 in
set_option maxRecDepth 100000 in
theorem c_X4_get_ntn (l : Launch) (D : va_G) (G : sG) {M : sM} {L : sL} {o : Nat} (ho : isB o) (hT : TInv M) (q c : Nat) (hr : q < 6) (hc : c < 4) : sKi l D G yX4_get cX4_get 3 .int 0 0 [.ref (G.1 ((o + 12))), .int (sI ((q : Int))), .int (sI ((c : Int)))] M L (fun r M' L' => r = sI (M (o + 13) (q * 4 + c)) ∧ M = M' ∧ L = L') := by
  refine sKi_go (by decide) (Nat.le_of_ble_eq_true rfl) ?_
  intro zp ze zs zm za zb zt zc Q C hret
  refine at_eq (lv' := [(0, .ref (G.1 ((o + 12)))), (1, .int (sI ((q : Int)))), (2, .int (sI ((c : Int))))]) (st' := []) (M' := M) (L' := L) ?_ rfl rfl rfl rfl
  refine at_aload_n C 0 dX4_get_0 rfl ?_
  refine at_getf (v := .ref (G.1 (((o + 12) + 1)))) C ((isTa_not G ho).1) (ci := 4) rfl inX4 (slot := 2) (by decide) qw_73 rfl rfl dX4_get_1 ?_
  refine at_iload_n C 1 dX4_get_4 rfl ?_
  refine at_aload_n C 0 dX4_get_5 rfl ?_
  refine at_getf (v := .int (sI (M (o + 12) 1))) C ((isTa_not G ho).1) (ci := 4) rfl inX4 (slot := 1) (by decide) qw_72 rfl rfl dX4_get_6 ?_
  have hb1 := tv hT (k := (o + 12)) (j := 1) (lo := 4) (hi := 4) (by rw [rg_B ho (by omega)]; rfl)
  refine at_ve (b := 4) (by omega) ?_
  refine at_imul C dX4_get_9 ?_
  refine at_iload_n C 2 dX4_get_10 rfl ?_
  refine at_iadd C dX4_get_11 ?_
  refine at_iald C ((q * 4) + c) ((isTa_not G ho).2) (by omega) (by omega) dX4_get_12 ?_
  have hb2 := tv_ntn hT ho ((q * 4) + c)
  exact hret _ _ _ _ _ dX4_get_13 (⟨rfl, rfl, rfl⟩)

set_option maxHeartbeats 4000000 in
set_option maxRecDepth 100000 in
theorem c_X4_drop_ntn (l : Launch) (D : va_G) (G : sG) {M : sM} {L : sL} {o : Nat} (ho : isB o) (hT : TInv M) : sKi l D G yX4_drop cX4_drop 2 .int 0 0 [.ref (G.1 ((o + 12)))] M L (fun r M' L' => r = sI (M (o + 12) 3) ∧ M' = sSt M (o + 12) 3 0 ∧ TInv M' ∧ L = L') := by
  refine sKi_go (by decide) (Nat.le_of_ble_eq_true rfl) ?_
  intro zp ze zs zm za zb zt zc Q C hret
  refine at_eq (lv' := [(0, .ref (G.1 ((o + 12))))]) (st' := []) (M' := M) (L' := L) ?_ rfl rfl rfl rfl
  refine at_aload_n C 0 dX4_drop_0 rfl ?_
  refine at_getf (v := .int (sI (M (o + 12) 3))) C ((isTa_not G ho).1) (ci := 4) rfl inX4 (slot := 3) (by decide) qw_74 rfl rfl dX4_drop_1 ?_
  have hb1 := tv hT (k := (o + 12)) (j := 3) (lo := 0) (hi := 6) (by rw [rg_B ho (by omega)]; rfl)
  refine at_istore_n C [(1, .int (sI (M (o + 12) 3))), (0, .ref (G.1 ((o + 12))))] dX4_drop_4 (by decide) rfl ?_
  refine at_aload_n C 1 dX4_drop_5 rfl ?_
  refine at_iconst C dX4_drop_6 ?_
  refine at_putM (slot := 3) (ty := .int) C tyX4 ((isTa_not G ho).1) (ci := 4) rfl inX4 tyX4_ok nmX4 (by decide) qw_74 rfl rfl (by decide +kernel) rfl rfl (Nat.le_of_ble_eq_true rfl) rfl dX4_drop_7 ?_
  have hT2 : TInv (sSt M (o + 12) 3 0) := tv_st hT (k := (o + 12)) (j := 3) (lo := 0) (hi := 6) (by rw [rg_B ho (by omega)]; rfl) (⟨by omega, by omega⟩)
  refine at_iload_n C 0 dX4_drop_10 rfl ?_
  exact hret _ _ _ _ _ dX4_drop_11 (⟨rfl, rfl, hT2, rfl⟩)

set_option maxHeartbeats 4000000 in
set_option maxRecDepth 100000 in
theorem c_X4_copy_ntn (l : Launch) (D : va_G) (G : sG) {M : sM} {L : sL} {o o2 : Nat} (ho : isB o) (ho2 : isB o2) (hd : o + 48 ≤ o2 ∨ o2 + 48 ≤ o) (hT : TInv M) : sKv l D G yX4_copy cX4_copy 2 1 40 [.ref (G.1 ((o + 12))), .ref (G.1 ((o2 + 12)))] M L (fun M' L' => M' = tcp M (o + 12) (o2 + 12) 24 ∧ TInv M' ∧ L = L') := by
  refine sKv_go (by decide) (Nat.le_of_ble_eq_true rfl) ?_
  intro zp ze zs zm za zb zt zc Q C hret
  refine at_eq (lv' := [(0, .ref (G.1 ((o + 12)))), (1, .ref (G.1 ((o2 + 12))))]) (st' := []) (M' := M) (L' := L) ?_ rfl rfl rfl rfl
  refine at_aload_n C 1 dX4_copy_0 rfl ?_
  refine at_getf (v := .ref (G.1 (((o2 + 12) + 1)))) C ((isTa_not G ho2).1) (ci := 4) rfl inX4 (slot := 2) (by decide) qw_73 rfl rfl dX4_copy_1 ?_
  refine at_iconst C dX4_copy_4 ?_
  refine at_aload_n C 0 dX4_copy_5 rfl ?_
  refine at_getf (v := .ref (G.1 (((o + 12) + 1)))) C ((isTa_not G ho).1) (ci := 4) rfl inX4 (slot := 2) (by decide) qw_73 rfl rfl dX4_copy_6 ?_
  refine at_iconst C dX4_copy_9 ?_
  refine at_aload_n C 0 dX4_copy_10 rfl ?_
  refine at_getf (v := .ref (G.1 (((o + 12) + 1)))) C ((isTa_not G ho).1) (ci := 4) rfl inX4 (slot := 2) (by decide) qw_73 rfl rfl dX4_copy_11 ?_
  refine at_alen C ((isTa_not G ho).2) dX4_copy_14 ?_
  refine at_aload_n C 1 dX4_copy_15 rfl ?_
  refine at_getf (v := .ref (G.1 (((o2 + 12) + 1)))) C ((isTa_not G ho2).1) (ci := 4) rfl inX4 (slot := 2) (by decide) qw_73 rfl rfl dX4_copy_16 ?_
  refine at_alen C ((isTa_not G ho2).2) dX4_copy_19 ?_
  refine at_mmin C qw_547 (⟨by omega, by omega⟩) (⟨by omega, by omega⟩) ⟨by decide, Nat.le_of_ble_eq_true rfl⟩ ⟨Nat.zero_le _, Nat.zero_le _⟩ dX4_copy_20 ?_
  refine at_ve (b := 24) (by omega) ?_
  refine at_copyI C 0 0 24 qw_548 ((isTa_not G ho2).2) ((isTa_not G ho).2) (rfl) (rfl) (rfl) (by omega) (by omega) ⟨by decide, Nat.le_of_ble_eq_true rfl⟩ dX4_copy_23 ?_
  have hT1 : TInv (sCpy M ((o2 + 12) + 1) ((o + 12) + 1) 0 0 24) := tv_cpy hT (fun i hi => by show rg (o2 + 13) _ = rg (o + 13) _; rw [rg_B ho2 (by omega), rg_B ho (by omega)])
  refine at_aload_n C 0 dX4_copy_26 rfl ?_
  refine at_aload_n C 1 dX4_copy_27 rfl ?_
  refine at_getf (v := .int (sI ((sCpy M ((o2 + 12) + 1) ((o + 12) + 1) 0 0 24) (o2 + 12) 3))) C ((isTa_not G ho2).1) (ci := 4) rfl inX4 (slot := 3) (by decide) qw_74 rfl rfl dX4_copy_28 ?_
  have hb2 := tv hT1 (k := (o2 + 12)) (j := 3) (lo := 0) (hi := 6) (by rw [rg_B ho2 (by omega)]; rfl)
  refine at_ve (b := M (o2 + 12) 3) (by rw [sCpy_ne (by omega)]) ?_
  have hr3 := tv hT (k := (o2 + 12)) (j := 3) (lo := 0) (hi := 6) (by rw [rg_B ho2 (by omega)]; rfl)
  refine at_putM (slot := 3) (ty := .int) C tyX4 ((isTa_not G ho).1) (ci := 4) rfl inX4 tyX4_ok nmX4 (by decide) qw_74 rfl rfl (by decide +kernel) rfl rfl (Nat.le_of_ble_eq_true rfl) rfl dX4_copy_31 ?_
  have hT3 : TInv (sSt (sCpy M ((o2 + 12) + 1) ((o + 12) + 1) 0 0 24) (o + 12) 3 (M (o2 + 12) 3)) := tv_st hT1 (k := (o + 12)) (j := 3) (lo := 0) (hi := 6) (by rw [rg_B ho (by omega)]; rfl) (⟨by omega, by omega⟩)
  exact hret _ _ _ _ dX4_copy_34 (⟨rfl, hT3, rfl⟩)

set_option maxHeartbeats 4000000 in
set_option maxRecDepth 100000 in
theorem c_X4_mixInto_ntn (l : Launch) (D : va_G) (G : sG) {M : sM} {L : sL} {o : Nat} (ho : isB o) (hT : TInv M) (h : Int64) : sKl l D G yX4_mixInto cX4_mixInto 6 0 0 [.ref (G.1 ((o + 12))), .long (h)] M L (fun r M' L' => r = mixR (M (o + 13)) ((M (o + 12) 3).toNat * 4) h ∧ M = M' ∧ L = L') := by
  refine sKl_go (by decide) (Nat.le_of_ble_eq_true rfl) ?_
  intro zp ze zs zm za zb zt zc Q C hret
  refine at_eq (lv' := [(0, .ref (G.1 ((o + 12)))), (1, .long (h))]) (st' := []) (M' := M) (L' := L) ?_ rfl rfl rfl rfl
  refine at_lload_n C 1 dX4_mixInto_0 rfl ?_
  refine at_lstore_n C [(3, .long (h)), (0, .ref (G.1 ((o + 12)))), (1, .long (h))] dX4_mixInto_1 (by decide) rfl ?_
  refine at_iconst C dX4_mixInto_2 ?_
  refine at_istore C [(5, .int (sI (0))), (3, .long (h)), (0, .ref (G.1 ((o + 12)))), (1, .long (h))] dX4_mixInto_3 (by decide) rfl ?_
  have H5 : ∀ (fu : Nat) (k : Nat), (M (o + 12) 3).toNat * 4 - k < fu → (k ≤ (M (o + 12) 3).toNat * 4) → sAt zp l ze (sRm 0 0) zs zm za zb zt zc D G 6 0 0 Q 5 [(0, .ref (G.1 ((o + 12)))), (1, .long (h)), (3, .long (mixR (M (o + 13)) k h)), (5, .int (sI ((k : Int))))] [] M L := by
    intro fu
    induction fu with
    | zero => intro k hd hk; exact absurd hd (Nat.not_lt_zero _)
    | succ fu ih5 =>
      intro k hd5 hk
      have hsz := tv hT (k := (o + 12)) (j := 3) (lo := 0) (hi := 6) (by rw [rg_B ho (by omega)]; rfl)
      refine at_iload C 3 dX4_mixInto_5 rfl ?_
      refine at_aload_n C 0 dX4_mixInto_7 rfl ?_
      refine at_getf (v := .int (sI (M (o + 12) 3))) C ((isTa_not G ho).1) (ci := 4) rfl inX4 (slot := 3) (by decide) qw_74 rfl rfl dX4_mixInto_8 ?_
      have hb1 := tv hT (k := (o + 12)) (j := 3) (lo := 0) (hi := 6) (by rw [rg_B ho (by omega)]; rfl)
      refine at_aload_n C 0 dX4_mixInto_11 rfl ?_
      refine at_getf (v := .int (sI (M (o + 12) 1))) C ((isTa_not G ho).1) (ci := 4) rfl inX4 (slot := 1) (by decide) qw_72 rfl rfl dX4_mixInto_12 ?_
      have hb2 := tv hT (k := (o + 12)) (j := 1) (lo := 4) (hi := 4) (by rw [rg_B ho (by omega)]; rfl)
      refine at_ve (b := 4) (by omega) ?_
      refine at_imul C dX4_mixInto_15 ?_
      refine at_icmp_ge C 40 dX4_mixInto_16 (by decide) (⟨by omega, by omega⟩) (⟨by omega, by omega⟩) (fun h3 => ?_) (fun h3 => ?_)
      · refine at_lload_n C 2 dX4_mixInto_40 rfl ?_
        exact hret _ _ _ _ _ dX4_mixInto_41 (⟨by rw [show (M (o + 12) 3).toNat * 4 = k by omega], rfl, rfl⟩)
      · refine at_ldc2 C qw_871 dX4_mixInto_19 ?_
        refine at_lload_n C 2 dX4_mixInto_22 rfl ?_
        refine at_lmul C dX4_mixInto_23 ?_
        refine at_aload_n C 0 dX4_mixInto_24 rfl ?_
        refine at_getf (v := .ref (G.1 (((o + 12) + 1)))) C ((isTa_not G ho).1) (ci := 4) rfl inX4 (slot := 2) (by decide) qw_73 rfl rfl dX4_mixInto_25 ?_
        refine at_iload C 3 dX4_mixInto_28 rfl ?_
        refine at_iald C k ((isTa_not G ho).2) (rfl) (by omega) dX4_mixInto_30 ?_
        have hb4 := tv_ntn hT ho k
        refine at_i2l C dX4_mixInto_31 ?_
        refine at_ladd C dX4_mixInto_32 ?_
        refine at_lstore_n C [(3, .long ((31 * (mixR (M (o + 13)) k h)) + (((sI (M ((o + 12) + 1) k))).toInt64))), (0, .ref (G.1 ((o + 12)))), (1, .long (h)), (5, .int (sI ((k : Int))))] dX4_mixInto_33 (by decide) rfl ?_
        refine at_iinc C 3 [(5, .int (sI ((k : Int) + 1))), (3, .long ((31 * (mixR (M (o + 13)) k h)) + (((sI (M ((o + 12) + 1) k))).toInt64))), (0, .ref (G.1 ((o + 12)))), (1, .long (h))] dX4_mixInto_34 rfl (by decide) rfl ?_
        refine at_goto C 5 dX4_mixInto_37 (by decide) ?_
        refine at_lv [2, 3, 1, 0] rfl ?_
        exact at_eq (ih5 (k + 1) (by omega) (by omega)) (lvc_s (lvc_s (lvc_l (rfl) (lvc_i (by omega) rfl)))) rfl (rfl) (rfl)
  refine at_lv [2, 3, 1, 0] rfl ?_
  exact at_eq (H5 _ 0 (Nat.lt_succ_self _) (by omega)) (lvc_s (lvc_s (lvc_l (rfl) (lvc_i (rfl) rfl)))) rfl (rfl) (rfl)

set_option maxHeartbeats 4000000 in
set_option maxRecDepth 100000 in
theorem c_X4_put_mkn (l : Launch) (D : va_G) (G : sG) {M : sM} {L : sL} {o : Nat} (ho : isB o) (hT : TInv M) (c : Nat) (v : Int) (hc : c < 4) (hv : 0 ≤ v ∧ v ≤ 60) (hs : M (o + 14) 3 < 6) : sKv l D G yX4_put cX4_put 3 0 0 [.ref (G.1 ((o + 14))), .int (sI ((c : Int))), .int (sI (v))] M L (fun M' L' => M' = tput M (o + 14) 3 c v ∧ TInv M' ∧ L = L') := by
  refine sKv_go (by decide) (Nat.le_of_ble_eq_true rfl) ?_
  intro zp ze zs zm za zb zt zc Q C hret
  refine at_eq (lv' := [(0, .ref (G.1 ((o + 14)))), (1, .int (sI ((c : Int)))), (2, .int (sI (v)))]) (st' := []) (M' := M) (L' := L) ?_ rfl rfl rfl rfl
  refine at_iload_n C 1 dX4_put_0 rfl ?_
  refine at_aload_n C 0 dX4_put_1 rfl ?_
  refine at_getf (v := .int (sI (M (o + 14) 1))) C ((isTa_mar G ho).1) (ci := 4) rfl inX4 (slot := 1) (by decide) qw_72 rfl rfl dX4_put_2 ?_
  have hb1 := tv hT (k := (o + 14)) (j := 1) (lo := 3) (hi := 3) (by rw [rg_B ho (by omega)]; rfl)
  refine at_ve (b := 3) (by omega) ?_
  refine at_icmp_ge C 25 dX4_put_5 (by decide) (⟨by omega, by omega⟩) (⟨by omega, by omega⟩) (fun h2 => ?_) (fun h2 => ?_)
  · exact hret _ _ _ _ dX4_put_25 (⟨by unfold tput; rw [if_neg (by omega)], hT, rfl⟩)
  · refine at_aload_n C 0 dX4_put_8 rfl ?_
    refine at_getf (v := .ref (G.1 (((o + 14) + 1)))) C ((isTa_mar G ho).1) (ci := 4) rfl inX4 (slot := 2) (by decide) qw_73 rfl rfl dX4_put_9 ?_
    refine at_aload_n C 0 dX4_put_12 rfl ?_
    refine at_getf (v := .int (sI (M (o + 14) 3))) C ((isTa_mar G ho).1) (ci := 4) rfl inX4 (slot := 3) (by decide) qw_74 rfl rfl dX4_put_13 ?_
    have hb3 := tv hT (k := (o + 14)) (j := 3) (lo := 0) (hi := 6) (by rw [rg_B ho (by omega)]; rfl)
    refine at_aload_n C 0 dX4_put_16 rfl ?_
    refine at_getf (v := .int (sI (M (o + 14) 1))) C ((isTa_mar G ho).1) (ci := 4) rfl inX4 (slot := 1) (by decide) qw_72 rfl rfl dX4_put_17 ?_
    have hb4 := tv hT (k := (o + 14)) (j := 1) (lo := 3) (hi := 3) (by rw [rg_B ho (by omega)]; rfl)
    refine at_ve (b := 3) (by omega) ?_
    refine at_imul C dX4_put_20 ?_
    refine at_iload_n C 1 dX4_put_21 rfl ?_
    refine at_iadd C dX4_put_22 ?_
    refine at_iload_n C 2 dX4_put_23 rfl ?_
    refine at_iast C ((M (o + 14) 3).toNat * 3 + c) ((isTa_mar G ho).2) (by omega) (by omega) dX4_put_24 ?_
    have hT5 : TInv (sSt M ((o + 14) + 1) ((M (o + 14) 3).toNat * 3 + c) v) := tw_mkn hT ho (⟨by omega, by omega⟩)
    exact hret _ _ _ _ dX4_put_25 (⟨by unfold tput; rw [if_pos (by omega)], hT5, rfl⟩)

set_option maxHeartbeats 4000000 in
set_option maxRecDepth 100000 in
theorem c_X4_add_mkn (l : Launch) (D : va_G) (G : sG) {M : sM} {L : sL} {o : Nat} (ho : isB o) (hT : TInv M) (a b c d : Int) (ha : 0 ≤ a ∧ a ≤ 60) (hb : 0 ≤ b ∧ b ≤ 60) (hc : 0 ≤ c ∧ c ≤ 60) (hd : 0 ≤ d ∧ d ≤ 60) (hs : M (o + 14) 3 < 6) : sKi l D G yX4_add cX4_add 5 .int 1 22 [.ref (G.1 ((o + 14))), .int (sI (a)), .int (sI (b)), .int (sI (c)), .int (sI (d))] M L (fun r M' L' => r = sI (M (o + 14) 3 + 1) ∧ M' = tadd M (o + 14) 3 a b c d ∧ TInv M' ∧ L = L') := by
  refine sKi_go (by decide) (Nat.le_of_ble_eq_true rfl) ?_
  intro zp ze zs zm za zb zt zc Q C hret
  refine at_eq (lv' := [(0, .ref (G.1 ((o + 14)))), (1, .int (sI (a))), (2, .int (sI (b))), (3, .int (sI (c))), (4, .int (sI (d)))]) (st' := []) (M' := M) (L' := L) ?_ rfl rfl rfl rfl
  refine at_aload_n C 0 dX4_add_0 rfl ?_
  refine at_getf (v := .int (sI (M (o + 14) 3))) C ((isTa_mar G ho).1) (ci := 4) rfl inX4 (slot := 3) (by decide) qw_74 rfl rfl dX4_add_1 ?_
  have hb1 := tv hT (k := (o + 14)) (j := 3) (lo := 0) (hi := 6) (by rw [rg_B ho (by omega)]; rfl)
  refine at_aload_n C 0 dX4_add_4 rfl ?_
  refine at_getf (v := .int (sI (M (o + 14) 0))) C ((isTa_mar G ho).1) (ci := 4) rfl inX4 (slot := 0) (by decide) qw_71 rfl rfl dX4_add_5 ?_
  have hb2 := tv hT (k := (o + 14)) (j := 0) (lo := 6) (hi := 6) (by rw [rg_B ho (by omega)]; rfl)
  refine at_ve (b := 6) (by omega) ?_
  refine at_icmp_ge C 46 dX4_add_8 (by decide) (⟨by omega, by omega⟩) (⟨by omega, by omega⟩) (fun h3 => absurd h3 (by omega)) (fun h3 => ?_)
  refine at_aload_n C 0 dX4_add_11 rfl ?_
  refine at_iconst C dX4_add_12 ?_
  refine at_iload_n C 1 dX4_add_13 rfl ?_
  refine at_call_v C (c_X4_put_mkn l D G ho hT 0 a (by omega) ⟨by omega, by omega⟩ (by omega)) (As := [.int (sI (0)), .int (sI (a))]) ((isTa_mar G ho).1) (ci := 4) rfl qw_730 qw_727 qw_4 qw_729 qp_26 ⟨by decide, by decide, show (parseMethodDescriptor yX4_put.desc).map (fun d => d.parameters.length) = some 2 by decide +kernel⟩ ⟨by decide, by decide⟩ ⟨Nat.zero_le _, Nat.zero_le _⟩ (Nat.le_of_ble_eq_true rfl) dX4_add_14 rfl (fun M' L' hp6 => ?_)
  obtain ⟨rfl, hT4, rfl⟩ := hp6
  have hz5 : (tput M (o + 14) 3 0 a) (o + 14) 3 = M (o + 14) 3 := by simp only [tput_3]
  refine at_aload_n C 0 dX4_add_17 rfl ?_
  refine at_iconst C dX4_add_18 ?_
  refine at_iload_n C 2 dX4_add_19 rfl ?_
  refine at_call_v C (c_X4_put_mkn l D G ho hT4 1 b (by omega) ⟨by omega, by omega⟩ (by omega)) (As := [.int (sI (1)), .int (sI (b))]) ((isTa_mar G ho).1) (ci := 4) rfl qw_730 qw_727 qw_4 qw_729 qp_26 ⟨by decide, by decide, show (parseMethodDescriptor yX4_put.desc).map (fun d => d.parameters.length) = some 2 by decide +kernel⟩ ⟨by decide, by decide⟩ ⟨Nat.zero_le _, Nat.zero_le _⟩ (Nat.le_of_ble_eq_true rfl) dX4_add_20 rfl (fun M' L' hp9 => ?_)
  obtain ⟨rfl, hT7, rfl⟩ := hp9
  have hz8 : (tput (tput M (o + 14) 3 0 a) (o + 14) 3 1 b) (o + 14) 3 = M (o + 14) 3 := by simp only [tput_3]
  refine at_aload_n C 0 dX4_add_23 rfl ?_
  refine at_iconst C dX4_add_24 ?_
  refine at_iload_n C 3 dX4_add_25 rfl ?_
  refine at_call_v C (c_X4_put_mkn l D G ho hT7 2 c (by omega) ⟨by omega, by omega⟩ (by omega)) (As := [.int (sI (2)), .int (sI (c))]) ((isTa_mar G ho).1) (ci := 4) rfl qw_730 qw_727 qw_4 qw_729 qp_26 ⟨by decide, by decide, show (parseMethodDescriptor yX4_put.desc).map (fun d => d.parameters.length) = some 2 by decide +kernel⟩ ⟨by decide, by decide⟩ ⟨Nat.zero_le _, Nat.zero_le _⟩ (Nat.le_of_ble_eq_true rfl) dX4_add_26 rfl (fun M' L' hp12 => ?_)
  obtain ⟨rfl, hT10, rfl⟩ := hp12
  have hz11 : (tput (tput (tput M (o + 14) 3 0 a) (o + 14) 3 1 b) (o + 14) 3 2 c) (o + 14) 3 = M (o + 14) 3 := by simp only [tput_3]
  refine at_aload_n C 0 dX4_add_29 rfl ?_
  refine at_iconst C dX4_add_30 ?_
  refine at_iload C 4 dX4_add_31 rfl ?_
  refine at_call_v C (c_X4_put_mkn l D G ho hT10 3 d (by omega) ⟨by omega, by omega⟩ (by omega)) (As := [.int (sI (3)), .int (sI (d))]) ((isTa_mar G ho).1) (ci := 4) rfl qw_730 qw_727 qw_4 qw_729 qp_26 ⟨by decide, by decide, show (parseMethodDescriptor yX4_put.desc).map (fun d => d.parameters.length) = some 2 by decide +kernel⟩ ⟨by decide, by decide⟩ ⟨Nat.zero_le _, Nat.zero_le _⟩ (Nat.le_of_ble_eq_true rfl) dX4_add_33 rfl (fun M' L' hp15 => ?_)
  obtain ⟨rfl, hT13, rfl⟩ := hp15
  have hz14 : (tput (tput (tput (tput M (o + 14) 3 0 a) (o + 14) 3 1 b) (o + 14) 3 2 c) (o + 14) 3 3 d) (o + 14) 3 = M (o + 14) 3 := by simp only [tput_3]
  refine at_aload_n C 0 dX4_add_36 rfl ?_
  refine at_dup C dX4_add_37 rfl ?_
  refine at_getf (v := .int (sI ((tput (tput (tput (tput M (o + 14) 3 0 a) (o + 14) 3 1 b) (o + 14) 3 2 c) (o + 14) 3 3 d) (o + 14) 3))) C ((isTa_mar G ho).1) (ci := 4) rfl inX4 (slot := 3) (by decide) qw_74 rfl rfl dX4_add_38 ?_
  have hb16 := tv hT13 (k := (o + 14)) (j := 3) (lo := 0) (hi := 6) (by rw [rg_B ho (by omega)]; rfl)
  refine at_ve (b := M (o + 14) 3) (by omega) ?_
  refine at_iconst C dX4_add_41 ?_
  refine at_iadd C dX4_add_42 ?_
  refine at_putM (slot := 3) (ty := .int) C tyX4 ((isTa_mar G ho).1) (ci := 4) rfl inX4 tyX4_ok nmX4 (by decide) qw_74 rfl rfl (by decide +kernel) rfl rfl (Nat.le_of_ble_eq_true rfl) rfl dX4_add_43 ?_
  have hT17 : TInv (sSt (tput (tput (tput (tput M (o + 14) 3 0 a) (o + 14) 3 1 b) (o + 14) 3 2 c) (o + 14) 3 3 d) (o + 14) 3 ((M (o + 14) 3) + 1)) := tv_st hT13 (k := (o + 14)) (j := 3) (lo := 0) (hi := 6) (by rw [rg_B ho (by omega)]; rfl) (⟨by omega, by omega⟩)
  refine at_aload_n C 0 dX4_add_46 rfl ?_
  refine at_getf (v := .int (sI ((sSt (tput (tput (tput (tput M (o + 14) 3 0 a) (o + 14) 3 1 b) (o + 14) 3 2 c) (o + 14) 3 3 d) (o + 14) 3 ((M (o + 14) 3) + 1)) (o + 14) 3))) C ((isTa_mar G ho).1) (ci := 4) rfl inX4 (slot := 3) (by decide) qw_74 rfl rfl dX4_add_47 ?_
  have hb18 := tv hT17 (k := (o + 14)) (j := 3) (lo := 0) (hi := 6) (by rw [rg_B ho (by omega)]; rfl)
  refine at_ve (b := M (o + 14) 3 + 1) (sSt_eq) ?_
  exact hret _ _ _ _ _ dX4_add_50 (⟨rfl, rfl, hT17, rfl⟩)

set_option maxHeartbeats 4000000 in
set_option maxRecDepth 100000 in
theorem c_X4_get_mkn (l : Launch) (D : va_G) (G : sG) {M : sM} {L : sL} {o : Nat} (ho : isB o) (hT : TInv M) (q c : Nat) (hr : q < 6) (hc : c < 3) : sKi l D G yX4_get cX4_get 3 .int 0 0 [.ref (G.1 ((o + 14))), .int (sI ((q : Int))), .int (sI ((c : Int)))] M L (fun r M' L' => r = sI (M (o + 15) (q * 3 + c)) ∧ M = M' ∧ L = L') := by
  refine sKi_go (by decide) (Nat.le_of_ble_eq_true rfl) ?_
  intro zp ze zs zm za zb zt zc Q C hret
  refine at_eq (lv' := [(0, .ref (G.1 ((o + 14)))), (1, .int (sI ((q : Int)))), (2, .int (sI ((c : Int))))]) (st' := []) (M' := M) (L' := L) ?_ rfl rfl rfl rfl
  refine at_aload_n C 0 dX4_get_0 rfl ?_
  refine at_getf (v := .ref (G.1 (((o + 14) + 1)))) C ((isTa_mar G ho).1) (ci := 4) rfl inX4 (slot := 2) (by decide) qw_73 rfl rfl dX4_get_1 ?_
  refine at_iload_n C 1 dX4_get_4 rfl ?_
  refine at_aload_n C 0 dX4_get_5 rfl ?_
  refine at_getf (v := .int (sI (M (o + 14) 1))) C ((isTa_mar G ho).1) (ci := 4) rfl inX4 (slot := 1) (by decide) qw_72 rfl rfl dX4_get_6 ?_
  have hb1 := tv hT (k := (o + 14)) (j := 1) (lo := 3) (hi := 3) (by rw [rg_B ho (by omega)]; rfl)
  refine at_ve (b := 3) (by omega) ?_
  refine at_imul C dX4_get_9 ?_
  refine at_iload_n C 2 dX4_get_10 rfl ?_
  refine at_iadd C dX4_get_11 ?_
  refine at_iald C ((q * 3) + c) ((isTa_mar G ho).2) (by omega) (by omega) dX4_get_12 ?_
  have hb2 := tv_mkn hT ho ((q * 3) + c)
  exact hret _ _ _ _ _ dX4_get_13 (⟨rfl, rfl, rfl⟩)

set_option maxHeartbeats 4000000 in
set_option maxRecDepth 100000 in
theorem c_X4_drop_mkn (l : Launch) (D : va_G) (G : sG) {M : sM} {L : sL} {o : Nat} (ho : isB o) (hT : TInv M) : sKi l D G yX4_drop cX4_drop 2 .int 0 0 [.ref (G.1 ((o + 14)))] M L (fun r M' L' => r = sI (M (o + 14) 3) ∧ M' = sSt M (o + 14) 3 0 ∧ TInv M' ∧ L = L') := by
  refine sKi_go (by decide) (Nat.le_of_ble_eq_true rfl) ?_
  intro zp ze zs zm za zb zt zc Q C hret
  refine at_eq (lv' := [(0, .ref (G.1 ((o + 14))))]) (st' := []) (M' := M) (L' := L) ?_ rfl rfl rfl rfl
  refine at_aload_n C 0 dX4_drop_0 rfl ?_
  refine at_getf (v := .int (sI (M (o + 14) 3))) C ((isTa_mar G ho).1) (ci := 4) rfl inX4 (slot := 3) (by decide) qw_74 rfl rfl dX4_drop_1 ?_
  have hb1 := tv hT (k := (o + 14)) (j := 3) (lo := 0) (hi := 6) (by rw [rg_B ho (by omega)]; rfl)
  refine at_istore_n C [(1, .int (sI (M (o + 14) 3))), (0, .ref (G.1 ((o + 14))))] dX4_drop_4 (by decide) rfl ?_
  refine at_aload_n C 1 dX4_drop_5 rfl ?_
  refine at_iconst C dX4_drop_6 ?_
  refine at_putM (slot := 3) (ty := .int) C tyX4 ((isTa_mar G ho).1) (ci := 4) rfl inX4 tyX4_ok nmX4 (by decide) qw_74 rfl rfl (by decide +kernel) rfl rfl (Nat.le_of_ble_eq_true rfl) rfl dX4_drop_7 ?_
  have hT2 : TInv (sSt M (o + 14) 3 0) := tv_st hT (k := (o + 14)) (j := 3) (lo := 0) (hi := 6) (by rw [rg_B ho (by omega)]; rfl) (⟨by omega, by omega⟩)
  refine at_iload_n C 0 dX4_drop_10 rfl ?_
  exact hret _ _ _ _ _ dX4_drop_11 (⟨rfl, rfl, hT2, rfl⟩)

set_option maxHeartbeats 4000000 in
set_option maxRecDepth 100000 in
theorem c_X4_copy_mkn (l : Launch) (D : va_G) (G : sG) {M : sM} {L : sL} {o o2 : Nat} (ho : isB o) (ho2 : isB o2) (hd : o + 48 ≤ o2 ∨ o2 + 48 ≤ o) (hT : TInv M) : sKv l D G yX4_copy cX4_copy 2 1 40 [.ref (G.1 ((o + 14))), .ref (G.1 ((o2 + 14)))] M L (fun M' L' => M' = tcp M (o + 14) (o2 + 14) 18 ∧ TInv M' ∧ L = L') := by
  refine sKv_go (by decide) (Nat.le_of_ble_eq_true rfl) ?_
  intro zp ze zs zm za zb zt zc Q C hret
  refine at_eq (lv' := [(0, .ref (G.1 ((o + 14)))), (1, .ref (G.1 ((o2 + 14))))]) (st' := []) (M' := M) (L' := L) ?_ rfl rfl rfl rfl
  refine at_aload_n C 1 dX4_copy_0 rfl ?_
  refine at_getf (v := .ref (G.1 (((o2 + 14) + 1)))) C ((isTa_mar G ho2).1) (ci := 4) rfl inX4 (slot := 2) (by decide) qw_73 rfl rfl dX4_copy_1 ?_
  refine at_iconst C dX4_copy_4 ?_
  refine at_aload_n C 0 dX4_copy_5 rfl ?_
  refine at_getf (v := .ref (G.1 (((o + 14) + 1)))) C ((isTa_mar G ho).1) (ci := 4) rfl inX4 (slot := 2) (by decide) qw_73 rfl rfl dX4_copy_6 ?_
  refine at_iconst C dX4_copy_9 ?_
  refine at_aload_n C 0 dX4_copy_10 rfl ?_
  refine at_getf (v := .ref (G.1 (((o + 14) + 1)))) C ((isTa_mar G ho).1) (ci := 4) rfl inX4 (slot := 2) (by decide) qw_73 rfl rfl dX4_copy_11 ?_
  refine at_alen C ((isTa_mar G ho).2) dX4_copy_14 ?_
  refine at_aload_n C 1 dX4_copy_15 rfl ?_
  refine at_getf (v := .ref (G.1 (((o2 + 14) + 1)))) C ((isTa_mar G ho2).1) (ci := 4) rfl inX4 (slot := 2) (by decide) qw_73 rfl rfl dX4_copy_16 ?_
  refine at_alen C ((isTa_mar G ho2).2) dX4_copy_19 ?_
  refine at_mmin C qw_547 (⟨by omega, by omega⟩) (⟨by omega, by omega⟩) ⟨by decide, Nat.le_of_ble_eq_true rfl⟩ ⟨Nat.zero_le _, Nat.zero_le _⟩ dX4_copy_20 ?_
  refine at_ve (b := 18) (by omega) ?_
  refine at_copyI C 0 0 18 qw_548 ((isTa_mar G ho2).2) ((isTa_mar G ho).2) (rfl) (rfl) (rfl) (by omega) (by omega) ⟨by decide, Nat.le_of_ble_eq_true rfl⟩ dX4_copy_23 ?_
  have hT1 : TInv (sCpy M ((o2 + 14) + 1) ((o + 14) + 1) 0 0 18) := tv_cpy hT (fun i hi => by show rg (o2 + 15) _ = rg (o + 15) _; rw [rg_B ho2 (by omega), rg_B ho (by omega)])
  refine at_aload_n C 0 dX4_copy_26 rfl ?_
  refine at_aload_n C 1 dX4_copy_27 rfl ?_
  refine at_getf (v := .int (sI ((sCpy M ((o2 + 14) + 1) ((o + 14) + 1) 0 0 18) (o2 + 14) 3))) C ((isTa_mar G ho2).1) (ci := 4) rfl inX4 (slot := 3) (by decide) qw_74 rfl rfl dX4_copy_28 ?_
  have hb2 := tv hT1 (k := (o2 + 14)) (j := 3) (lo := 0) (hi := 6) (by rw [rg_B ho2 (by omega)]; rfl)
  refine at_ve (b := M (o2 + 14) 3) (by rw [sCpy_ne (by omega)]) ?_
  have hr3 := tv hT (k := (o2 + 14)) (j := 3) (lo := 0) (hi := 6) (by rw [rg_B ho2 (by omega)]; rfl)
  refine at_putM (slot := 3) (ty := .int) C tyX4 ((isTa_mar G ho).1) (ci := 4) rfl inX4 tyX4_ok nmX4 (by decide) qw_74 rfl rfl (by decide +kernel) rfl rfl (Nat.le_of_ble_eq_true rfl) rfl dX4_copy_31 ?_
  have hT3 : TInv (sSt (sCpy M ((o2 + 14) + 1) ((o + 14) + 1) 0 0 18) (o + 14) 3 (M (o2 + 14) 3)) := tv_st hT1 (k := (o + 14)) (j := 3) (lo := 0) (hi := 6) (by rw [rg_B ho (by omega)]; rfl) (⟨by omega, by omega⟩)
  exact hret _ _ _ _ dX4_copy_34 (⟨rfl, hT3, rfl⟩)

set_option maxHeartbeats 4000000 in
set_option maxRecDepth 100000 in
theorem c_X4_mixInto_mkn (l : Launch) (D : va_G) (G : sG) {M : sM} {L : sL} {o : Nat} (ho : isB o) (hT : TInv M) (h : Int64) : sKl l D G yX4_mixInto cX4_mixInto 6 0 0 [.ref (G.1 ((o + 14))), .long (h)] M L (fun r M' L' => r = mixR (M (o + 15)) ((M (o + 14) 3).toNat * 3) h ∧ M = M' ∧ L = L') := by
  refine sKl_go (by decide) (Nat.le_of_ble_eq_true rfl) ?_
  intro zp ze zs zm za zb zt zc Q C hret
  refine at_eq (lv' := [(0, .ref (G.1 ((o + 14)))), (1, .long (h))]) (st' := []) (M' := M) (L' := L) ?_ rfl rfl rfl rfl
  refine at_lload_n C 1 dX4_mixInto_0 rfl ?_
  refine at_lstore_n C [(3, .long (h)), (0, .ref (G.1 ((o + 14)))), (1, .long (h))] dX4_mixInto_1 (by decide) rfl ?_
  refine at_iconst C dX4_mixInto_2 ?_
  refine at_istore C [(5, .int (sI (0))), (3, .long (h)), (0, .ref (G.1 ((o + 14)))), (1, .long (h))] dX4_mixInto_3 (by decide) rfl ?_
  have H5 : ∀ (fu : Nat) (k : Nat), (M (o + 14) 3).toNat * 3 - k < fu → (k ≤ (M (o + 14) 3).toNat * 3) → sAt zp l ze (sRm 0 0) zs zm za zb zt zc D G 6 0 0 Q 5 [(0, .ref (G.1 ((o + 14)))), (1, .long (h)), (3, .long (mixR (M (o + 15)) k h)), (5, .int (sI ((k : Int))))] [] M L := by
    intro fu
    induction fu with
    | zero => intro k hd hk; exact absurd hd (Nat.not_lt_zero _)
    | succ fu ih5 =>
      intro k hd5 hk
      have hsz := tv hT (k := (o + 14)) (j := 3) (lo := 0) (hi := 6) (by rw [rg_B ho (by omega)]; rfl)
      refine at_iload C 3 dX4_mixInto_5 rfl ?_
      refine at_aload_n C 0 dX4_mixInto_7 rfl ?_
      refine at_getf (v := .int (sI (M (o + 14) 3))) C ((isTa_mar G ho).1) (ci := 4) rfl inX4 (slot := 3) (by decide) qw_74 rfl rfl dX4_mixInto_8 ?_
      have hb1 := tv hT (k := (o + 14)) (j := 3) (lo := 0) (hi := 6) (by rw [rg_B ho (by omega)]; rfl)
      refine at_aload_n C 0 dX4_mixInto_11 rfl ?_
      refine at_getf (v := .int (sI (M (o + 14) 1))) C ((isTa_mar G ho).1) (ci := 4) rfl inX4 (slot := 1) (by decide) qw_72 rfl rfl dX4_mixInto_12 ?_
      have hb2 := tv hT (k := (o + 14)) (j := 1) (lo := 3) (hi := 3) (by rw [rg_B ho (by omega)]; rfl)
      refine at_ve (b := 3) (by omega) ?_
      refine at_imul C dX4_mixInto_15 ?_
      refine at_icmp_ge C 40 dX4_mixInto_16 (by decide) (⟨by omega, by omega⟩) (⟨by omega, by omega⟩) (fun h3 => ?_) (fun h3 => ?_)
      · refine at_lload_n C 2 dX4_mixInto_40 rfl ?_
        exact hret _ _ _ _ _ dX4_mixInto_41 (⟨by rw [show (M (o + 14) 3).toNat * 3 = k by omega], rfl, rfl⟩)
      · refine at_ldc2 C qw_871 dX4_mixInto_19 ?_
        refine at_lload_n C 2 dX4_mixInto_22 rfl ?_
        refine at_lmul C dX4_mixInto_23 ?_
        refine at_aload_n C 0 dX4_mixInto_24 rfl ?_
        refine at_getf (v := .ref (G.1 (((o + 14) + 1)))) C ((isTa_mar G ho).1) (ci := 4) rfl inX4 (slot := 2) (by decide) qw_73 rfl rfl dX4_mixInto_25 ?_
        refine at_iload C 3 dX4_mixInto_28 rfl ?_
        refine at_iald C k ((isTa_mar G ho).2) (rfl) (by omega) dX4_mixInto_30 ?_
        have hb4 := tv_mkn hT ho k
        refine at_i2l C dX4_mixInto_31 ?_
        refine at_ladd C dX4_mixInto_32 ?_
        refine at_lstore_n C [(3, .long ((31 * (mixR (M (o + 15)) k h)) + (((sI (M ((o + 14) + 1) k))).toInt64))), (0, .ref (G.1 ((o + 14)))), (1, .long (h)), (5, .int (sI ((k : Int))))] dX4_mixInto_33 (by decide) rfl ?_
        refine at_iinc C 3 [(5, .int (sI ((k : Int) + 1))), (3, .long ((31 * (mixR (M (o + 15)) k h)) + (((sI (M ((o + 14) + 1) k))).toInt64))), (0, .ref (G.1 ((o + 14)))), (1, .long (h))] dX4_mixInto_34 rfl (by decide) rfl ?_
        refine at_goto C 5 dX4_mixInto_37 (by decide) ?_
        refine at_lv [2, 3, 1, 0] rfl ?_
        exact at_eq (ih5 (k + 1) (by omega) (by omega)) (lvc_s (lvc_s (lvc_l (rfl) (lvc_i (by omega) rfl)))) rfl (rfl) (rfl)
  refine at_lv [2, 3, 1, 0] rfl ?_
  exact at_eq (H5 _ 0 (Nat.lt_succ_self _) (by omega)) (lvc_s (lvc_s (lvc_l (rfl) (lvc_i (rfl) rfl)))) rfl (rfl) (rfl)

set_option maxHeartbeats 4000000 in
set_option maxRecDepth 100000 in
theorem c_X0_choice (l : Launch) (D : va_G) (G : sG) {M : sM} {L : sL} {o : Nat} (ho : isB o) (hT : TInv M) (i : Nat) (hi : i < 6) : sKi l D G yX0_choice cX0_choice 5 .int 3 68 [.ref (G.1 (o)), .int (sI ((i : Int)))] M L (fun r M' L' => r = sI (bCho M o i) ∧ M = M' ∧ L = L') := by
  refine sKi_go (by decide) (Nat.le_of_ble_eq_true rfl) ?_
  intro zp ze zs zm za zb zt zc Q C hret
  refine at_eq (lv' := [(0, .ref (G.1 (o))), (1, .int (sI ((i : Int))))]) (st' := []) (M' := M) (L' := L) ?_ rfl rfl rfl rfl
  have hn := nS_r hT ho
  have hhr : -1 ≤ bHeld M o i ∧ bHeld M o i < nS M o := fst_r _ _
  refine at_aload_n C 0 dX0_choice_0 rfl ?_
  refine at_iload_n C 1 dX0_choice_1 rfl ?_
  refine at_call_i C (c_X0_heldBy l D G ho hT i (by omega)) (As := [.int (sI ((i : Int)))]) (obj_Bea G ho) (ci := 0) rfl qw_501 qw_498 qw_2 qw_499 qw_500 ⟨by decide, by decide, show (parseMethodDescriptor yX0_heldBy.desc).map (fun d => d.parameters.length) = some 1 by decide +kernel⟩ ⟨by decide, by decide⟩ ⟨Nat.zero_le _, Nat.zero_le _⟩ (Nat.le_of_ble_eq_true rfl) dX0_choice_2 rfl (fun r M' L' hp2 => ?_)
  obtain ⟨rfl, rfl, rfl⟩ := hp2
  have hb1 := fst_r (fun s => M (o + 7) s = i) (nS M o)
  refine at_iconst C dX0_choice_5 ?_
  refine at_icmp_eq C 11 dX0_choice_6 (by decide) (⟨by omega, by omega⟩) (⟨by omega, by omega⟩) (fun h3 => ?_) (fun h3 => ?_)
  · refine at_iconst C dX0_choice_11 ?_
    refine at_istore_n C [(2, .int (sI (-1))), (0, .ref (G.1 (o))), (1, .int (sI ((i : Int))))] dX0_choice_12 (by decide) rfl ?_
    refine at_iconst C dX0_choice_13 ?_
    refine at_istore_n C [(3, .int (sI (0))), (2, .int (sI (-1))), (0, .ref (G.1 (o))), (1, .int (sI ((i : Int))))] dX0_choice_14 (by decide) rfl ?_
    refine at_iconst C dX0_choice_15 ?_
    refine at_istore C [(4, .int (sI (0))), (3, .int (sI (0))), (2, .int (sI (-1))), (0, .ref (G.1 (o))), (1, .int (sI ((i : Int))))] dX0_choice_16 (by decide) rfl ?_
    have H18 : ∀ (fu : Nat) (k : Nat) (v : Int), nS M o - k < fu → (k ≤ nS M o) → (nea (fun s => shv M o s) (fun s => bDst M o s i) k = -1 ∨ v = bDst M o (nea (fun s => shv M o s) (fun s => bDst M o s i) k).toNat i) → (0 ≤ v ∧ v ≤ 100) → sAt zp l ze (sRm 3 68) zs zm za zb zt zc D G 5 0 0 Q 18 [(0, .ref (G.1 (o))), (1, .int (sI ((i : Int)))), (2, .int (sI (nea (fun s => shv M o s) (fun s => bDst M o s i) k))), (3, .int (sI (v))), (4, .int (sI ((k : Int))))] [] M L := by
      intro fu
      induction fu with
      | zero => intro k v hd hk hv hvr; exact absurd hd (Nat.not_lt_zero _)
      | succ fu ih18 =>
        intro k v hd18 hk hv hvr
        have hnr := nea_r (fun s => shv M o s) (fun s => bDst M o s i) k
        refine at_iload C 4 dX0_choice_18 rfl ?_
        refine at_aload_n C 0 dX0_choice_20 rfl ?_
        refine at_getf (v := .int (sI (M o 9))) C (obj_Bea G ho) (ci := 0) rfl inX0 (slot := 9) (by decide) qw_106 rfl rfl dX0_choice_21 ?_
        have hb4 := tv_souls hT ho
        refine at_icmp_ge C 69 dX0_choice_24 (by decide) (⟨by omega, by omega⟩) (⟨by omega, by omega⟩) (fun h5 => ?_) (fun h5 => ?_)
        · refine at_iload_n C 2 dX0_choice_69 rfl ?_
          exact hret _ _ _ _ _ dX0_choice_70 (⟨congrArg sI (by unfold bCho bNea; rw [if_pos (by omega), show nS M o = k by omega]), rfl, rfl⟩)
        · refine at_aload_n C 0 dX0_choice_27 rfl ?_
          refine at_iload C 4 dX0_choice_28 rfl ?_
          refine at_call_i C (c_X0_shelved l D G ho hT k (by omega)) (As := [.int (sI ((k : Int)))]) (obj_Bea G ho) (ci := 0) rfl qw_489 qw_486 qw_2 qw_487 qw_488 ⟨by decide, by decide, show (parseMethodDescriptor yX0_shelved.desc).map (fun d => d.parameters.length) = some 1 by decide +kernel⟩ ⟨by decide, by decide⟩ ⟨Nat.zero_le _, Nat.zero_le _⟩ (Nat.le_of_ble_eq_true rfl) dX0_choice_30 rfl (fun r M' L' hp6 => ?_)
          obtain ⟨rfl, rfl, rfl⟩ := hp6
          refine at_if_eqB C 63 dX0_choice_33 (by decide) (fun h7 => ?_) (fun h7 => ?_)
          · refine at_iinc C 4 [(4, .int (sI ((k : Int) + 1))), (0, .ref (G.1 (o))), (1, .int (sI ((i : Int)))), (2, .int (sI (nea (fun s => shv M o s) (fun s => bDst M o s i) k))), (3, .int (sI (v)))] dX0_choice_63 rfl (by decide) rfl ?_
            refine at_goto C 18 dX0_choice_66 (by decide) ?_
            refine at_lv [1, 2, 3, 4, 0] rfl ?_
            exact at_eq (ih18 (k + 1) v (by omega) (by omega) (by rw [nea_no (fun z => absurd z (by assumption))]; exact hv) (⟨by omega, by omega⟩)) (lvc_s (lvc_s (lvc_i ((nea_no (fun z => absurd z (by assumption))).symm) (lvc_s (lvc_i (by omega) rfl))))) rfl (rfl) (rfl)
          · refine at_iload_n C 2 dX0_choice_36 rfl ?_
            refine at_iconst C dX0_choice_37 ?_
            refine at_icmp_eq C 52 dX0_choice_38 (by decide) (⟨by omega, by omega⟩) (⟨by omega, by omega⟩) (fun h8 => ?_) (fun h8 => ?_)
            · refine at_iload C 4 dX0_choice_52 rfl ?_
              refine at_istore_n C [(2, .int (sI ((k : Int)))), (0, .ref (G.1 (o))), (1, .int (sI ((i : Int)))), (3, .int (sI (v))), (4, .int (sI ((k : Int))))] dX0_choice_54 (by decide) rfl ?_
              refine at_aload_n C 1 dX0_choice_55 rfl ?_
              refine at_iload C 4 dX0_choice_56 rfl ?_
              refine at_iload_n C 2 dX0_choice_58 rfl ?_
              refine at_call_i C (c_X0_distance l D G ho hT k i (by omega) (by omega)) (As := [.int (sI ((k : Int))), .int (sI ((i : Int)))]) (obj_Bea G ho) (ci := 0) rfl qw_505 qw_502 qw_2 qw_503 qw_504 ⟨by decide, by decide, show (parseMethodDescriptor yX0_distance.desc).map (fun d => d.parameters.length) = some 2 by decide +kernel⟩ ⟨by decide, by decide⟩ ⟨Nat.zero_le _, Nat.zero_le _⟩ (Nat.le_of_ble_eq_true rfl) dX0_choice_59 rfl (fun r M' L' hp10 => ?_)
              obtain ⟨rfl, rfl, rfl⟩ := hp10
              have hb9 := bDst_r hT ho k i
              refine at_istore_n C [(3, .int (sI (bDst M o k i))), (2, .int (sI ((k : Int)))), (0, .ref (G.1 (o))), (1, .int (sI ((i : Int)))), (4, .int (sI ((k : Int))))] dX0_choice_62 (by decide) rfl ?_
              refine at_iinc C 4 [(4, .int (sI ((k : Int) + 1))), (3, .int (sI (bDst M o k i))), (2, .int (sI ((k : Int)))), (0, .ref (G.1 (o))), (1, .int (sI ((i : Int))))] dX0_choice_63 rfl (by decide) rfl ?_
              refine at_goto C 18 dX0_choice_66 (by decide) ?_
              refine at_lv [3, 4, 2, 1, 0] rfl ?_
              exact at_eq (ih18 (k + 1) (bDst M o k i) (by omega) (by omega) (by rw [nea_yes (by assumption) (by rcases hv with q | q <;> omega)]; exact Or.inr rfl) (⟨by omega, by omega⟩)) (lvc_s (lvc_s (lvc_i ((nea_yes (by assumption) (by rcases hv with q | q <;> omega)).symm) (lvc_i (rfl) (lvc_i (by omega) rfl))))) rfl (rfl) (rfl)
            · refine at_aload_n C 0 dX0_choice_41 rfl ?_
              refine at_iload C 4 dX0_choice_42 rfl ?_
              refine at_iload_n C 1 dX0_choice_44 rfl ?_
              refine at_call_i C (c_X0_distance l D G ho hT k i (by omega) (by omega)) (As := [.int (sI ((k : Int))), .int (sI ((i : Int)))]) (obj_Bea G ho) (ci := 0) rfl qw_505 qw_502 qw_2 qw_503 qw_504 ⟨by decide, by decide, show (parseMethodDescriptor yX0_distance.desc).map (fun d => d.parameters.length) = some 2 by decide +kernel⟩ ⟨by decide, by decide⟩ ⟨Nat.zero_le _, Nat.zero_le _⟩ (Nat.le_of_ble_eq_true rfl) dX0_choice_45 rfl (fun r M' L' hp12 => ?_)
              obtain ⟨rfl, rfl, rfl⟩ := hp12
              have hb11 := bDst_r hT ho k i
              refine at_iload_n C 3 dX0_choice_48 rfl ?_
              refine at_icmp_ge C 63 dX0_choice_49 (by decide) (⟨by omega, by omega⟩) (⟨by omega, by omega⟩) (fun h13 => ?_) (fun h13 => ?_)
              · refine at_iinc C 4 [(4, .int (sI ((k : Int) + 1))), (0, .ref (G.1 (o))), (1, .int (sI ((i : Int)))), (2, .int (sI (nea (fun s => shv M o s) (fun s => bDst M o s i) k))), (3, .int (sI (v)))] dX0_choice_63 rfl (by decide) rfl ?_
                refine at_goto C 18 dX0_choice_66 (by decide) ?_
                refine at_lv [1, 2, 3, 4, 0] rfl ?_
                exact at_eq (ih18 (k + 1) v (by omega) (by omega) (by rw [nea_no (fun z w => by rcases hv with q | q <;> omega)]; exact hv) (⟨by omega, by omega⟩)) (lvc_s (lvc_s (lvc_i ((nea_no (fun z w => by rcases hv with q | q <;> omega)).symm) (lvc_s (lvc_i (by omega) rfl))))) rfl (rfl) (rfl)
              · refine at_iload C 4 dX0_choice_52 rfl ?_
                refine at_istore_n C [(2, .int (sI ((k : Int)))), (0, .ref (G.1 (o))), (1, .int (sI ((i : Int)))), (3, .int (sI (v))), (4, .int (sI ((k : Int))))] dX0_choice_54 (by decide) rfl ?_
                refine at_aload_n C 1 dX0_choice_55 rfl ?_
                refine at_iload C 4 dX0_choice_56 rfl ?_
                refine at_iload_n C 2 dX0_choice_58 rfl ?_
                refine at_call_i C (c_X0_distance l D G ho hT k i (by omega) (by omega)) (As := [.int (sI ((k : Int))), .int (sI ((i : Int)))]) (obj_Bea G ho) (ci := 0) rfl qw_505 qw_502 qw_2 qw_503 qw_504 ⟨by decide, by decide, show (parseMethodDescriptor yX0_distance.desc).map (fun d => d.parameters.length) = some 2 by decide +kernel⟩ ⟨by decide, by decide⟩ ⟨Nat.zero_le _, Nat.zero_le _⟩ (Nat.le_of_ble_eq_true rfl) dX0_choice_59 rfl (fun r M' L' hp15 => ?_)
                obtain ⟨rfl, rfl, rfl⟩ := hp15
                have hb14 := bDst_r hT ho k i
                refine at_istore_n C [(3, .int (sI (bDst M o k i))), (2, .int (sI ((k : Int)))), (0, .ref (G.1 (o))), (1, .int (sI ((i : Int)))), (4, .int (sI ((k : Int))))] dX0_choice_62 (by decide) rfl ?_
                refine at_iinc C 4 [(4, .int (sI ((k : Int) + 1))), (3, .int (sI (bDst M o k i))), (2, .int (sI ((k : Int)))), (0, .ref (G.1 (o))), (1, .int (sI ((i : Int))))] dX0_choice_63 rfl (by decide) rfl ?_
                refine at_goto C 18 dX0_choice_66 (by decide) ?_
                refine at_lv [3, 4, 2, 1, 0] rfl ?_
                exact at_eq (ih18 (k + 1) (bDst M o k i) (by omega) (by omega) (by rw [nea_yes (by assumption) (by rcases hv with q | q <;> omega)]; exact Or.inr rfl) (⟨by omega, by omega⟩)) (lvc_s (lvc_s (lvc_i ((nea_yes (by assumption) (by rcases hv with q | q <;> omega)).symm) (lvc_i (rfl) (lvc_i (by omega) rfl))))) rfl (rfl) (rfl)
    refine at_lv [3, 4, 2, 1, 0] rfl ?_
    exact at_eq (H18 _ 0 0 (Nat.lt_succ_self _) (by omega) (Or.inl rfl) (⟨by omega, by omega⟩)) (lvc_s (lvc_s (lvc_i (rfl) (lvc_s (lvc_i (rfl) rfl))))) rfl (rfl) (rfl)
  · refine at_iconst C dX0_choice_9 ?_
    exact hret _ _ _ _ _ dX0_choice_10 (⟨congrArg sI (by unfold bCho; rw [if_neg (by omega)]), rfl, rfl⟩)

set_option maxHeartbeats 4000000 in
set_option maxRecDepth 100000 in
theorem c_X0_soulFact (l : Launch) (D : va_G) (G : sG) {M : sM} {L : sL} {o : Nat} (ho : isB o) (hT : TInv M) (s : Nat) (hs : s < 6) (w : Int) (hw : 0 ≤ w ∧ w ≤ 5) : sKi l D G yX0_soulFact cX0_soulFact 3 .int 2 45 [.ref (G.1 (o)), .int (sI ((s : Int))), .int (sI (w))] M L (fun r M' L' => r = sI (bFact M o s w) ∧ M = M' ∧ L = L') := by
  refine sKi_go (by decide) (Nat.le_of_ble_eq_true rfl) ?_
  intro zp ze zs zm za zb zt zc Q C hret
  refine at_eq (lv' := [(0, .ref (G.1 (o))), (1, .int (sI ((s : Int)))), (2, .int (sI (w)))]) (st' := []) (M' := M) (L' := L) ?_ rfl rfl rfl rfl
  refine at_iload_n C 2 dX0_soulFact_0 rfl ?_
  by_cases hs1 : w = 0
  · refine at_tsw C dX0_soulFact_1 (⟨by omega, by omega⟩) 36 (Or.inr ⟨by omega, by omega, 35, by rw [hs1]; rfl, by decide⟩) ?_
    refine at_aload_n C 0 dX0_soulFact_36 rfl ?_
    refine at_getf (v := .ref (G.1 ((o + 2)))) C (obj_Bea G ho) (ci := 0) rfl inX0 (slot := 1) (by decide) qw_88 rfl rfl dX0_soulFact_37 ?_
    refine at_iload_n C 1 dX0_soulFact_40 rfl ?_
    refine at_iald C s (arI_kd G ho) (rfl) (by omega) dX0_soulFact_41 ?_
    have hb2 := tv_kd hT ho s
    exact hret _ _ _ _ _ dX0_soulFact_42 (⟨congrArg sI (by unfold bFact; simp [*]), rfl, rfl⟩)
  by_cases hs3 : w = 1
  · refine at_tsw C dX0_soulFact_1 (⟨by omega, by omega⟩) 43 (Or.inr ⟨by omega, by omega, 42, by rw [hs3]; rfl, by decide⟩) ?_
    refine at_aload_n C 0 dX0_soulFact_43 rfl ?_
    refine at_getf (v := .ref (G.1 ((o + 3)))) C (obj_Bea G ho) (ci := 0) rfl inX0 (slot := 2) (by decide) qw_89 rfl rfl dX0_soulFact_44 ?_
    refine at_iload_n C 1 dX0_soulFact_47 rfl ?_
    refine at_iald C s (arI_wt G ho) (rfl) (by omega) dX0_soulFact_48 ?_
    have hb4 := tv_wt hT ho s
    exact hret _ _ _ _ _ dX0_soulFact_49 (⟨congrArg sI (by unfold bFact; simp [*]), rfl, rfl⟩)
  by_cases hs5 : w = 2
  · refine at_tsw C dX0_soulFact_1 (⟨by omega, by omega⟩) 50 (Or.inr ⟨by omega, by omega, 49, by rw [hs5]; rfl, by decide⟩) ?_
    refine at_aload_n C 0 dX0_soulFact_50 rfl ?_
    refine at_getf (v := .ref (G.1 ((o + 5)))) C (obj_Bea G ho) (ci := 0) rfl inX0 (slot := 4) (by decide) qw_93 rfl rfl dX0_soulFact_51 ?_
    refine at_getf (v := .ref (G.1 ((o + 6)))) C ((isMo_now G ho).1) (ci := 1) rfl inX1 (slot := 0) (by decide) qw_37 rfl rfl dX0_soulFact_54 ?_
    refine at_iload_n C 1 dX0_soulFact_57 rfl ?_
    refine at_iald C s (arI_cell G ho) (rfl) (by omega) dX0_soulFact_58 ?_
    have hb6 := tv_cell hT ho s
    exact hret _ _ _ _ _ dX0_soulFact_59 (⟨congrArg sI (by unfold bFact; simp [*]), rfl, rfl⟩)
  by_cases hs7 : w = 3
  · refine at_tsw C dX0_soulFact_1 (⟨by omega, by omega⟩) 60 (Or.inr ⟨by omega, by omega, 59, by rw [hs7]; rfl, by decide⟩) ?_
    refine at_aload_n C 0 dX0_soulFact_60 rfl ?_
    refine at_getf (v := .ref (G.1 ((o + 5)))) C (obj_Bea G ho) (ci := 0) rfl inX0 (slot := 4) (by decide) qw_93 rfl rfl dX0_soulFact_61 ?_
    refine at_getf (v := .ref (G.1 ((o + 7)))) C ((isMo_now G ho).1) (ci := 1) rfl inX1 (slot := 1) (by decide) qw_40 rfl rfl dX0_soulFact_64 ?_
    refine at_iload_n C 1 dX0_soulFact_67 rfl ?_
    refine at_iald C s (arI_hold G ho) (rfl) (by omega) dX0_soulFact_68 ?_
    have hb8 := tv_hold hT ho s
    exact hret _ _ _ _ _ dX0_soulFact_69 (⟨congrArg sI (by unfold bFact; simp [*]), rfl, rfl⟩)
  by_cases hs9 : w = 4
  · refine at_tsw C dX0_soulFact_1 (⟨by omega, by omega⟩) 70 (Or.inr ⟨by omega, by omega, 69, by rw [hs9]; rfl, by decide⟩) ?_
    refine at_aload_n C 0 dX0_soulFact_70 rfl ?_
    refine at_getf (v := .ref (G.1 ((o + 5)))) C (obj_Bea G ho) (ci := 0) rfl inX0 (slot := 4) (by decide) qw_93 rfl rfl dX0_soulFact_71 ?_
    refine at_getf (v := .ref (G.1 ((o + 8)))) C ((isMo_now G ho).1) (ci := 1) rfl inX1 (slot := 2) (by decide) qw_44 rfl rfl dX0_soulFact_74 ?_
    refine at_iload_n C 1 dX0_soulFact_77 rfl ?_
    refine at_iald C s (arI_dry G ho) (rfl) (by omega) dX0_soulFact_78 ?_
    have hb10 := tv_dry hT ho s
    exact hret _ _ _ _ _ dX0_soulFact_79 (⟨congrArg sI (by unfold bFact; simp [*]), rfl, rfl⟩)
  refine at_tsw C dX0_soulFact_1 (⟨by omega, by omega⟩) 80 (Or.inl ⟨by omega, by decide⟩) ?_
  refine at_aload_n C 0 dX0_soulFact_80 rfl ?_
  refine at_iload_n C 1 dX0_soulFact_81 rfl ?_
  refine at_call_i C (c_X0_weighs l D G ho hT s (by omega)) (As := [.int (sI ((s : Int)))]) (obj_Bea G ho) (ci := 0) rfl qw_610 qw_607 qw_2 qw_608 qw_609 ⟨by decide, by decide, show (parseMethodDescriptor yX0_weighs.desc).map (fun d => d.parameters.length) = some 1 by decide +kernel⟩ ⟨by decide, by decide⟩ ⟨Nat.zero_le _, Nat.zero_le _⟩ (Nat.le_of_ble_eq_true rfl) dX0_soulFact_82 rfl (fun r M' L' hp12 => ?_)
  obtain ⟨rfl, rfl, rfl⟩ := hp12
  have hb11 := bWei_r hT ho s
  exact hret _ _ _ _ _ dX0_soulFact_85 (⟨congrArg sI (by unfold bFact; simp [*]), rfl, rfl⟩)

set_option maxHeartbeats 4000000 in
set_option maxRecDepth 100000 in
theorem c_X0_addSoul (l : Launch) (D : va_G) (G : sG) {M : sM} {L : sL} {o : Nat} (ho : isB o) (hT : TInv M) (k w c : Int) (hk : 0 ≤ k ∧ k ≤ 5) (hw : 1 ≤ w ∧ w ≤ 9) (hc : 0 ≤ c ∧ c ≤ 11) (hs : M o 9 < 6) : sKi l D G yX0_addSoul cX0_addSoul 5 .int 0 0 [.ref (G.1 (o)), .int (sI (k)), .int (sI (w)), .int (sI (c))] M L (fun r M' L' => r = sI (M o 9) ∧ M' = bAdS M o k w c ∧ TInv M' ∧ L = L') := by
  refine sKi_go (by decide) (Nat.le_of_ble_eq_true rfl) ?_
  intro zp ze zs zm za zb zt zc Q C hret
  refine at_eq (lv' := [(0, .ref (G.1 (o))), (1, .int (sI (k))), (2, .int (sI (w))), (3, .int (sI (c)))]) (st' := []) (M' := M) (L' := L) ?_ rfl rfl rfl rfl
  have hn := nS_r hT ho
  refine at_aload_n C 0 dX0_addSoul_0 rfl ?_
  refine at_getf (v := .int (sI (M o 9))) C (obj_Bea G ho) (ci := 0) rfl inX0 (slot := 9) (by decide) qw_106 rfl rfl dX0_addSoul_1 ?_
  have hb1 := tv_souls hT ho
  refine at_ve (b := (nS M o : Int)) (hn.2) ?_
  refine at_istore C [(4, .int (sI ((nS M o : Int)))), (0, .ref (G.1 (o))), (1, .int (sI (k))), (2, .int (sI (w))), (3, .int (sI (c)))] dX0_addSoul_4 (by decide) rfl ?_
  refine at_aload_n C 1 dX0_addSoul_6 rfl ?_
  refine at_getf (v := .ref (G.1 ((o + 2)))) C (obj_Bea G ho) (ci := 0) rfl inX0 (slot := 1) (by decide) qw_88 rfl rfl dX0_addSoul_7 ?_
  refine at_iload C 0 dX0_addSoul_10 rfl ?_
  refine at_iload_n C 2 dX0_addSoul_12 rfl ?_
  refine at_iast C (nS M o) (arI_kd G ho) (rfl) (by omega) dX0_addSoul_13 ?_
  have hT2 : TInv (sSt M (o + 2) (nS M o) k) := tw_kd hT ho (⟨by omega, by omega⟩)
  refine at_aload_n C 1 dX0_addSoul_14 rfl ?_
  refine at_getf (v := .ref (G.1 ((o + 3)))) C (obj_Bea G ho) (ci := 0) rfl inX0 (slot := 2) (by decide) qw_89 rfl rfl dX0_addSoul_15 ?_
  refine at_iload C 0 dX0_addSoul_18 rfl ?_
  refine at_iload_n C 3 dX0_addSoul_20 rfl ?_
  refine at_iast C (nS M o) (arI_wt G ho) (rfl) (by omega) dX0_addSoul_21 ?_
  have hT3 : TInv (sSt (sSt M (o + 2) (nS M o) k) (o + 3) (nS M o) w) := tw_wt hT2 ho (⟨by omega, by omega⟩)
  refine at_aload_n C 1 dX0_addSoul_22 rfl ?_
  refine at_getf (v := .ref (G.1 ((o + 5)))) C (obj_Bea G ho) (ci := 0) rfl inX0 (slot := 4) (by decide) qw_93 rfl rfl dX0_addSoul_23 ?_
  refine at_getf (v := .ref (G.1 ((o + 6)))) C ((isMo_now G ho).1) (ci := 1) rfl inX1 (slot := 0) (by decide) qw_37 rfl rfl dX0_addSoul_26 ?_
  refine at_iload C 0 dX0_addSoul_29 rfl ?_
  refine at_iload_n C 4 dX0_addSoul_31 rfl ?_
  refine at_iast C (nS M o) (arI_cell G ho) (rfl) (by omega) dX0_addSoul_32 ?_
  have hT4 : TInv (sSt (sSt (sSt M (o + 2) (nS M o) k) (o + 3) (nS M o) w) (o + 6) (nS M o) c) := tw_cell hT3 ho (⟨by omega, by omega⟩)
  refine at_aload_n C 1 dX0_addSoul_33 rfl ?_
  refine at_getf (v := .ref (G.1 ((o + 5)))) C (obj_Bea G ho) (ci := 0) rfl inX0 (slot := 4) (by decide) qw_93 rfl rfl dX0_addSoul_34 ?_
  refine at_getf (v := .ref (G.1 ((o + 7)))) C ((isMo_now G ho).1) (ci := 1) rfl inX1 (slot := 1) (by decide) qw_40 rfl rfl dX0_addSoul_37 ?_
  refine at_iload C 0 dX0_addSoul_40 rfl ?_
  refine at_iconst C dX0_addSoul_42 ?_
  refine at_iast C (nS M o) (arI_hold G ho) (rfl) (by omega) dX0_addSoul_43 ?_
  have hT5 : TInv (sSt (sSt (sSt (sSt M (o + 2) (nS M o) k) (o + 3) (nS M o) w) (o + 6) (nS M o) c) (o + 7) (nS M o) (-1)) := tw_hold hT4 ho (⟨by omega, by omega⟩)
  refine at_aload_n C 1 dX0_addSoul_44 rfl ?_
  refine at_getf (v := .ref (G.1 ((o + 5)))) C (obj_Bea G ho) (ci := 0) rfl inX0 (slot := 4) (by decide) qw_93 rfl rfl dX0_addSoul_45 ?_
  refine at_getf (v := .ref (G.1 ((o + 8)))) C ((isMo_now G ho).1) (ci := 1) rfl inX1 (slot := 2) (by decide) qw_44 rfl rfl dX0_addSoul_48 ?_
  refine at_iload C 0 dX0_addSoul_51 rfl ?_
  refine at_iconst C dX0_addSoul_53 ?_
  refine at_iast C (nS M o) (arI_dry G ho) (rfl) (by omega) dX0_addSoul_54 ?_
  have hT6 : TInv (sSt (sSt (sSt (sSt (sSt M (o + 2) (nS M o) k) (o + 3) (nS M o) w) (o + 6) (nS M o) c) (o + 7) (nS M o) (-1)) (o + 8) (nS M o) 0) := tw_dry hT5 ho (⟨by omega, by omega⟩)
  refine at_aload_n C 1 dX0_addSoul_55 rfl ?_
  refine at_dup C dX0_addSoul_56 rfl ?_
  refine at_getf (v := .int (sI ((sSt (sSt (sSt (sSt (sSt M (o + 2) (nS M o) k) (o + 3) (nS M o) w) (o + 6) (nS M o) c) (o + 7) (nS M o) (-1)) (o + 8) (nS M o) 0) o 9))) C (obj_Bea G ho) (ci := 0) rfl inX0 (slot := 9) (by decide) qw_106 rfl rfl dX0_addSoul_57 ?_
  have hb7 := tv_souls hT6 ho
  refine at_ve (b := M o 9) (by rw [sSt_at, if_neg (by omega), sSt_at, if_neg (by omega), sSt_at, if_neg (by omega), sSt_at, if_neg (by omega), sSt_at, if_neg (by omega)]) ?_
  refine at_iconst C dX0_addSoul_60 ?_
  refine at_iadd C dX0_addSoul_61 ?_
  refine at_putM (slot := 9) (ty := .int) C tyX0 (obj_Bea G ho) (ci := 0) rfl inX0 tyX0_ok nmX0 (by decide) qw_106 rfl rfl (by decide +kernel) rfl rfl (Nat.le_of_ble_eq_true rfl) rfl dX0_addSoul_62 ?_
  have hT8 : TInv (sSt (sSt (sSt (sSt (sSt (sSt M (o + 2) (nS M o) k) (o + 3) (nS M o) w) (o + 6) (nS M o) c) (o + 7) (nS M o) (-1)) (o + 8) (nS M o) 0) o 9 ((M o 9) + 1)) := tw_souls hT6 ho (⟨by omega, by omega⟩)
  refine at_iload C 0 dX0_addSoul_65 rfl ?_
  exact hret _ _ _ _ _ dX0_addSoul_67 (⟨by rw [hn.2], rfl, hT8, rfl⟩)

set_option maxHeartbeats 4000000 in
set_option maxRecDepth 100000 in
theorem c_X0_addCaller (l : Launch) (D : va_G) (G : sG) {M : sM} {L : sL} {o : Nat} (ho : isB o) (hT : TInv M) (k : Int) (hk : 0 ≤ k ∧ k ≤ 5) (hs : M o 10 < 6) : sKi l D G yX0_addCaller cX0_addCaller 3 .int 0 0 [.ref (G.1 (o)), .int (sI (k))] M L (fun r M' L' => r = sI (M o 10) ∧ M' = bAdI M o k ∧ TInv M' ∧ L = L') := by
  refine sKi_go (by decide) (Nat.le_of_ble_eq_true rfl) ?_
  intro zp ze zs zm za zb zt zc Q C hret
  refine at_eq (lv' := [(0, .ref (G.1 (o))), (1, .int (sI (k)))]) (st' := []) (M' := M) (L' := L) ?_ rfl rfl rfl rfl
  have hn := nC_r hT ho
  refine at_aload_n C 0 dX0_addCaller_0 rfl ?_
  refine at_getf (v := .int (sI (M o 10))) C (obj_Bea G ho) (ci := 0) rfl inX0 (slot := 10) (by decide) qw_109 rfl rfl dX0_addCaller_1 ?_
  have hb1 := tv_callers hT ho
  refine at_ve (b := (nC M o : Int)) (hn.2) ?_
  refine at_istore_n C [(2, .int (sI ((nC M o : Int)))), (0, .ref (G.1 (o))), (1, .int (sI (k)))] dX0_addCaller_4 (by decide) rfl ?_
  refine at_aload_n C 1 dX0_addCaller_5 rfl ?_
  refine at_getf (v := .ref (G.1 ((o + 4)))) C (obj_Bea G ho) (ci := 0) rfl inX0 (slot := 3) (by decide) qw_91 rfl rfl dX0_addCaller_6 ?_
  refine at_iload_n C 0 dX0_addCaller_9 rfl ?_
  refine at_iload_n C 2 dX0_addCaller_10 rfl ?_
  refine at_iast C (nC M o) (arI_ck G ho) (rfl) (by omega) dX0_addCaller_11 ?_
  have hT2 : TInv (sSt M (o + 4) (nC M o) k) := tw_ck hT ho (⟨by omega, by omega⟩)
  refine at_aload_n C 1 dX0_addCaller_12 rfl ?_
  refine at_dup C dX0_addCaller_13 rfl ?_
  refine at_getf (v := .int (sI ((sSt M (o + 4) (nC M o) k) o 10))) C (obj_Bea G ho) (ci := 0) rfl inX0 (slot := 10) (by decide) qw_109 rfl rfl dX0_addCaller_14 ?_
  have hb3 := tv_callers hT2 ho
  refine at_ve (b := M o 10) (by rw [sSt_at, if_neg (by omega)]) ?_
  refine at_iconst C dX0_addCaller_17 ?_
  refine at_iadd C dX0_addCaller_18 ?_
  refine at_putM (slot := 10) (ty := .int) C tyX0 (obj_Bea G ho) (ci := 0) rfl inX0 tyX0_ok nmX0 (by decide) qw_109 rfl rfl (by decide +kernel) rfl rfl (Nat.le_of_ble_eq_true rfl) rfl dX0_addCaller_19 ?_
  have hT4 : TInv (sSt (sSt M (o + 4) (nC M o) k) o 10 ((M o 10) + 1)) := tw_callers hT2 ho (⟨by omega, by omega⟩)
  refine at_iload_n C 0 dX0_addCaller_22 rfl ?_
  exact hret _ _ _ _ _ dX0_addCaller_23 (⟨by rw [hn.2], rfl, hT4, rfl⟩)

set_option maxHeartbeats 4000000 in
set_option maxRecDepth 100000 in
theorem c_X0_flow (l : Launch) (D : va_G) (G : sG) {M : sM} {L : sL} {o : Nat} (ho : isB o) (hT : TInv M) (ht : M (o + 5) 4 < 2000) : sKv l D G yX0_flow cX0_flow 2 2 45 [.ref (G.1 (o))] M L (fun M' L' => M' = bFlo M o ∧ TInv M' ∧ L = L') := by
  refine sKv_go (by decide) (Nat.le_of_ble_eq_true rfl) ?_
  intro zp ze zs zm za zb zt zc Q C hret
  refine at_eq (lv' := [(0, .ref (G.1 (o)))]) (st' := []) (M' := M) (L' := L) ?_ rfl rfl rfl rfl
  have hn := nS_r hT ho
  refine at_iconst C dX0_flow_0 ?_
  refine at_istore_n C [(1, .int (sI (0))), (0, .ref (G.1 (o)))] dX0_flow_1 (by decide) rfl ?_
  have H2 : ∀ (fu : Nat) (k : Nat), nS M o - k < fu → (k ≤ nS M o) → (TInv (flN M o k)) → sAt zp l ze (sRm 2 45) zs zm za zb zt zc D G 2 0 0 Q 2 [(0, .ref (G.1 (o))), (1, .int (sI ((k : Int))))] [] (flN M o k) L := by
    intro fu
    induction fu with
    | zero => intro k hd hk hTk; exact absurd hd (Nat.not_lt_zero _)
    | succ fu ih2 =>
      intro k hd2 hk hTk
      have g9 : flN M o k o 9 = M o 9 := by rw [flN_ne (by omega) (by omega)]
      have g6 := flN_6 M o k (Nat.le_refl k)
      have g7 : flN M o k (o + 7) k = M (o + 7) k := by rw [flN_ne (by omega) (by omega)]
      have g8 := flN_8 M o k (Nat.le_refl k)
      have g1 : flN M o k (o + 1) = M (o + 1) := flN_ne (by omega) (by omega)
      refine at_iload_n C 1 dX0_flow_2 rfl ?_
      refine at_aload_n C 0 dX0_flow_3 rfl ?_
      refine at_getf (v := .int (sI ((flN M o k) o 9))) C (obj_Bea G ho) (ci := 0) rfl inX0 (slot := 9) (by decide) qw_106 rfl rfl dX0_flow_4 ?_
      have hb1 := tv_souls hTk ho
      refine at_ve (b := M o 9) (g9) ?_
      refine at_icmp_ge C 83 dX0_flow_7 (by decide) (⟨by omega, by omega⟩) (⟨by omega, by omega⟩) (fun h2 => ?_) (fun h2 => ?_)
      · refine at_aload_n C 0 dX0_flow_83 rfl ?_
        refine at_getf (v := .ref (G.1 ((o + 5)))) C (obj_Bea G ho) (ci := 0) rfl inX0 (slot := 4) (by decide) qw_93 rfl rfl dX0_flow_84 ?_
        refine at_dup C dX0_flow_87 rfl ?_
        refine at_getf (v := .int (sI ((flN M o k) (o + 5) 4))) C ((isMo_now G ho).1) (ci := 1) rfl inX1 (slot := 4) (by decide) qw_49 rfl rfl dX0_flow_88 ?_
        have hb3 := tv_tide hTk ho
        refine at_ve (b := M (o + 5) 4) (by rw [flN_ne (by omega) (by omega)]) ?_
        have htr := tv_tide hT ho
        refine at_iconst C dX0_flow_91 ?_
        refine at_iadd C dX0_flow_92 ?_
        refine at_putM (slot := 4) (ty := .int) C tyX1 ((isMo_now G ho).1) (ci := 1) rfl inX1 tyX1_ok nmX1 (by decide) qw_49 rfl rfl (by decide +kernel) rfl rfl (Nat.le_of_ble_eq_true rfl) rfl dX0_flow_93 ?_
        have hT4 : TInv (sSt (flN M o k) (o + 5) 4 ((M (o + 5) 4) + 1)) := tw_tide hTk ho (⟨by omega, by omega⟩)
        exact hret _ _ _ _ dX0_flow_96 (⟨by unfold bFlo; rw [show nS M o = k by omega], hT4, rfl⟩)
      · refine at_aload_n C 0 dX0_flow_10 rfl ?_
        refine at_iload_n C 1 dX0_flow_11 rfl ?_
        refine at_call_i C (c_X0_adrift l D G ho hTk k (by omega)) (As := [.int (sI ((k : Int)))]) (obj_Bea G ho) (ci := 0) rfl qw_481 qw_478 qw_2 qw_479 qw_480 ⟨by decide, by decide, show (parseMethodDescriptor yX0_adrift.desc).map (fun d => d.parameters.length) = some 1 by decide +kernel⟩ ⟨by decide, by decide⟩ ⟨Nat.zero_le _, Nat.zero_le _⟩ (Nat.le_of_ble_eq_true rfl) dX0_flow_12 rfl (fun r M' L' hp5 => ?_)
        obtain ⟨rfl, rfl, rfl⟩ := hp5
        refine at_vi (y := (sB (M (o + 6) k ≠ -1))) (sB_c (by rw [adr, g6])) ?_
        refine at_if_eqB C 44 dX0_flow_15 (by decide) (fun h6 => ?_) (fun h6 => ?_)
        · refine at_aload_n C 0 dX0_flow_44 rfl ?_
          refine at_iload_n C 1 dX0_flow_45 rfl ?_
          refine at_call_i C (c_X0_shelved l D G ho hTk k (by omega)) (As := [.int (sI ((k : Int)))]) (obj_Bea G ho) (ci := 0) rfl qw_489 qw_486 qw_2 qw_487 qw_488 ⟨by decide, by decide, show (parseMethodDescriptor yX0_shelved.desc).map (fun d => d.parameters.length) = some 1 by decide +kernel⟩ ⟨by decide, by decide⟩ ⟨Nat.zero_le _, Nat.zero_le _⟩ (Nat.le_of_ble_eq_true rfl) dX0_flow_46 rfl (fun r M' L' hp7 => ?_)
          obtain ⟨rfl, rfl, rfl⟩ := hp7
          refine at_vi (y := (sB (M (o + 6) k = -1 ∧ M (o + 7) k = -1))) (sB_c (by rw [shv, g6, g7])) ?_
          refine at_if_eqB C 77 dX0_flow_49 (by decide) (fun h8 => ?_) (fun h8 => ?_)
          · refine at_iinc C 1 [(1, .int (sI ((k : Int) + 1))), (0, .ref (G.1 (o)))] dX0_flow_77 rfl (by decide) rfl ?_
            refine at_goto C 2 dX0_flow_80 (by decide) ?_
            refine at_lv [1, 0] rfl ?_
            exact at_eq (ih2 (k + 1) (by omega) (by omega) (by rw [← flN_c (M := M) (o := o) (k := k) (by omega) (by omega)]; exact hTk)) (lvc_s (lvc_i (by omega) rfl)) rfl (flN_c (by omega) (by omega)) (rfl)
          · refine at_aload_n C 0 dX0_flow_52 rfl ?_
            refine at_getf (v := .ref (G.1 ((o + 5)))) C (obj_Bea G ho) (ci := 0) rfl inX0 (slot := 4) (by decide) qw_93 rfl rfl dX0_flow_53 ?_
            refine at_getf (v := .ref (G.1 ((o + 8)))) C ((isMo_now G ho).1) (ci := 1) rfl inX1 (slot := 2) (by decide) qw_44 rfl rfl dX0_flow_56 ?_
            refine at_iload_n C 1 dX0_flow_59 rfl ?_
            refine at_aload_n C 0 dX0_flow_60 rfl ?_
            refine at_getf (v := .ref (G.1 ((o + 5)))) C (obj_Bea G ho) (ci := 0) rfl inX0 (slot := 4) (by decide) qw_93 rfl rfl dX0_flow_61 ?_
            refine at_getf (v := .ref (G.1 ((o + 8)))) C ((isMo_now G ho).1) (ci := 1) rfl inX1 (slot := 2) (by decide) qw_44 rfl rfl dX0_flow_64 ?_
            refine at_iload_n C 1 dX0_flow_67 rfl ?_
            refine at_iald C k (arI_dry G ho) (rfl) (by omega) dX0_flow_68 ?_
            have hb9 := tv_dry hTk ho k
            refine at_ve (b := M (o + 8) k) (g8) ?_
            refine at_iconst C dX0_flow_69 ?_
            refine at_iadd C dX0_flow_70 ?_
            refine at_bipush C dX0_flow_71 (by decide) (by decide) ?_
            refine at_mmin C qw_464 (⟨by omega, by omega⟩) (⟨by omega, by omega⟩) ⟨by decide, Nat.le_of_ble_eq_true rfl⟩ ⟨Nat.zero_le _, Nat.zero_le _⟩ dX0_flow_73 ?_
            refine at_iast C k (arI_dry G ho) (rfl) (by omega) dX0_flow_76 ?_
            have hT10 : TInv (sSt (flN M o k) (o + 8) k (min ((M (o + 8) k) + 1) 99)) := tw_dry hTk ho (⟨by omega, by omega⟩)
            refine at_iinc C 1 [(1, .int (sI ((k : Int) + 1))), (0, .ref (G.1 (o)))] dX0_flow_77 rfl (by decide) rfl ?_
            refine at_goto C 2 dX0_flow_80 (by decide) ?_
            refine at_lv [1, 0] rfl ?_
            exact at_eq (ih2 (k + 1) (by omega) (by omega) (by rw [← flN_b (M := M) (o := o) (k := k) (by omega) (by omega)]; exact hT10)) (lvc_s (lvc_i (by omega) rfl)) rfl (flN_b (by omega) (by omega)) (rfl)
        · refine at_aload_n C 0 dX0_flow_18 rfl ?_
          refine at_getf (v := .ref (G.1 ((o + 5)))) C (obj_Bea G ho) (ci := 0) rfl inX0 (slot := 4) (by decide) qw_93 rfl rfl dX0_flow_19 ?_
          refine at_getf (v := .ref (G.1 ((o + 6)))) C ((isMo_now G ho).1) (ci := 1) rfl inX1 (slot := 0) (by decide) qw_37 rfl rfl dX0_flow_22 ?_
          refine at_iload_n C 1 dX0_flow_25 rfl ?_
          refine at_aload_n C 0 dX0_flow_26 rfl ?_
          refine at_aload_n C 0 dX0_flow_27 rfl ?_
          refine at_getf (v := .ref (G.1 ((o + 5)))) C (obj_Bea G ho) (ci := 0) rfl inX0 (slot := 4) (by decide) qw_93 rfl rfl dX0_flow_28 ?_
          refine at_getf (v := .ref (G.1 ((o + 6)))) C ((isMo_now G ho).1) (ci := 1) rfl inX1 (slot := 0) (by decide) qw_37 rfl rfl dX0_flow_31 ?_
          refine at_iload_n C 1 dX0_flow_34 rfl ?_
          refine at_iald C k (arI_cell G ho) (rfl) (by omega) dX0_flow_35 ?_
          have hb11 := tv_cell hTk ho k
          refine at_ve (b := M (o + 6) k) (g6) ?_
          have hcr := tv_cell hT ho k
          refine at_iconst C dX0_flow_36 ?_
          refine at_call_i C (c_X0_drifted l D G ho hTk (M (o + 6) k) 1 ⟨by omega, by omega⟩ (by omega)) (As := [.int (sI (M (o + 6) k)), .int (sI (1))]) (obj_Bea G ho) (ci := 0) rfl qw_485 qw_482 qw_2 qw_483 qw_484 ⟨by decide, by decide, show (parseMethodDescriptor yX0_drifted.desc).map (fun d => d.parameters.length) = some 2 by decide +kernel⟩ ⟨by decide, by decide⟩ ⟨Nat.zero_le _, Nat.zero_le _⟩ (Nat.le_of_ble_eq_true rfl) dX0_flow_37 rfl (fun r M' L' hp13 => ?_)
          obtain ⟨rfl, rfl, rfl⟩ := hp13
          have hb12 := driN_r ((flN M o k) (o + 1)) (c := M (o + 6) k) ⟨by omega, by omega⟩ 1
          refine at_ve (b := driN (M (o + 1)) 1 (M (o + 6) k)) (by rw [g1]) ?_
          have hdr := driN_r (M (o + 1)) (c := M (o + 6) k) ⟨by omega, by omega⟩ 1
          refine at_iast C k (arI_cell G ho) (rfl) (by omega) dX0_flow_40 ?_
          have hT14 : TInv (sSt (flN M o k) (o + 6) k (driN (M (o + 1)) 1 (M (o + 6) k))) := tw_cell hTk ho (⟨by omega, by omega⟩)
          refine at_goto C 77 dX0_flow_41 (by decide) ?_
          refine at_iinc C 1 [(1, .int (sI ((k : Int) + 1))), (0, .ref (G.1 (o)))] dX0_flow_77 rfl (by decide) rfl ?_
          refine at_goto C 2 dX0_flow_80 (by decide) ?_
          refine at_lv [1, 0] rfl ?_
          exact at_eq (ih2 (k + 1) (by omega) (by omega) (by rw [← flN_a (M := M) (o := o) (k := k) (by omega)]; exact hT14)) (lvc_s (lvc_i (by omega) rfl)) rfl (flN_a (by omega)) (rfl)
  refine at_lv [1, 0] rfl ?_
  exact at_eq (H2 _ 0 (Nat.lt_succ_self _) (by omega) ((flN_0 M o) ▸ hT)) (lvc_s (lvc_i (rfl) rfl)) rfl (flN_0 M o) (rfl)

set_option maxHeartbeats 4000000 in
set_option maxRecDepth 100000 in
theorem c_X0_passTides (l : Launch) (D : va_G) (G : sG) {M : sM} {L : sL} {o : Nat} (ho : isB o) (hT : TInv M) (n : Nat) (hn : n < 1000) : sKv l D G yX0_passTides cX0_passTides 3 3 66 [.ref (G.1 (o)), .int (sI ((n : Int)))] M L (fun M' L' => M' = bPas M o n ∧ TInv M' ∧ L = L') := by
  refine sKv_go (by decide) (Nat.le_of_ble_eq_true rfl) ?_
  intro zp ze zs zm za zb zt zc Q C hret
  refine at_eq (lv' := [(0, .ref (G.1 (o))), (1, .int (sI ((n : Int))))]) (st' := []) (M' := M) (L' := L) ?_ rfl rfl rfl rfl
  refine at_iconst C dX0_passTides_0 ?_
  refine at_istore_n C [(2, .int (sI (0))), (0, .ref (G.1 (o))), (1, .int (sI ((n : Int))))] dX0_passTides_1 (by decide) rfl ?_
  have H2 : ∀ (fu : Nat) (k : Nat), n - k < fu → (k ≤ n) → (k = 0 ∨ M (o + 5) 4 + k ≤ 999) → (TInv (bFlos M o k)) → sAt zp l ze (sRm 3 66) zs zm za zb zt zc D G 3 0 0 Q 2 [(0, .ref (G.1 (o))), (1, .int (sI ((n : Int)))), (2, .int (sI ((k : Int))))] [] (bFlos M o k) L := by
    intro fu
    induction fu with
    | zero => intro k hd hk hk2 hTk; exact absurd hd (Nat.not_lt_zero _)
    | succ fu ih2 =>
      intro k hd2 hk hk2 hTk
      have g4 := bFlos_tide M o k
      refine at_iload_n C 2 dX0_passTides_2 rfl ?_
      refine at_iload_n C 1 dX0_passTides_3 rfl ?_
      refine at_icmp_ge C 30 dX0_passTides_4 (by decide) (⟨by omega, by omega⟩) (⟨by omega, by omega⟩) (fun h1 => ?_) (fun h1 => ?_)
      · exact hret _ _ _ _ dX0_passTides_30 (⟨by unfold bPas; rw [show min n (999 - M (o + 5) 4).toNat = k by omega], hTk, rfl⟩)
      · refine at_aload_n C 0 dX0_passTides_7 rfl ?_
        refine at_getf (v := .ref (G.1 ((o + 5)))) C (obj_Bea G ho) (ci := 0) rfl inX0 (slot := 4) (by decide) qw_93 rfl rfl dX0_passTides_8 ?_
        refine at_getf (v := .int (sI ((bFlos M o k) (o + 5) 4))) C ((isMo_now G ho).1) (ci := 1) rfl inX1 (slot := 4) (by decide) qw_49 rfl rfl dX0_passTides_11 ?_
        have hb2 := tv_tide hTk ho
        refine at_ve (b := M (o + 5) 4 + k) (g4) ?_
        refine at_sipush C dX0_passTides_14 (by decide) (by decide) ?_
        refine at_icmp_ge C 30 dX0_passTides_17 (by decide) (⟨by omega, by omega⟩) (⟨by omega, by omega⟩) (fun h3 => ?_) (fun h3 => ?_)
        · exact hret _ _ _ _ dX0_passTides_30 (⟨by unfold bPas; rw [show min n (999 - M (o + 5) 4).toNat = k by omega], hTk, rfl⟩)
        · refine at_aload_n C 0 dX0_passTides_20 rfl ?_
          refine at_call_v C (c_X0_flow l D G ho hTk (by omega)) (As := []) (obj_Bea G ho) (ci := 0) rfl qw_477 qw_474 qw_2 qw_475 qw_476 ⟨by decide, by decide, show (parseMethodDescriptor yX0_flow.desc).map (fun d => d.parameters.length) = some 0 by decide +kernel⟩ ⟨by decide, by decide⟩ ⟨Nat.zero_le _, Nat.zero_le _⟩ (Nat.le_of_ble_eq_true rfl) dX0_passTides_21 rfl (fun M' L' hp5 => ?_)
          obtain ⟨rfl, hT4, rfl⟩ := hp5
          refine at_iinc C 2 [(2, .int (sI ((k : Int) + 1))), (0, .ref (G.1 (o))), (1, .int (sI ((n : Int))))] dX0_passTides_24 rfl (by decide) rfl ?_
          refine at_goto C 2 dX0_passTides_27 (by decide) ?_
          refine at_lv [1, 2, 0] rfl ?_
          exact at_eq (ih2 (k + 1) (by omega) (by omega) (by omega) (hT4)) (lvc_s (lvc_s (lvc_i (by omega) rfl))) rfl (rfl) (rfl)
  refine at_lv [1, 2, 0] rfl ?_
  exact at_eq (H2 _ 0 (Nat.lt_succ_self _) (by omega) (by omega) (hT)) (lvc_s (lvc_s (lvc_i (rfl) rfl))) rfl (rfl) (rfl)

set_option maxHeartbeats 4000000 in
set_option maxRecDepth 100000 in
theorem c_X0_gather (l : Launch) (D : va_G) (G : sG) {M : sM} {L : sL} {o : Nat} (ho : isB o) (hT : TInv M) (d : Int) (hd : -1 ≤ d ∧ d ≤ 1) : sKi l D G yX0_gather cX0_gather 4 .int 1 21 [.ref (G.1 (o)), .int (sI (d))] M L (fun r M' L' => r = sI (bGaC M o d) ∧ M' = bGat M o d ∧ TInv M' ∧ L = L') := by
  refine sKi_go (by decide) (Nat.le_of_ble_eq_true rfl) ?_
  intro zp ze zs zm za zb zt zc Q C hret
  refine at_eq (lv' := [(0, .ref (G.1 (o))), (1, .int (sI (d)))]) (st' := []) (M' := M) (L' := L) ?_ rfl rfl rfl rfl
  have hn := nS_r hT ho
  refine at_aload_n C 0 dX0_gather_0 rfl ?_
  refine at_getf (v := .ref (G.1 ((o + 5)))) C (obj_Bea G ho) (ci := 0) rfl inX0 (slot := 4) (by decide) qw_93 rfl rfl dX0_gather_1 ?_
  refine at_iconst C dX0_gather_4 ?_
  refine at_bipush C dX0_gather_5 (by decide) (by decide) ?_
  refine at_aload_n C 0 dX0_gather_7 rfl ?_
  refine at_getf (v := .ref (G.1 ((o + 5)))) C (obj_Bea G ho) (ci := 0) rfl inX0 (slot := 4) (by decide) qw_93 rfl rfl dX0_gather_8 ?_
  refine at_getf (v := .int (sI (M (o + 5) 3))) C ((isMo_now G ho).1) (ci := 1) rfl inX1 (slot := 3) (by decide) qw_45 rfl rfl dX0_gather_11 ?_
  have hb1 := tv_comber hT ho
  refine at_iload_n C 1 dX0_gather_14 rfl ?_
  refine at_iadd C dX0_gather_15 ?_
  refine at_mmin C qw_464 (⟨by omega, by omega⟩) (⟨by omega, by omega⟩) ⟨by decide, Nat.le_of_ble_eq_true rfl⟩ ⟨Nat.zero_le _, Nat.zero_le _⟩ dX0_gather_16 ?_
  refine at_mmax C qw_467 (⟨by omega, by omega⟩) (⟨by omega, by omega⟩) ⟨by decide, Nat.le_of_ble_eq_true rfl⟩ ⟨Nat.zero_le _, Nat.zero_le _⟩ dX0_gather_19 ?_
  refine at_putM (slot := 3) (ty := .int) C tyX1 ((isMo_now G ho).1) (ci := 1) rfl inX1 tyX1_ok nmX1 (by decide) qw_45 rfl rfl (by decide +kernel) rfl rfl (Nat.le_of_ble_eq_true rfl) rfl dX0_gather_22 ?_
  have hT2 : TInv (sSt M (o + 5) 3 (max 0 (min 11 ((M (o + 5) 3) + d)))) := tw_comber hT ho (⟨by omega, by omega⟩)
  refine at_iconst C dX0_gather_25 ?_
  refine at_istore_n C [(2, .int (sI (0))), (0, .ref (G.1 (o))), (1, .int (sI (d)))] dX0_gather_26 (by decide) rfl ?_
  refine at_iconst C dX0_gather_27 ?_
  refine at_istore_n C [(3, .int (sI (0))), (2, .int (sI (0))), (0, .ref (G.1 (o))), (1, .int (sI (d)))] dX0_gather_28 (by decide) rfl ?_
  have H29 : ∀ (fu : Nat) (k : Nat), nS M o - k < fu → (k ≤ nS M o) → (TInv (gaN M o k (max 0 (min 11 (M (o + 5) 3 + d))))) → sAt zp l ze (sRm 1 21) zs zm za zb zt zc D G 4 0 0 Q 29 [(0, .ref (G.1 (o))), (1, .int (sI (d))), (2, .int (sI (cnt (fun s => M (o + 6) s = max 0 (min 11 (M (o + 5) 3 + d))) k))), (3, .int (sI ((k : Int))))] [] (gaN M o k (max 0 (min 11 (M (o + 5) 3 + d)))) L := by
    intro fu
    induction fu with
    | zero => intro k hd hk hTk; exact absurd hd (Nat.not_lt_zero _)
    | succ fu ih29 =>
      intro k hd29 hk hTk
      have g9 := gaN_o M o k (max 0 (min 11 (M (o + 5) 3 + d))) 9
      have g6 := gaN_6 M o k (max 0 (min 11 (M (o + 5) 3 + d))) (Nat.le_refl k)
      have g5 := gaN_5 M o k (max 0 (min 11 (M (o + 5) 3 + d)))
      refine at_iload_n C 3 dX0_gather_29 rfl ?_
      refine at_aload_n C 0 dX0_gather_30 rfl ?_
      refine at_getf (v := .int (sI ((gaN M o k (max 0 (min 11 (M (o + 5) 3 + d)))) o 9))) C (obj_Bea G ho) (ci := 0) rfl inX0 (slot := 9) (by decide) qw_106 rfl rfl dX0_gather_31 ?_
      have hb3 := tv_souls hTk ho
      refine at_ve (b := M o 9) (g9) ?_
      refine at_icmp_ge C 85 dX0_gather_34 (by decide) (⟨by omega, by omega⟩) (⟨by omega, by omega⟩) (fun h4 => ?_) (fun h4 => ?_)
      · refine at_iload_n C 2 dX0_gather_85 rfl ?_
        exact hret _ _ _ _ _ dX0_gather_86 (⟨congrArg sI (by unfold bGaC; rw [show nS M o = k by omega]), by unfold bGat; rw [show nS M o = k by omega], hTk, rfl⟩)
      · refine at_aload_n C 0 dX0_gather_37 rfl ?_
        refine at_getf (v := .ref (G.1 ((o + 5)))) C (obj_Bea G ho) (ci := 0) rfl inX0 (slot := 4) (by decide) qw_93 rfl rfl dX0_gather_38 ?_
        refine at_getf (v := .ref (G.1 ((o + 6)))) C ((isMo_now G ho).1) (ci := 1) rfl inX1 (slot := 0) (by decide) qw_37 rfl rfl dX0_gather_41 ?_
        refine at_iload_n C 3 dX0_gather_44 rfl ?_
        refine at_iald C k (arI_cell G ho) (rfl) (by omega) dX0_gather_45 ?_
        have hb5 := tv_cell hTk ho k
        refine at_ve (b := M (o + 6) k) (g6) ?_
        refine at_aload_n C 0 dX0_gather_46 rfl ?_
        refine at_getf (v := .ref (G.1 ((o + 5)))) C (obj_Bea G ho) (ci := 0) rfl inX0 (slot := 4) (by decide) qw_93 rfl rfl dX0_gather_47 ?_
        refine at_getf (v := .int (sI ((gaN M o k (max 0 (min 11 (M (o + 5) 3 + d)))) (o + 5) 3))) C ((isMo_now G ho).1) (ci := 1) rfl inX1 (slot := 3) (by decide) qw_45 rfl rfl dX0_gather_50 ?_
        have hb6 := tv_comber hTk ho
        refine at_ve (b := max 0 (min 11 (M (o + 5) 3 + d))) (g5) ?_
        refine at_icmp_ne C 79 dX0_gather_53 (by decide) (⟨by omega, by omega⟩) (⟨by omega, by omega⟩) (fun h7 => ?_) (fun h7 => ?_)
        · refine at_iinc C 3 [(3, .int (sI ((k : Int) + 1))), (0, .ref (G.1 (o))), (1, .int (sI (d))), (2, .int (sI (cnt (fun s => M (o + 6) s = max 0 (min 11 (M (o + 5) 3 + d))) k)))] dX0_gather_79 rfl (by decide) rfl ?_
          refine at_goto C 29 dX0_gather_82 (by decide) ?_
          refine at_lv [1, 2, 3, 0] rfl ?_
          exact at_eq (ih29 (k + 1) (by omega) (by omega) (by rw [← gaN_b (M := M) (o := o) (k := k) (by omega)]; exact hTk)) (lvc_s (lvc_s (lvc_i (by simp only [cnt]; simp [*]) (lvc_i (by omega) rfl)))) rfl (gaN_b (by omega)) (rfl)
        · refine at_aload_n C 0 dX0_gather_56 rfl ?_
          refine at_getf (v := .ref (G.1 ((o + 5)))) C (obj_Bea G ho) (ci := 0) rfl inX0 (slot := 4) (by decide) qw_93 rfl rfl dX0_gather_57 ?_
          refine at_getf (v := .ref (G.1 ((o + 6)))) C ((isMo_now G ho).1) (ci := 1) rfl inX1 (slot := 0) (by decide) qw_37 rfl rfl dX0_gather_60 ?_
          refine at_iload_n C 3 dX0_gather_63 rfl ?_
          refine at_iconst C dX0_gather_64 ?_
          refine at_iast C k (arI_cell G ho) (rfl) (by omega) dX0_gather_65 ?_
          have hT8 : TInv (sSt (gaN M o k (max 0 (min 11 (M (o + 5) 3 + d)))) (o + 6) k (-1)) := tw_cell hTk ho (⟨by omega, by omega⟩)
          refine at_aload_n C 0 dX0_gather_66 rfl ?_
          refine at_getf (v := .ref (G.1 ((o + 5)))) C (obj_Bea G ho) (ci := 0) rfl inX0 (slot := 4) (by decide) qw_93 rfl rfl dX0_gather_67 ?_
          refine at_getf (v := .ref (G.1 ((o + 8)))) C ((isMo_now G ho).1) (ci := 1) rfl inX1 (slot := 2) (by decide) qw_44 rfl rfl dX0_gather_70 ?_
          refine at_iload_n C 3 dX0_gather_73 rfl ?_
          refine at_iconst C dX0_gather_74 ?_
          refine at_iast C k (arI_dry G ho) (rfl) (by omega) dX0_gather_75 ?_
          have hT9 : TInv (sSt (sSt (gaN M o k (max 0 (min 11 (M (o + 5) 3 + d)))) (o + 6) k (-1)) (o + 8) k 0) := tw_dry hT8 ho (⟨by omega, by omega⟩)
          refine at_iinc C 2 [(2, .int (sI ((cnt (fun s => M (o + 6) s = max 0 (min 11 (M (o + 5) 3 + d))) k) + 1))), (0, .ref (G.1 (o))), (1, .int (sI (d))), (3, .int (sI ((k : Int))))] dX0_gather_76 rfl (by decide) rfl ?_
          refine at_iinc C 3 [(3, .int (sI ((k : Int) + 1))), (2, .int (sI ((cnt (fun s => M (o + 6) s = max 0 (min 11 (M (o + 5) 3 + d))) k) + 1))), (0, .ref (G.1 (o))), (1, .int (sI (d)))] dX0_gather_79 rfl (by decide) rfl ?_
          refine at_goto C 29 dX0_gather_82 (by decide) ?_
          refine at_lv [2, 3, 1, 0] rfl ?_
          exact at_eq (ih29 (k + 1) (by omega) (by omega) (by rw [← gaN_a (M := M) (o := o) (k := k) (by omega)]; exact hT9)) (lvc_s (lvc_s (lvc_i (by simp only [cnt]; simp [*]) (lvc_i (by omega) rfl)))) rfl (gaN_a (by omega)) (rfl)
  refine at_lv [2, 3, 1, 0] rfl ?_
  exact at_eq (H29 _ 0 (Nat.lt_succ_self _) (by omega) ((gaN_0 M o _) ▸ hT2)) (lvc_s (lvc_s (lvc_i (rfl) (lvc_i (rfl) rfl)))) rfl (gaN_0 M o _) (rfl)
