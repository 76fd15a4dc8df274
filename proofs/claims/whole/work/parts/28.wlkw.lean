theorem nI_L {x : Nat} (h : x < 2147483648) : (sI (x : Int)).toInt64 = lN x := by rw [sI_nI, nI_l h]
set_option maxHeartbeats 4000000 in
set_option maxRecDepth 100000 in
theorem c_X5_layOut (l : Launch) (D : va_G) (G : sG) {M : sM} {L : sL} (left : Nat) (hl : left < 64) (hcell : ∀ s, s < nS M 1 → left.testBit s = true → 0 ≤ M 251 s) (hT : TInv M) : sKv l D G yX5_layOut cX5_layOut 4 1 21 [.ref (G.1 (245)), .ref (G.1 (1)), .int (sI ((left : Int)))] M L (fun M' L' => M' = sSr M 252 (lyR M left (nS M 1)) ∧ TInv M' ∧ L = L') := by
  refine sKv_go (by decide) (Nat.le_of_ble_eq_true rfl) ?_
  intro zp ze zs zm za zb zt zc Q C hret
  refine at_eq (lv' := [(0, .ref (G.1 (245))), (1, .ref (G.1 (1))), (2, .int (sI ((left : Int))))]) (st' := []) (M' := M) (L' := L) ?_ rfl rfl rfl rfl
  have hn := nS_r hT (Or.inl rfl)
  refine at_iconst C dX5_layOut_0 ?_
  refine at_istore_n C [(3, .int (sI (0))), (0, .ref (G.1 (245))), (1, .ref (G.1 (1))), (2, .int (sI ((left : Int))))] dX5_layOut_1 (by decide) rfl ?_
  have H2 : ∀ (fu : Nat) (k : Nat), 12 - k < fu → (k ≤ 12) → (TInv (sSr M 252 (zrR M k))) → sAt zp l ze (sRm 1 21) zs zm za zb zt zc D G 4 0 0 Q 2 [(0, .ref (G.1 (245))), (1, .ref (G.1 (1))), (2, .int (sI ((left : Int)))), (3, .int (sI ((k : Int))))] [] (sSr M 252 (zrR M k)) L := by
    intro fu
    induction fu with
    | zero => intro k hd hk hTk; exact absurd hd (Nat.not_lt_zero _)
    | succ fu ih2 =>
      intro k hd2 hk hTk
      refine at_iload_n C 3 dX5_layOut_2 rfl ?_
      refine at_bipush C dX5_layOut_3 (by decide) (by decide) ?_
      refine at_icmp_ge C 21 dX5_layOut_5 (by decide) (⟨by omega, by omega⟩) (⟨by omega, by omega⟩) (fun h1 => ?_) (fun h1 => ?_)
      · refine at_iconst C dX5_layOut_21 ?_
        refine at_istore_n C [(3, .int (sI (0))), (0, .ref (G.1 (245))), (1, .ref (G.1 (1))), (2, .int (sI ((left : Int))))] dX5_layOut_22 (by decide) rfl ?_
        have H23 : ∀ (fu : Nat) (q : Nat), nS M 1 - q < fu → (q ≤ nS M 1) → (TInv (sSr M 252 (lyR M left q))) → sAt zp l ze (sRm 1 21) zs zm za zb zt zc D G 4 0 0 Q 23 [(0, .ref (G.1 (245))), (1, .ref (G.1 (1))), (2, .int (sI ((left : Int)))), (3, .int (sI ((q : Int))))] [] (sSr M 252 (lyR M left q)) L := by
          intro fu
          induction fu with
          | zero => intro q hd hq hTq; exact absurd hd (Nat.not_lt_zero _)
          | succ fu ih23 =>
            intro q hd23 hq hTq
            refine at_iload_n C 3 dX5_layOut_23 rfl ?_
            refine at_aload_n C 1 dX5_layOut_24 rfl ?_
            refine at_getf (v := .int (sI ((sSr M 252 (lyR M left q)) 1 9))) C (obj_Bea G (Or.inl rfl)) (ci := 0) rfl inX0 (slot := 9) (by decide) qw_105 rfl rfl dX5_layOut_25 ?_
            have hb2 := tv_souls hTq (Or.inl rfl)
            refine at_ve (b := M 1 9) (by rw [sSr_ne (by decide)]) ?_
            refine at_icmp_ge C 62 dX5_layOut_28 (by decide) (⟨by omega, by omega⟩) (⟨by omega, by omega⟩) (fun h3 => ?_) (fun h3 => ?_)
            · exact hret _ _ _ _ dX5_layOut_62 (⟨by rw [show nS M 1 = q by omega], hTq, rfl⟩)
            · refine at_iload_n C 2 dX5_layOut_31 rfl ?_
              refine at_iload_n C 3 dX5_layOut_32 rfl ?_
              refine at_nest_i C (c_X6_contains l D G left q (by omega) (by omega)) (As := [.int (sI ((left : Int))), .int (sI ((q : Int)))]) qw_644 (host := RX6) (List.mem_of_getElem? (i := 8) rfl) qw_1 qw_643 ⟨by decide, by decide, show (parseMethodDescriptor yX6_contains.desc).map (fun d => d.parameters.length) = some 2 by decide +kernel⟩ ⟨by decide, by decide⟩ ⟨Nat.zero_le _, Nat.zero_le _⟩ (Nat.le_of_ble_eq_true rfl) dX5_layOut_33 rfl (fun r M' L' hp4 => ?_)
              obtain ⟨rfl, rfl, rfl⟩ := hp4
              refine at_if_eqB C 56 dX5_layOut_36 (by decide) (fun h5 => ?_) (fun h5 => ?_)
              · refine at_iinc C 3 [(3, .int (sI ((q : Int) + 1))), (0, .ref (G.1 (245))), (1, .ref (G.1 (1))), (2, .int (sI ((left : Int))))] dX5_layOut_56 rfl (by decide) rfl ?_
                refine at_goto C 23 dX5_layOut_59 (by decide) ?_
                refine at_lv [1, 2, 3, 0] rfl ?_
                exact at_eq (ih23 (q + 1) (by omega) (by omega) ((lyR_n (M := M) (left := left) (k := q) (by assumption)) ▸ hTq)) (lvc_s (lvc_s (lvc_s (lvc_i (by omega) rfl)))) rfl (lyR_n (by assumption)) (rfl)
              · refine at_aload_n C 0 dX5_layOut_39 rfl ?_
                refine at_getf (v := .ref (G.1 (252))) C (obj_Wal G) (ci := 5) rfl inX5 (slot := 6) (by decide) qw_188 rfl rfl dX5_layOut_40 ?_
                refine at_aload_n C 0 dX5_layOut_43 rfl ?_
                refine at_getf (v := .ref (G.1 (251))) C (obj_Wal G) (ci := 5) rfl inX5 (slot := 5) (by decide) qw_187 rfl rfl dX5_layOut_44 ?_
                refine at_iload_n C 3 dX5_layOut_47 rfl ?_
                refine at_iald C q (ar_251 G) (rfl) (by omega) dX5_layOut_48 ?_
                have hb6 := tv hTq (k := 251) (j := q) rfl
                refine at_ve (b := M 251 q) (by rw [sSr_ne (by decide)]) ?_
                have hcr : _ ≤ M 251 q ∧ M 251 q ≤ _ := tv hT (k := 251) (j := q) (lo := -1) (hi := 11) rfl
                have hc0 := hcell q (by omega) (by assumption)
                refine at_dup2 C dX5_layOut_49 rfl rfl ?_
                refine at_iald C ((M 251 q).toNat) (ar_252 G) (by omega) (by omega) dX5_layOut_50 ?_
                have hb7 := tv hTq (k := 252) (j := ((M 251 q).toNat)) rfl
                refine at_ve (b := (((lyS M left q (M 251 q).toNat) : Nat) : Int)) (by rw [sSr_eq]; exact if_pos (by omega)) ?_
                have hls := lyS_lt M left (M 251 q).toNat (k := q) (by omega)
                refine at_iconst C dX5_layOut_51 ?_
                refine at_iload_n C 3 dX5_layOut_52 rfl ?_
                refine at_ishl C ((((2 ^ q) : Nat) : Int)) dX5_layOut_53 (zb_shl (by omega)) ?_
                refine at_ior C ((((lyS M left q (M 251 q).toNat ||| 2 ^ q) : Nat) : Int)) dX5_layOut_54 (zb_or _ _) ?_
                refine at_iast C ((M 251 q).toNat) (ar_252 G) (by omega) (by omega) dX5_layOut_55 ?_
                have hT8 : TInv (sSt (sSr M 252 (lyR M left q)) 252 ((M 251 q).toNat) (((lyS M left q (M 251 q).toNat ||| 2 ^ q) : Nat) : Int)) := tv_st hTq (k := 252) rfl (⟨by omega, by have : lyS M left q (M 251 q).toNat ||| 2 ^ q < 2 ^ 6 := Nat.or_lt_two_pow hls (Nat.pow_lt_pow_right (by decide) (by omega)); omega⟩)
                refine at_iinc C 3 [(3, .int (sI ((q : Int) + 1))), (0, .ref (G.1 (245))), (1, .ref (G.1 (1))), (2, .int (sI ((left : Int))))] dX5_layOut_56 rfl (by decide) rfl ?_
                refine at_goto C 23 dX5_layOut_59 (by decide) ?_
                refine at_lv [1, 2, 3, 0] rfl ?_
                exact at_eq (ih23 (q + 1) (by omega) (by omega) ((lyR_y (M := M) (left := left) (k := q) (c := (M 251 q).toNat) (by assumption) (by omega) (by omega)) ▸ hT8)) (lvc_s (lvc_s (lvc_s (lvc_i (by omega) rfl)))) rfl (lyR_y (by assumption) (by omega) (by omega)) (rfl)
        refine at_lv [1, 2, 3, 0] rfl ?_
        exact at_eq (H23 _ 0 (Nat.lt_succ_self _) (by omega) (by rw [← lyR_0, ← (show k = 12 by omega)]; exact hTk)) (lvc_s (lvc_s (lvc_s (lvc_i (rfl) rfl)))) rfl (by rw [show k = 12 by omega]; exact lyR_0 M left) (rfl)
      · refine at_aload_n C 0 dX5_layOut_8 rfl ?_
        refine at_getf (v := .ref (G.1 (252))) C (obj_Wal G) (ci := 5) rfl inX5 (slot := 6) (by decide) qw_188 rfl rfl dX5_layOut_9 ?_
        refine at_iload_n C 3 dX5_layOut_12 rfl ?_
        refine at_iconst C dX5_layOut_13 ?_
        refine at_iast C k (ar_252 G) (rfl) (by omega) dX5_layOut_14 ?_
        have hT9 : TInv (sSt (sSr M 252 (zrR M k)) 252 k 0) := tv_st hTk (k := 252) rfl (⟨by omega, by omega⟩)
        refine at_iinc C 3 [(3, .int (sI ((k : Int) + 1))), (0, .ref (G.1 (245))), (1, .ref (G.1 (1))), (2, .int (sI ((left : Int))))] dX5_layOut_15 rfl (by decide) rfl ?_
        refine at_goto C 2 dX5_layOut_18 (by decide) ?_
        refine at_lv [1, 2, 3, 0] rfl ?_
        exact at_eq (ih2 (k + 1) (by omega) (by omega) ((zrR_s M k) ▸ hT9)) (lvc_s (lvc_s (lvc_s (lvc_i (by omega) rfl)))) rfl (zrR_s M k) (rfl)
  refine at_lv [1, 2, 3, 0] rfl ?_
  exact at_eq (H2 _ 0 (Nat.lt_succ_self _) (by omega) ((zrR_0 M) ▸ hT)) (lvc_s (lvc_s (lvc_s (lvc_i (rfl) rfl)))) rfl (zrR_0 M) (rfl)

set_option maxHeartbeats 4000000 in
set_option maxRecDepth 100000 in
theorem c_X5_drift (l : Launch) (D : va_G) (G : sG) {M : sM} {L : sL} (left : Nat) (hl : left < 64) (hcell : ∀ s, s < nS M 1 → left.testBit s = true → 0 ≤ M 251 s) (hT : TInv M) : sKv l D G yX5_drift cX5_drift 4 2 45 [.ref (G.1 (245)), .ref (G.1 (1)), .int (sI ((left : Int)))] M L (fun M' L' => M' = sSr M 251 (drR M left (nS M 1)) ∧ TInv M' ∧ L = L') := by
  refine sKv_go (by decide) (Nat.le_of_ble_eq_true rfl) ?_
  intro zp ze zs zm za zb zt zc Q C hret
  refine at_eq (lv' := [(0, .ref (G.1 (245))), (1, .ref (G.1 (1))), (2, .int (sI ((left : Int))))]) (st' := []) (M' := M) (L' := L) ?_ rfl rfl rfl rfl
  have hn := nS_r hT (Or.inl rfl)
  refine at_iconst C dX5_drift_0 ?_
  refine at_istore_n C [(3, .int (sI (0))), (0, .ref (G.1 (245))), (1, .ref (G.1 (1))), (2, .int (sI ((left : Int))))] dX5_drift_1 (by decide) rfl ?_
  have H2 : ∀ (fu : Nat) (q : Nat), nS M 1 - q < fu → (q ≤ nS M 1) → (TInv (sSr M 251 (drR M left q))) → sAt zp l ze (sRm 2 45) zs zm za zb zt zc D G 4 0 0 Q 2 [(0, .ref (G.1 (245))), (1, .ref (G.1 (1))), (2, .int (sI ((left : Int)))), (3, .int (sI ((q : Int))))] [] (sSr M 251 (drR M left q)) L := by
    intro fu
    induction fu with
    | zero => intro q hd hq hTq; exact absurd hd (Nat.not_lt_zero _)
    | succ fu ih2 =>
      intro q hd2 hq hTq
      refine at_iload_n C 3 dX5_drift_2 rfl ?_
      refine at_aload_n C 1 dX5_drift_3 rfl ?_
      refine at_getf (v := .int (sI ((sSr M 251 (drR M left q)) 1 9))) C (obj_Bea G (Or.inl rfl)) (ci := 0) rfl inX0 (slot := 9) (by decide) qw_105 rfl rfl dX5_drift_4 ?_
      have hb1 := tv_souls hTq (Or.inl rfl)
      refine at_ve (b := M 1 9) (by rw [sSr_ne (by decide)]) ?_
      refine at_icmp_ge C 41 dX5_drift_7 (by decide) (⟨by omega, by omega⟩) (⟨by omega, by omega⟩) (fun h2 => ?_) (fun h2 => ?_)
      · exact hret _ _ _ _ dX5_drift_41 (⟨by rw [show nS M 1 = q by omega], hTq, rfl⟩)
      · refine at_iload_n C 2 dX5_drift_10 rfl ?_
        refine at_iload_n C 3 dX5_drift_11 rfl ?_
        refine at_nest_i C (c_X6_contains l D G left q (by omega) (by omega)) (As := [.int (sI ((left : Int))), .int (sI ((q : Int)))]) qw_644 (host := RX6) (List.mem_of_getElem? (i := 8) rfl) qw_1 qw_643 ⟨by decide, by decide, show (parseMethodDescriptor yX6_contains.desc).map (fun d => d.parameters.length) = some 2 by decide +kernel⟩ ⟨by decide, by decide⟩ ⟨Nat.zero_le _, Nat.zero_le _⟩ (Nat.le_of_ble_eq_true rfl) dX5_drift_12 rfl (fun r M' L' hp3 => ?_)
        obtain ⟨rfl, rfl, rfl⟩ := hp3
        refine at_if_eqB C 35 dX5_drift_15 (by decide) (fun h4 => ?_) (fun h4 => ?_)
        · refine at_iinc C 3 [(3, .int (sI ((q : Int) + 1))), (0, .ref (G.1 (245))), (1, .ref (G.1 (1))), (2, .int (sI ((left : Int))))] dX5_drift_35 rfl (by decide) rfl ?_
          refine at_goto C 2 dX5_drift_38 (by decide) ?_
          refine at_lv [1, 2, 3, 0] rfl ?_
          exact at_eq (ih2 (q + 1) (by omega) (by omega) ((drR_n (M := M) (left := left) (k := q) (by assumption)) ▸ hTq)) (lvc_s (lvc_s (lvc_s (lvc_i (by omega) rfl)))) rfl (drR_n (by assumption)) (rfl)
        · refine at_aload_n C 0 dX5_drift_18 rfl ?_
          refine at_getf (v := .ref (G.1 (251))) C (obj_Wal G) (ci := 5) rfl inX5 (slot := 5) (by decide) qw_187 rfl rfl dX5_drift_19 ?_
          refine at_iload_n C 3 dX5_drift_22 rfl ?_
          refine at_aload_n C 1 dX5_drift_23 rfl ?_
          refine at_aload_n C 0 dX5_drift_24 rfl ?_
          refine at_getf (v := .ref (G.1 (251))) C (obj_Wal G) (ci := 5) rfl inX5 (slot := 5) (by decide) qw_187 rfl rfl dX5_drift_25 ?_
          refine at_iload_n C 3 dX5_drift_28 rfl ?_
          refine at_iald C q (ar_251 G) (rfl) (by omega) dX5_drift_29 ?_
          have hb5 := tv hTq (k := 251) (j := q) rfl
          refine at_ve (b := M 251 q) (by rw [sSr_eq]; exact if_neg (fun z => by have := z.1; omega)) ?_
          have hcr : _ ≤ M 251 q ∧ M 251 q ≤ _ := tv hT (k := 251) (j := q) (lo := -1) (hi := 11) rfl
          have hc0 := hcell q (by omega) (by assumption)
          have hdr := driN_r (M 2) (c := M 251 q) ⟨by omega, by omega⟩ 1
          refine at_iconst C dX5_drift_30 ?_
          refine at_call_i C (c_X0_drifted l D G (Or.inl rfl) hTq (M 251 q) 1 ⟨by omega, by omega⟩ (by omega)) (As := [.int (sI (M 251 q)), .int (sI (1))]) (obj_Bea G (Or.inl rfl)) (ci := 0) rfl qw_485 qw_662 qw_2 qw_483 qw_484 ⟨by decide, by decide, show (parseMethodDescriptor yX0_drifted.desc).map (fun d => d.parameters.length) = some 2 by decide +kernel⟩ ⟨by decide, by decide⟩ ⟨Nat.zero_le _, Nat.zero_le _⟩ (Nat.le_of_ble_eq_true rfl) dX5_drift_31 rfl (fun r M' L' hp7 => ?_)
          obtain ⟨rfl, rfl, rfl⟩ := hp7
          refine at_ve (b := driN ((sSr M 251 (drR M left q)) 2) 1 (M 251 q)) rfl ?_
          have hb6 := driN_r ((sSr M 251 (drR M left q)) 2) (c := M 251 q) ⟨by omega, by omega⟩ 1
          refine at_ve (b := driN (M 2) 1 (M 251 q)) (by rw [sSr_ne (by decide)]) ?_
          refine at_iast C q (ar_251 G) (rfl) (by omega) dX5_drift_34 ?_
          have hT8 : TInv (sSt (sSr M 251 (drR M left q)) 251 q (driN (M 2) 1 (M 251 q))) := tv_st hTq (k := 251) rfl (⟨by omega, by omega⟩)
          refine at_iinc C 3 [(3, .int (sI ((q : Int) + 1))), (0, .ref (G.1 (245))), (1, .ref (G.1 (1))), (2, .int (sI ((left : Int))))] dX5_drift_35 rfl (by decide) rfl ?_
          refine at_goto C 2 dX5_drift_38 (by decide) ?_
          refine at_lv [1, 2, 3, 0] rfl ?_
          exact at_eq (ih2 (q + 1) (by omega) (by omega) ((drR_y (M := M) (left := left) (k := q) (by assumption)) ▸ hT8)) (lvc_s (lvc_s (lvc_s (lvc_i (by omega) rfl)))) rfl (drR_y (by assumption)) (rfl)
  refine at_lv [1, 2, 3, 0] rfl ?_
  exact at_eq (H2 _ 0 (Nat.lt_succ_self _) (by omega) ((drR_0 M left) ▸ hT)) (lvc_s (lvc_s (lvc_s (lvc_i (rfl) rfl)))) rfl (drR_0 M left) (rfl)

set_option maxHeartbeats 4000000 in
set_option maxRecDepth 100000 in
theorem c_X5_stepOn (l : Launch) (D : va_G) (G : sG) {M : sM} {L : sL} (N : Nat) (ly cs vs : Nat → Nat) (hN : M 245 8 = (N : Int)) (hcs : ∀ i, i < N → M 246 i = (cs i : Int) ∧ cs i < 768) (hvs : ∀ i, i < N → L 248 i = lN (vs i)) (hor : ordd N vs) (hly : ∀ c, c < 12 → M 252 c = (ly c : Int) ∧ ly c < 64) (hst : ∀ j, M 250 j ≤ M 245 7) (hs7 : M 245 7 < 900000000) (hT : TInv M) : sKi l D G yX5_stepOn cX5_stepOn 8 .boolean 1 40 [.ref (G.1 (245))] M L (fun r M' L' => r = sB (fnd ly cs N) ∧ ((fnd ly cs N → soY ly cs vs N L') ∧ (¬ fnd ly cs N → soF ly cs vs N M' L') ∧ soX M L M' L' ∧ TInv M')) := by
  refine sKz_go (by decide) (Nat.le_of_ble_eq_true rfl) ?_
  intro zp ze zs zm za zb zt zc Q C hret
  refine at_eq (lv' := [(0, .ref (G.1 (245)))]) (st' := []) (M' := M) (L' := L) ?_ rfl rfl rfl rfl
  have hNr : _ ≤ M 245 8 ∧ M 245 8 ≤ _ := tv hT (k := 245) (j := 8) (lo := 0) (hi := 768) rfl
  have h7r : _ ≤ M 245 7 ∧ M 245 7 ≤ _ := tv hT (k := 245) (j := 7) (lo := 0) (hi := 1000000000) rfl
  refine at_aload_n C 0 dX5_stepOn_0 rfl ?_
  refine at_dup C dX5_stepOn_1 rfl ?_
  refine at_getf (v := .int (sI (M 245 7))) C (obj_Wal G) (ci := 5) rfl inX5 (slot := 7) (by decide) qw_189 rfl rfl dX5_stepOn_2 ?_
  have hb1 : _ ≤ M 245 7 ∧ M 245 7 ≤ _ := tv hT (k := 245) (j := 7) rfl
  refine at_iconst C dX5_stepOn_5 ?_
  refine at_iadd C dX5_stepOn_6 ?_
  refine at_putM (slot := 7) (ty := .int) C tyX5 (obj_Wal G) (ci := 5) rfl inX5 tyX5_ok nmX5 (by decide) qw_189 rfl rfl (by decide +kernel) rfl rfl (Nat.le_of_ble_eq_true rfl) rfl dX5_stepOn_7 ?_
  have hT2 : TInv (sSt M 245 7 ((M 245 7) + 1)) := tv_st hT (k := 245) (j := 7) rfl (⟨by omega, by omega⟩)
  refine at_iconst C dX5_stepOn_10 ?_
  refine at_istore_n C [(1, .int (sI (0))), (0, .ref (G.1 (245)))] dX5_stepOn_11 (by decide) rfl ?_
  refine at_iconst C dX5_stepOn_12 ?_
  refine at_istore_n C [(2, .int (sI (0))), (1, .int (sI (0))), (0, .ref (G.1 (245)))] dX5_stepOn_13 (by decide) rfl ?_
  have H14 : ∀ (fu : Nat) (n : Nat) (m : Nat) (M1 : sM) (L1 : sL), N - n < fu → (n ≤ N) → (TInv M1) → (soI M L ly cs vs N n 0 m M1 L1) → sAt zp l ze (sRm 1 40) zs zm za zb zt zc D G 8 0 0 Q 14 [(0, .ref (G.1 (245))), (1, .int (sI ((m : Int)))), (2, .int (sI ((n : Int))))] [] M1 L1 := by
    intro fu
    induction fu with
    | zero => intro n m M1 L1 hd hn hT1 hso; exact absurd hd (Nat.not_lt_zero _)
    | succ fu ih14 =>
      intro n m M1 L1 hd14 hn hT1 hso
      have hm1 := soI_m hso
      have h18 : M1 245 8 = (N : Int) := by rw [soI_5 hso, if_neg (by decide)]; exact hN
      refine at_iload_n C 2 dX5_stepOn_14 rfl ?_
      refine at_aload_n C 0 dX5_stepOn_15 rfl ?_
      refine at_getf (v := .int (sI (M1 245 8))) C (obj_Wal G) (ci := 5) rfl inX5 (slot := 8) (by decide) qw_190 rfl rfl dX5_stepOn_16 ?_
      have hb3 := tv hT1 (k := 245) (j := 8) rfl
      refine at_ve (b := (N : Int)) (h18) ?_
      refine at_icmp_ge C 182 dX5_stepOn_19 (by decide) (⟨by omega, by omega⟩) (⟨by omega, by omega⟩) (fun h4 => ?_) (fun h4 => ?_)
      · refine at_aload_n C 0 dX5_stepOn_182 rfl ?_
        refine at_getf (v := .ref (G.1 (247))) C (obj_Wal G) (ci := 5) rfl inX5 (slot := 1) (by decide) qw_183 rfl rfl dX5_stepOn_183 ?_
        refine at_iconst C dX5_stepOn_186 ?_
        refine at_aload_n C 0 dX5_stepOn_187 rfl ?_
        refine at_getf (v := .ref (G.1 (246))) C (obj_Wal G) (ci := 5) rfl inX5 (slot := 0) (by decide) qw_182 rfl rfl dX5_stepOn_188 ?_
        refine at_iconst C dX5_stepOn_191 ?_
        refine at_iload_n C 1 dX5_stepOn_192 rfl ?_
        refine at_copyI C 0 0 m qw_657 (ar_247 G) (ar_246 G) (rfl) (rfl) (rfl) (by omega) (by omega) ⟨by decide, Nat.le_of_ble_eq_true rfl⟩ dX5_stepOn_193 ?_
        have hT5 : TInv (sCpy M1 247 246 0 0 m) := tv_cpy hT1 (fun i hi => by rfl)
        refine at_aload_n C 0 dX5_stepOn_196 rfl ?_
        refine at_getf (v := .ref (G.1 (249))) C (obj_Wal G) (ci := 5) rfl inX5 (slot := 3) (by decide) qw_185 rfl rfl dX5_stepOn_197 ?_
        refine at_iconst C dX5_stepOn_200 ?_
        refine at_aload_n C 0 dX5_stepOn_201 rfl ?_
        refine at_getf (v := .ref (G.1 (248))) C (obj_Wal G) (ci := 5) rfl inX5 (slot := 2) (by decide) qw_184 rfl rfl dX5_stepOn_202 ?_
        refine at_iconst C dX5_stepOn_205 ?_
        refine at_iload_n C 1 dX5_stepOn_206 rfl ?_
        refine at_copyL C 0 0 m qw_657 (ar_249 G) (ar_248 G) (rfl) (rfl) (rfl) (by omega) (by omega) ⟨by decide, Nat.le_of_ble_eq_true rfl⟩ dX5_stepOn_207 ?_
        refine at_aload_n C 0 dX5_stepOn_210 rfl ?_
        refine at_iload_n C 1 dX5_stepOn_211 rfl ?_
        refine at_putM (slot := 8) (ty := .int) C tyX5 (obj_Wal G) (ci := 5) rfl inX5 tyX5_ok nmX5 (by decide) qw_190 rfl rfl (by decide +kernel) rfl rfl (Nat.le_of_ble_eq_true rfl) rfl dX5_stepOn_212 ?_
        have hT6 : TInv (sSt (sCpy M1 247 246 0 0 m) 245 8 (m : Int)) := tv_st hT5 (k := 245) (j := 8) rfl (⟨by omega, by omega⟩)
        refine at_iconst C dX5_stepOn_215 ?_
        exact hret _ _ _ _ _ dX5_stepOn_216 (sB_f ((soF_i (show soI M L ly cs vs N N 0 m M1 L1 from (show n = N by omega) ▸ hso)).1)) ⟨fun z => absurd z (soF_i (show soI M L ly cs vs N N 0 m M1 L1 from (show n = N by omega) ▸ hso)).1, fun _ => (soF_i (show soI M L ly cs vs N N 0 m M1 L1 from (show n = N by omega) ▸ hso)).2.1, (soF_i (show soI M L ly cs vs N N 0 m M1 L1 from (show n = N by omega) ▸ hso)).2.2, hT6⟩
      · refine at_aload_n C 0 dX5_stepOn_22 rfl ?_
        refine at_getf (v := .ref (G.1 (246))) C (obj_Wal G) (ci := 5) rfl inX5 (slot := 0) (by decide) qw_182 rfl rfl dX5_stepOn_23 ?_
        refine at_iload_n C 2 dX5_stepOn_26 rfl ?_
        refine at_iald C n (ar_246 G) (rfl) (by omega) dX5_stepOn_27 ?_
        have hb7 := tv hT1 (k := 246) (j := n) rfl
        refine at_ve (b := (((cs n) : Nat) : Int)) (by rw [soI_f hso (by decide) (by decide) (by decide)]; exact (hcs n (by omega)).1) ?_
        have hcn := hcs n (by omega)
        refine at_bipush C dX5_stepOn_28 (by decide) (by decide) ?_
        refine at_idiv C dX5_stepOn_30 (by omega) (by omega) (by omega) (by omega) ?_
        refine at_istore_n C [(3, .int (sI ((((cs n) : Nat) : Int) / 64))), (0, .ref (G.1 (245))), (1, .int (sI ((m : Int)))), (2, .int (sI ((n : Int))))] dX5_stepOn_31 (by decide) rfl ?_
        refine at_iconst C dX5_stepOn_32 ?_
        refine at_istore C [(4, .int (sI (0))), (3, .int (sI ((((cs n) : Nat) : Int) / 64))), (0, .ref (G.1 (245))), (1, .int (sI ((m : Int)))), (2, .int (sI ((n : Int))))] dX5_stepOn_33 (by decide) rfl ?_
        have H35 : ∀ (fu : Nat) (t : Nat) (m2 : Nat) (M2 : sM) (L2 : sL), 3 - t < fu → (t ≤ 3) → (TInv M2) → (soI M L ly cs vs N n t m2 M2 L2) → sAt zp l ze (sRm 1 40) zs zm za zb zt zc D G 8 0 0 Q 35 [(0, .ref (G.1 (245))), (1, .int (sI ((m2 : Int)))), (2, .int (sI ((n : Int)))), (3, .int (sI ((((cs n) : Nat) : Int) / 64))), (4, .int (sI ((t : Int))))] [] M2 L2 := by
          intro fu
          induction fu with
          | zero => intro t m2 M2 L2 hd ht hT2 hso2; exact absurd hd (Nat.not_lt_zero _)
          | succ fu ih35 =>
            intro t m2 M2 L2 hd35 ht hT2 hso2
            have hm2 := soI_m hso2
            have hcl := clp_le (cs n / 64 + t)
            have hcn := hcs n (by omega)
            have hlc := hly (clp (cs n / 64 + t)) (by omega)
            refine at_iload C 4 dX5_stepOn_35 rfl ?_
            refine at_iconst C dX5_stepOn_37 ?_
            refine at_icmp_gt C 176 dX5_stepOn_38 (by decide) (⟨by omega, by omega⟩) (⟨by omega, by omega⟩) (fun h8 => ?_) (fun h8 => ?_)
            · refine at_iinc C 2 [(2, .int (sI ((n : Int) + 1))), (0, .ref (G.1 (245))), (1, .int (sI ((m2 : Int)))), (3, .int (sI ((((cs n) : Nat) : Int) / 64))), (4, .int (sI ((t : Int))))] dX5_stepOn_176 rfl (by decide) rfl ?_
              refine at_goto C 14 dX5_stepOn_179 (by decide) ?_
              refine at_lv [1, 2, 0] rfl ?_
              exact at_eq (ih14 (n + 1) m2 M2 L2 (by omega) (by omega) (hT2) (soI_t (by rw [← (show t = 3 by omega)]; exact hso2))) (lvc_s (lvc_s (lvc_i (by omega) rfl))) rfl (rfl) (rfl)
            · refine at_iconst C dX5_stepOn_41 ?_
              refine at_bipush C dX5_stepOn_42 (by decide) (by decide) ?_
              refine at_iload_n C 3 dX5_stepOn_44 rfl ?_
              refine at_iload C 4 dX5_stepOn_45 rfl ?_
              refine at_iadd C dX5_stepOn_47 ?_
              refine at_iconst C dX5_stepOn_48 ?_
              refine at_isub C dX5_stepOn_49 ?_
              refine at_mmin C qw_654 (⟨by omega, by omega⟩) (⟨by omega, by omega⟩) ⟨by decide, Nat.le_of_ble_eq_true rfl⟩ ⟨Nat.zero_le _, Nat.zero_le _⟩ dX5_stepOn_50 ?_
              refine at_mmax C qw_655 (⟨by omega, by omega⟩) (⟨by omega, by omega⟩) ⟨by decide, Nat.le_of_ble_eq_true rfl⟩ ⟨Nat.zero_le _, Nat.zero_le _⟩ dX5_stepOn_53 ?_
              refine at_ve (b := (((clp (cs n / 64 + t)) : Nat) : Int)) (by unfold clp; omega) ?_
              refine at_istore C [(5, .int (sI ((((clp (cs n / 64 + t)) : Nat) : Int)))), (0, .ref (G.1 (245))), (1, .int (sI ((m2 : Int)))), (2, .int (sI ((n : Int)))), (3, .int (sI ((((cs n) : Nat) : Int) / 64))), (4, .int (sI ((t : Int))))] dX5_stepOn_56 (by decide) rfl ?_
              refine at_aload_n C 1 dX5_stepOn_58 rfl ?_
              refine at_getf (v := .ref (G.1 (246))) C (obj_Wal G) (ci := 5) rfl inX5 (slot := 0) (by decide) qw_182 rfl rfl dX5_stepOn_59 ?_
              refine at_iload_n C 3 dX5_stepOn_62 rfl ?_
              refine at_iald C n (ar_246 G) (rfl) (by omega) dX5_stepOn_63 ?_
              have hb9 := tv hT2 (k := 246) (j := n) rfl
              refine at_ve (b := (((cs n) : Nat) : Int)) (by rw [soI_f hso2 (by decide) (by decide) (by decide)]; exact hcn.1) ?_
              refine at_bipush C dX5_stepOn_64 (by decide) (by decide) ?_
              refine at_irem C dX5_stepOn_66 (by omega) (by omega) (by omega) (by omega) ?_
              refine at_aload_n C 1 dX5_stepOn_67 rfl ?_
              refine at_getf (v := .ref (G.1 (252))) C (obj_Wal G) (ci := 5) rfl inX5 (slot := 6) (by decide) qw_188 rfl rfl dX5_stepOn_68 ?_
              refine at_iload C 0 dX5_stepOn_71 rfl ?_
              refine at_iald C (clp (cs n / 64 + t)) (ar_252 G) (by omega) (by omega) dX5_stepOn_73 ?_
              have hb10 := tv hT2 (k := 252) (j := (clp (cs n / 64 + t))) rfl
              refine at_ve (b := (((ly (clp (cs n / 64 + t))) : Nat) : Int)) (by rw [soI_f hso2 (by decide) (by decide) (by decide)]; exact hlc.1) ?_
              refine at_iconst C dX5_stepOn_74 ?_
              refine at_ixor C (-1 - ((ly (clp (cs n / 64 + t)) : Nat) : Int)) dX5_stepOn_75 (zb_not _ hlc.2) ?_
              refine at_iand C ((((sDel (cs n % 64) (ly (clp (cs n / 64 + t)))) : Nat) : Int)) dX5_stepOn_76 (zb_del1 _ (Nat.mod_lt _ (by decide)) _ hlc.2) ?_
              refine at_ve (b := ((((stpC ly (cs n) t) % 64) : Nat) : Int)) (by rw [stpC_m]) ?_
              refine at_istore C [(6, .int (sI (((((stpC ly (cs n) t) % 64) : Nat) : Int)))), (5, .int (sI ((((clp (cs n / 64 + t)) : Nat) : Int)))), (0, .ref (G.1 (245))), (1, .int (sI ((m2 : Int)))), (2, .int (sI ((n : Int)))), (3, .int (sI ((((cs n) : Nat) : Int) / 64))), (4, .int (sI ((t : Int))))] dX5_stepOn_77 (by decide) rfl ?_
              refine at_iload C 1 dX5_stepOn_79 rfl ?_
              refine at_bipush C dX5_stepOn_81 (by decide) (by decide) ?_
              refine at_imul C dX5_stepOn_83 ?_
              refine at_iload C 0 dX5_stepOn_84 rfl ?_
              refine at_iadd C dX5_stepOn_86 ?_
              have hxl := stpC_lt ly (cs n) t
              refine at_ve (b := (((stpC ly (cs n) t) : Nat) : Int)) (by have h1 := stpC_d ly (cs n) t; have h2 := stpC_lt ly (cs n) t; omega) ?_
              refine at_istore C [(7, .int (sI ((((stpC ly (cs n) t) : Nat) : Int)))), (6, .int (sI (((((stpC ly (cs n) t) % 64) : Nat) : Int)))), (5, .int (sI ((((clp (cs n / 64 + t)) : Nat) : Int)))), (0, .ref (G.1 (245))), (1, .int (sI ((m2 : Int)))), (2, .int (sI ((n : Int)))), (3, .int (sI ((((cs n) : Nat) : Int) / 64))), (4, .int (sI ((t : Int))))] dX5_stepOn_87 (by decide) rfl ?_
              refine at_iload C 1 dX5_stepOn_89 rfl ?_
              refine at_if_ne C 114 dX5_stepOn_91 (by decide) (⟨by omega, by omega⟩) (fun h11 => ?_) (fun h11 => ?_)
              · refine at_aload_n C 3 dX5_stepOn_114 rfl ?_
                refine at_getf (v := .ref (G.1 (250))) C (obj_Wal G) (ci := 5) rfl inX5 (slot := 4) (by decide) qw_186 rfl rfl dX5_stepOn_115 ?_
                refine at_iload C 0 dX5_stepOn_118 rfl ?_
                refine at_iald C (stpC ly (cs n) t) (ar_250 G) (by omega) (by omega) dX5_stepOn_120 ?_
                have hb12 := tv hT2 (k := 250) (j := (stpC ly (cs n) t)) rfl
                refine at_aload_n C 3 dX5_stepOn_121 rfl ?_
                refine at_getf (v := .int (sI (M2 245 7))) C (obj_Wal G) (ci := 5) rfl inX5 (slot := 7) (by decide) qw_189 rfl rfl dX5_stepOn_122 ?_
                have hb13 := tv hT2 (k := 245) (j := 7) rfl
                refine at_ve (b := M 245 7 + 1) (by rw [soI_5 hso2, if_pos rfl]) ?_
                refine at_icmp_eq C 170 dX5_stepOn_125 (by decide) (⟨by omega, by omega⟩) (⟨by omega, by omega⟩) (fun h14 => ?_) (fun h14 => ?_)
                · refine at_iinc C 7 [(4, .int (sI ((t : Int) + 1))), (7, .int (sI ((((stpC ly (cs n) t) : Nat) : Int)))), (6, .int (sI (((((stpC ly (cs n) t) % 64) : Nat) : Int)))), (5, .int (sI ((((clp (cs n / 64 + t)) : Nat) : Int)))), (0, .ref (G.1 (245))), (1, .int (sI ((m2 : Int)))), (2, .int (sI ((n : Int)))), (3, .int (sI ((((cs n) : Nat) : Int) / 64)))] dX5_stepOn_170 rfl (by decide) rfl ?_
                  refine at_goto C 35 dX5_stepOn_173 (by decide) ?_
                  refine at_lv [4, 5, 6, 7, 0] rfl ?_
                  exact at_eq (ih35 (t + 1) m2 M2 L2 (by omega) (by omega) (hT2) (soI_old hso2 (by omega) (by omega) hor (by omega) (by assumption))) (lvc_s (lvc_s (lvc_s (lvc_s (lvc_i (by omega) rfl))))) rfl (rfl) (rfl)
                · refine at_aload_n C 3 dX5_stepOn_128 rfl ?_
                  refine at_getf (v := .ref (G.1 (250))) C (obj_Wal G) (ci := 5) rfl inX5 (slot := 4) (by decide) qw_186 rfl rfl dX5_stepOn_129 ?_
                  refine at_iload C 0 dX5_stepOn_132 rfl ?_
                  refine at_aload_n C 3 dX5_stepOn_134 rfl ?_
                  refine at_getf (v := .int (sI (M2 245 7))) C (obj_Wal G) (ci := 5) rfl inX5 (slot := 7) (by decide) qw_189 rfl rfl dX5_stepOn_135 ?_
                  have hb15 := tv hT2 (k := 245) (j := 7) rfl
                  refine at_ve (b := M 245 7 + 1) (by rw [soI_5 hso2, if_pos rfl]) ?_
                  refine at_iast C (stpC ly (cs n) t) (ar_250 G) (by omega) (by omega) dX5_stepOn_138 ?_
                  have hT16 : TInv (sSt M2 250 (stpC ly (cs n) t) (M 245 7 + 1)) := tv_st hT2 (k := 250) rfl (⟨by omega, by omega⟩)
                  have hml := soI_lt hso2 hxl (by assumption)
                  refine at_aload_n C 3 dX5_stepOn_139 rfl ?_
                  refine at_getf (v := .ref (G.1 (247))) C (obj_Wal G) (ci := 5) rfl inX5 (slot := 1) (by decide) qw_183 rfl rfl dX5_stepOn_140 ?_
                  refine at_iload_n C 4 dX5_stepOn_143 rfl ?_
                  refine at_iload C 0 dX5_stepOn_144 rfl ?_
                  refine at_iast C m2 (ar_247 G) (rfl) (by omega) dX5_stepOn_146 ?_
                  have hT17 : TInv (sSt (sSt M2 250 (stpC ly (cs n) t) (M 245 7 + 1)) 247 m2 (((stpC ly (cs n) t) : Nat) : Int)) := tv_st hT16 (k := 247) rfl (⟨by omega, by omega⟩)
                  refine at_aload_n C 3 dX5_stepOn_147 rfl ?_
                  refine at_getf (v := .ref (G.1 (249))) C (obj_Wal G) (ci := 5) rfl inX5 (slot := 3) (by decide) qw_185 rfl rfl dX5_stepOn_148 ?_
                  refine at_iload_n C 4 dX5_stepOn_151 rfl ?_
                  refine at_aload_n C 3 dX5_stepOn_152 rfl ?_
                  refine at_getf (v := .ref (G.1 (248))) C (obj_Wal G) (ci := 5) rfl inX5 (slot := 2) (by decide) qw_184 rfl rfl dX5_stepOn_153 ?_
                  refine at_iload_n C 5 dX5_stepOn_156 rfl ?_
                  refine at_lald C n (ar_248 G) (rfl) (by omega) dX5_stepOn_157 ?_
                  refine at_vl (y := lN (vs n)) (by rw [soI_L hso2 (by decide)]; exact hvs n (by omega)) ?_
                  refine at_ldc2 C qw_656 dX5_stepOn_158 ?_
                  refine at_lmul C dX5_stepOn_161 ?_
                  refine at_iload C 7 dX5_stepOn_162 rfl ?_
                  refine at_i2l C dX5_stepOn_164 ?_
                  refine at_vl (y := lN t) (nI_L (by omega)) ?_
                  refine at_ladd C dX5_stepOn_165 ?_
                  refine at_vl (y := lN (vs n * 3 + t)) (lN_34 _ _) ?_
                  refine at_last C m2 (ar_249 G) (rfl) (by omega) dX5_stepOn_166 ?_
                  refine at_iinc C 4 [(1, .int (sI ((m2 : Int) + 1))), (7, .int (sI ((((stpC ly (cs n) t) : Nat) : Int)))), (6, .int (sI (((((stpC ly (cs n) t) % 64) : Nat) : Int)))), (5, .int (sI ((((clp (cs n / 64 + t)) : Nat) : Int)))), (0, .ref (G.1 (245))), (2, .int (sI ((n : Int)))), (3, .int (sI ((((cs n) : Nat) : Int) / 64))), (4, .int (sI ((t : Int))))] dX5_stepOn_167 rfl (by decide) rfl ?_
                  refine at_iinc C 7 [(4, .int (sI ((t : Int) + 1))), (1, .int (sI ((m2 : Int) + 1))), (7, .int (sI ((((stpC ly (cs n) t) : Nat) : Int)))), (6, .int (sI (((((stpC ly (cs n) t) % 64) : Nat) : Int)))), (5, .int (sI ((((clp (cs n / 64 + t)) : Nat) : Int)))), (0, .ref (G.1 (245))), (2, .int (sI ((n : Int)))), (3, .int (sI ((((cs n) : Nat) : Int) / 64)))] dX5_stepOn_170 rfl (by decide) rfl ?_
                  refine at_goto C 35 dX5_stepOn_173 (by decide) ?_
                  refine at_lv [5, 1, 6, 7, 0] rfl ?_
                  exact at_eq (ih35 (t + 1) (m2 + 1) (sSt (sSt M2 250 (stpC ly (cs n) t) (M 245 7 + 1)) 247 m2 (((stpC ly (cs n) t) : Nat) : Int)) (sSl L2 249 m2 (lN (vs n * 3 + t))) (by omega) (by omega) (hT17) (soI_new hso2 (by omega) (by omega) hor (by omega) (by assumption))) (lvc_s (lvc_i (rfl) (lvc_s (lvc_s (lvc_i (by omega) rfl))))) rfl (rfl) (rfl)
              · refine at_aload_n C 3 dX5_stepOn_94 rfl ?_
                refine at_aload_n C 3 dX5_stepOn_95 rfl ?_
                refine at_getf (v := .ref (G.1 (248))) C (obj_Wal G) (ci := 5) rfl inX5 (slot := 2) (by decide) qw_184 rfl rfl dX5_stepOn_96 ?_
                refine at_iload_n C 5 dX5_stepOn_99 rfl ?_
                refine at_lald C n (ar_248 G) (rfl) (by omega) dX5_stepOn_100 ?_
                refine at_vl (y := lN (vs n)) (by rw [soI_L hso2 (by decide)]; exact hvs n (by omega)) ?_
                refine at_ldc2 C qw_656 dX5_stepOn_101 ?_
                refine at_lmul C dX5_stepOn_104 ?_
                refine at_iload C 7 dX5_stepOn_105 rfl ?_
                refine at_i2l C dX5_stepOn_107 ?_
                refine at_vl (y := lN t) (nI_L (by omega)) ?_
                refine at_ladd C dX5_stepOn_108 ?_
                refine at_vl (y := lN (vs n * 3 + t)) (lN_34 _ _) ?_
                refine at_putL (slot := 10) (ty := .long) C tyX5 (obj_Wal G) (ci := 5) rfl inX5 tyX5_ok nmX5 (by decide) qw_193 rfl rfl (by decide +kernel) rfl rfl (Nat.le_of_ble_eq_true rfl) rfl dX5_stepOn_109 ?_
                refine at_iconst C dX5_stepOn_112 ?_
                exact hret _ _ _ _ _ dX5_stepOn_113 (sB_t ((soY_i hso2 (by omega) (by omega) (by omega)).1)) ⟨fun _ => (soY_i hso2 (by omega) (by omega) (by omega)).2.1, fun z => absurd (soY_i hso2 (by omega) (by omega) (by omega)).1 z, (soY_i hso2 (by omega) (by omega) (by omega)).2.2, hT2⟩
        refine at_lv [2, 3, 4, 1, 0] rfl ?_
        exact at_eq (H35 _ 0 m M1 L1 (Nat.lt_succ_self _) (by omega) (hT1) (hso)) (lvc_s (lvc_s (lvc_s (lvc_s (lvc_i (rfl) rfl))))) rfl (rfl) (rfl)
  refine at_lv [2, 1, 0] rfl ?_
  exact at_eq (H14 _ 0 0 (sSt M 245 7 ((M 245 7) + 1)) L (Nat.lt_succ_self _) (by omega) (hT2) (soI_0 ly cs vs N hst)) (lvc_s (lvc_i (rfl) (lvc_i (rfl) rfl))) rfl (rfl) (rfl)
