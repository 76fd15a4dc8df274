set_option maxHeartbeats 4000000 in
set_option maxRecDepth 100000 in
theorem c_X2_listFree (l : Launch) (D : va_G) (G : sG) {M : sM} {L : sL} (hT : TInv M) : sKv l D G yX2_listFree cX2_listFree 3 1 22 [.ref (G.1 (253)), .ref (G.1 (1))] M L (fun M' L' => M' = mLF M (nC M 1) ∧ TInv M' ∧ L = L') := by
  refine sKv_go (by decide) (Nat.le_of_ble_eq_true rfl) ?_
  intro zp ze zs zm za zb zt zc Q C hret
  refine at_eq (lv' := [(0, .ref (G.1 (253))), (1, .ref (G.1 (1)))]) (st' := []) (M' := M) (L' := L) ?_ rfl rfl rfl rfl
  have hn := nS_r hT (Or.inl rfl)
  have hm := nC_r hT (Or.inl rfl)
  refine at_aload_n C 0 dX2_listFree_0 rfl ?_
  refine at_iconst C dX2_listFree_1 ?_
  refine at_putM (slot := 4) (ty := .int) C tyX2 (obj_Ord G) (ci := 2) rfl inX2 tyX2_ok nmX2 (by decide) qw_229 rfl rfl (by decide +kernel) rfl rfl (Nat.le_of_ble_eq_true rfl) rfl dX2_listFree_2 ?_
  have hT1 : TInv (sSt M 253 4 0) := tv_st hT (k := 253) (j := 4) rfl (⟨by omega, by omega⟩)
  refine at_iconst C dX2_listFree_5 ?_
  refine at_istore_n C [(2, .int (sI (0))), (0, .ref (G.1 (253))), (1, .ref (G.1 (1)))] dX2_listFree_6 (by decide) rfl ?_
  have H7 : ∀ (fu : Nat) (k : Nat), nC M 1 - k < fu → (k ≤ nC M 1) → (TInv (mLF M k)) → sAt zp l ze (sRm 1 22) zs zm za zb zt zc D G 3 0 0 Q 7 [(0, .ref (G.1 (253))), (1, .ref (G.1 (1))), (2, .int (sI ((k : Int))))] [] (mLF M k) L := by
    intro fu
    induction fu with
    | zero => intro k hd hk hTk; exact absurd hd (Nat.not_lt_zero _)
    | succ fu ih7 =>
      intro k hd7 hk hTk
      have hfc := frC_le (bHeld M 1) k
      refine at_iload_n C 2 dX2_listFree_7 rfl ?_
      refine at_aload_n C 1 dX2_listFree_8 rfl ?_
      refine at_getf (v := .int (sI ((mLF M k) 1 10))) C (obj_Bea G (Or.inl rfl)) (ci := 0) rfl inX0 (slot := 10) (by decide) qw_110 rfl rfl dX2_listFree_9 ?_
      have hb2 := tv_callers hTk (Or.inl rfl)
      refine at_ve (b := M 1 10) (by rw [mLF_ne (by decide)]) ?_
      refine at_icmp_ge C 50 dX2_listFree_12 (by decide) (⟨by omega, by omega⟩) (⟨by omega, by omega⟩) (fun h3 => ?_) (fun h3 => ?_)
      · exact hret _ _ _ _ dX2_listFree_50 (⟨by rw [show nC M 1 = k by omega], hTk, rfl⟩)
      · refine at_aload_n C 1 dX2_listFree_15 rfl ?_
        refine at_iload_n C 2 dX2_listFree_16 rfl ?_
        refine at_call_i C (c_X0_heldBy l D G (Or.inl rfl) hTk k (by omega)) (As := [.int (sI ((k : Int)))]) (obj_Bea G (Or.inl rfl)) (ci := 0) rfl qw_501 qw_687 qw_2 qw_499 qw_500 ⟨by decide, by decide, show (parseMethodDescriptor yX0_heldBy.desc).map (fun d => d.parameters.length) = some 1 by decide +kernel⟩ ⟨by decide, by decide⟩ ⟨Nat.zero_le _, Nat.zero_le _⟩ (Nat.le_of_ble_eq_true rfl) dX2_listFree_17 rfl (fun r M' L' hp5 => ?_)
        obtain ⟨rfl, rfl, rfl⟩ := hp5
        refine at_ve (b := bHeld (mLF M k) 1 k) rfl ?_
        have hb4 := fst_r (fun s => (mLF M k) (1 + 7) s = k) (nS (mLF M k) 1)
        refine at_ve (b := bHeld M 1 k) (mLF_h M k k) ?_
        have hhr : -1 ≤ bHeld M 1 k ∧ bHeld M 1 k < nS M 1 := fst_r _ _
        refine at_iconst C dX2_listFree_20 ?_
        refine at_icmp_ne C 44 dX2_listFree_21 (by decide) (⟨by omega, by omega⟩) (⟨by omega, by omega⟩) (fun h6 => ?_) (fun h6 => ?_)
        · refine at_iinc C 2 [(2, .int (sI ((k : Int) + 1))), (0, .ref (G.1 (253))), (1, .ref (G.1 (1)))] dX2_listFree_44 rfl (by decide) rfl ?_
          refine at_goto C 7 dX2_listFree_47 (by decide) ?_
          refine at_lv [1, 2, 0] rfl ?_
          exact at_eq (ih7 (k + 1) (by omega) (by omega) ((mLF_n (M := M) (k := k) (by omega)) ▸ hTk)) (lvc_s (lvc_s (lvc_i (by omega) rfl))) rfl (mLF_n (by omega)) (rfl)
        · refine at_aload_n C 0 dX2_listFree_24 rfl ?_
          refine at_getf (v := .ref (G.1 (254))) C (obj_Ord G) (ci := 2) rfl inX2 (slot := 0) (by decide) qw_224 rfl rfl dX2_listFree_25 ?_
          refine at_aload_n C 0 dX2_listFree_28 rfl ?_
          refine at_getf (v := .int (sI ((mLF M k) 253 4))) C (obj_Ord G) (ci := 2) rfl inX2 (slot := 4) (by decide) qw_229 rfl rfl dX2_listFree_29 ?_
          have hb7 := tv hTk (k := 253) (j := 4) rfl
          refine at_ve (b := (((frC (bHeld M 1) k) : Nat) : Int)) (mLF_4 M k) ?_
          refine at_iload_n C 2 dX2_listFree_32 rfl ?_
          refine at_iast C (frC (bHeld M 1) k) (ar_254 G) (by omega) (by omega) dX2_listFree_33 ?_
          have hT8 : TInv (sSt (mLF M k) 254 (frC (bHeld M 1) k) (k : Int)) := tv_st hTk (k := 254) rfl (⟨by omega, by omega⟩)
          refine at_aload_n C 0 dX2_listFree_34 rfl ?_
          refine at_dup C dX2_listFree_35 rfl ?_
          refine at_getf (v := .int (sI ((sSt (mLF M k) 254 (frC (bHeld M 1) k) (k : Int)) 253 4))) C (obj_Ord G) (ci := 2) rfl inX2 (slot := 4) (by decide) qw_229 rfl rfl dX2_listFree_36 ?_
          have hb9 := tv hT8 (k := 253) (j := 4) rfl
          refine at_ve (b := (((frC (bHeld M 1) k) : Nat) : Int)) (by rw [sSt_ne (by decide)]; exact mLF_4 M k) ?_
          refine at_iconst C dX2_listFree_39 ?_
          refine at_iadd C dX2_listFree_40 ?_
          refine at_putM (slot := 4) (ty := .int) C tyX2 (obj_Ord G) (ci := 2) rfl inX2 tyX2_ok nmX2 (by decide) qw_229 rfl rfl (by decide +kernel) rfl rfl (Nat.le_of_ble_eq_true rfl) rfl dX2_listFree_41 ?_
          have hT10 : TInv (sSt (sSt (mLF M k) 254 (frC (bHeld M 1) k) (k : Int)) 253 4 ((((frC (bHeld M 1) k) : Nat) : Int) + 1)) := tv_st hT8 (k := 253) (j := 4) rfl (⟨by omega, by omega⟩)
          refine at_iinc C 2 [(2, .int (sI ((k : Int) + 1))), (0, .ref (G.1 (253))), (1, .ref (G.1 (1)))] dX2_listFree_44 rfl (by decide) rfl ?_
          refine at_goto C 7 dX2_listFree_47 (by decide) ?_
          refine at_lv [1, 2, 0] rfl ?_
          exact at_eq (ih7 (k + 1) (by omega) (by omega) ((mLF_y (M := M) (k := k) (by omega)) ▸ hT10)) (lvc_s (lvc_s (lvc_i (by omega) rfl))) rfl (mLF_y (by omega)) (rfl)
  refine at_lv [1, 2, 0] rfl ?_
  exact at_eq (H7 _ 0 (Nat.lt_succ_self _) (by omega) ((mLF_0 M) ▸ hT1)) (lvc_s (lvc_s (lvc_i (rfl) rfl))) rfl (mLF_0 M) (rfl)

set_option maxHeartbeats 4000000 in
set_option maxRecDepth 100000 in
theorem c_X2_measure (l : Launch) (D : va_G) (G : sG) {M : sM} {L : sL} (n : Nat) (hnn : M 253 4 = (n : Int)) (hrn : rIn n 6 (M 254)) (hT : TInv M) : sKv l D G yX2_measure cX2_measure 4 3 68 [.ref (G.1 (253)), .ref (G.1 (1))] M L (fun M' L' => (∀ c, c ≠ 256 → M' c = (mMe M (shlB M (nS M 1)) (hpN M (shlB M (nS M 1)) n)) c) ∧ (∀ s i, s < nS M 1 → i < nC M 1 → M' 256 (i * 6 + s) = bDst M 1 s i) ∧ TInv M' ∧ L = L') := by
  refine sKv_go (by decide) (Nat.le_of_ble_eq_true rfl) ?_
  intro zp ze zs zm za zb zt zc Q C hret
  refine at_eq (lv' := [(0, .ref (G.1 (253))), (1, .ref (G.1 (1)))]) (st' := []) (M' := M) (L' := L) ?_ rfl rfl rfl rfl
  have hn := nS_r hT (Or.inl rfl)
  have hm := nC_r hT (Or.inl rfl)
  have hn6 : _ ≤ M 253 4 ∧ M 253 4 ≤ _ := tv hT (k := 253) (j := 4) (lo := 0) (hi := 6) rfl
  refine at_aload_n C 0 dX2_measure_0 rfl ?_
  refine at_iconst C dX2_measure_1 ?_
  refine at_putM (slot := 3) (ty := .int) C tyX2 (obj_Ord G) (ci := 2) rfl inX2 tyX2_ok nmX2 (by decide) qw_228 rfl rfl (by decide +kernel) rfl rfl (Nat.le_of_ble_eq_true rfl) rfl dX2_measure_2 ?_
  have hT1 : TInv (sSt M 253 3 0) := tv_st hT (k := 253) (j := 3) rfl (⟨by omega, by omega⟩)
  refine at_iconst C dX2_measure_5 ?_
  refine at_istore_n C [(2, .int (sI (0))), (0, .ref (G.1 (253))), (1, .ref (G.1 (1)))] dX2_measure_6 (by decide) rfl ?_
  have H7 : ∀ (fu : Nat) (k : Nat), nS M 1 - k < fu → (k ≤ nS M 1) → (TInv (sSt M 253 3 (shlB M k))) → sAt zp l ze (sRm 3 68) zs zm za zb zt zc D G 4 0 0 Q 7 [(0, .ref (G.1 (253))), (1, .ref (G.1 (1))), (2, .int (sI ((k : Int))))] [] (sSt M 253 3 (shlB M k)) L := by
    intro fu
    induction fu with
    | zero => intro k hd hk hTk; exact absurd hd (Nat.not_lt_zero _)
    | succ fu ih7 =>
      intro k hd7 hk hTk
      have hsl : shlB M k < 64 := bits_lt6 _ (by omega)
      refine at_iload_n C 2 dX2_measure_7 rfl ?_
      refine at_aload_n C 1 dX2_measure_8 rfl ?_
      refine at_getf (v := .int (sI ((sSt M 253 3 (shlB M k)) 1 9))) C (obj_Bea G (Or.inl rfl)) (ci := 0) rfl inX0 (slot := 9) (by decide) qw_107 rfl rfl dX2_measure_9 ?_
      have hb2 := tv_souls hTk (Or.inl rfl)
      refine at_ve (b := M 1 9) (by rw [sSt_ne (by decide)]) ?_
      refine at_icmp_ge C 41 dX2_measure_12 (by decide) (⟨by omega, by omega⟩) (⟨by omega, by omega⟩) (fun h3 => ?_) (fun h3 => ?_)
      · refine at_aload_n C 0 dX2_measure_41 rfl ?_
        refine at_iconst C dX2_measure_42 ?_
        refine at_putM (slot := 6) (ty := .int) C tyX2 (obj_Ord G) (ci := 2) rfl inX2 tyX2_ok nmX2 (by decide) qw_233 rfl rfl (by decide +kernel) rfl rfl (Nat.le_of_ble_eq_true rfl) rfl dX2_measure_43 ?_
        have hT4 : TInv (sSt (sSt M 253 3 (shlB M k)) 253 6 0) := tv_st hTk (k := 253) (j := 6) rfl (⟨by omega, by omega⟩)
        refine at_iconst C dX2_measure_46 ?_
        refine at_istore_n C [(2, .int (sI (0))), (0, .ref (G.1 (253))), (1, .ref (G.1 (1)))] dX2_measure_47 (by decide) rfl ?_
        have H48 : ∀ (fu : Nat) (q : Nat), n - q < fu → (q ≤ n) → (TInv (mMe M (shlB M (nS M 1)) (hpN M (shlB M (nS M 1)) q))) → sAt zp l ze (sRm 3 68) zs zm za zb zt zc D G 4 0 0 Q 48 [(0, .ref (G.1 (253))), (1, .ref (G.1 (1))), (2, .int (sI ((q : Int))))] [] (mMe M (shlB M (nS M 1)) (hpN M (shlB M (nS M 1)) q)) L := by
          intro fu
          induction fu with
          | zero => intro q hd hq hTq; exact absurd hd (Nat.not_lt_zero _)
          | succ fu ih48 =>
            intro q hd48 hq hTq
            have hpr : 0 ≤ hpN M (shlB M (nS M 1)) q ∧ hpN M (shlB M (nS M 1)) q ≤ q := cnt_r _ q
            have hsl2 : (shlB M (nS M 1)) < 64 := bits_lt6 _ hn.1
            refine at_iload_n C 2 dX2_measure_48 rfl ?_
            refine at_aload_n C 0 dX2_measure_49 rfl ?_
            refine at_getf (v := .int (sI ((mMe M (shlB M (nS M 1)) (hpN M (shlB M (nS M 1)) q)) 253 4))) C (obj_Ord G) (ci := 2) rfl inX2 (slot := 4) (by decide) qw_229 rfl rfl dX2_measure_50 ?_
            have hb5 := tv hTq (k := 253) (j := 4) rfl
            refine at_ve (b := (n : Int)) (by rw [mMe_4]; exact hnn) ?_
            refine at_icmp_ge C 92 dX2_measure_53 (by decide) (⟨by omega, by omega⟩) (⟨by omega, by omega⟩) (fun h6 => ?_) (fun h6 => ?_)
            · refine at_iconst C dX2_measure_92 ?_
              refine at_istore_n C [(2, .int (sI (0))), (0, .ref (G.1 (253))), (1, .ref (G.1 (1)))] dX2_measure_93 (by decide) rfl ?_
              have H94 : ∀ (fu : Nat) (s : Nat) (M1 : sM), nS M 1 - s < fu → (s ≤ nS M 1) → (TInv M1) → ((∀ c, c ≠ 256 → M1 c = (mMe M (shlB M (nS M 1)) (hpN M (shlB M (nS M 1)) n)) c)) → (∀ p i, p < s → i < nC M 1 → M1 256 (i * 6 + p) = bDst M 1 p i) → sAt zp l ze (sRm 3 68) zs zm za zb zt zc D G 4 0 0 Q 94 [(0, .ref (G.1 (253))), (1, .ref (G.1 (1))), (2, .int (sI ((s : Int))))] [] M1 L := by
                intro fu
                induction fu with
                | zero => intro s M1 hd hs hT1 hf1 hv1; exact absurd hd (Nat.not_lt_zero _)
                | succ fu ih94 =>
                  intro s M1 hd94 hs hT1 hf1 hv1
                  refine at_iload_n C 2 dX2_measure_94 rfl ?_
                  refine at_aload_n C 1 dX2_measure_95 rfl ?_
                  refine at_getf (v := .int (sI (M1 1 9))) C (obj_Bea G (Or.inl rfl)) (ci := 0) rfl inX0 (slot := 9) (by decide) qw_107 rfl rfl dX2_measure_96 ?_
                  have hb7 := tv_souls hT1 (Or.inl rfl)
                  refine at_ve (b := M 1 9) (by rw [hf1 1 (by decide), mMe_ne (by decide)]) ?_
                  refine at_icmp_ge C 141 dX2_measure_99 (by decide) (⟨by omega, by omega⟩) (⟨by omega, by omega⟩) (fun h8 => ?_) (fun h8 => ?_)
                  · exact hret _ _ _ _ dX2_measure_141 (⟨hf1, (fun p i hp hi => hv1 p i (by omega) hi), hT1, rfl⟩)
                  · refine at_iconst C dX2_measure_102 ?_
                    refine at_istore_n C [(3, .int (sI (0))), (0, .ref (G.1 (253))), (1, .ref (G.1 (1))), (2, .int (sI ((s : Int))))] dX2_measure_103 (by decide) rfl ?_
                    have H104 : ∀ (fu : Nat) (j : Nat) (M2 : sM), nC M 1 - j < fu → (j ≤ nC M 1) → (TInv M2) → ((∀ c, c ≠ 256 → M2 c = (mMe M (shlB M (nS M 1)) (hpN M (shlB M (nS M 1)) n)) c)) → (∀ p i, p < s → i < nC M 1 → M2 256 (i * 6 + p) = bDst M 1 p i) → (∀ i, i < j → M2 256 (i * 6 + s) = bDst M 1 s i) → sAt zp l ze (sRm 3 68) zs zm za zb zt zc D G 4 0 0 Q 104 [(0, .ref (G.1 (253))), (1, .ref (G.1 (1))), (2, .int (sI ((s : Int)))), (3, .int (sI ((j : Int))))] [] M2 L := by
                      intro fu
                      induction fu with
                      | zero => intro j M2 hd hj hT2 hf2 hv2 hw2; exact absurd hd (Nat.not_lt_zero _)
                      | succ fu ih104 =>
                        intro j M2 hd104 hj hT2 hf2 hv2 hw2
                        refine at_iload_n C 3 dX2_measure_104 rfl ?_
                        refine at_aload_n C 1 dX2_measure_105 rfl ?_
                        refine at_getf (v := .int (sI (M2 1 10))) C (obj_Bea G (Or.inl rfl)) (ci := 0) rfl inX0 (slot := 10) (by decide) qw_110 rfl rfl dX2_measure_106 ?_
                        have hb9 := tv_callers hT2 (Or.inl rfl)
                        refine at_ve (b := M 1 10) (by rw [hf2 1 (by decide), mMe_ne (by decide)]) ?_
                        refine at_icmp_ge C 135 dX2_measure_109 (by decide) (⟨by omega, by omega⟩) (⟨by omega, by omega⟩) (fun h10 => ?_) (fun h10 => ?_)
                        · refine at_iinc C 2 [(2, .int (sI ((s : Int) + 1))), (0, .ref (G.1 (253))), (1, .ref (G.1 (1))), (3, .int (sI ((j : Int))))] dX2_measure_135 rfl (by decide) rfl ?_
                          refine at_goto C 94 dX2_measure_138 (by decide) ?_
                          refine at_lv [1, 2, 0] rfl ?_
                          exact at_eq (ih94 (s + 1) M2 (by omega) (by omega) (hT2) (hf2) (fun p i hp hi => by
                rcases Nat.lt_succ_iff_lt_or_eq.mp hp with z | z
                · exact hv2 p i z hi
                · rw [z]; exact hw2 i (by omega))) (lvc_s (lvc_s (lvc_i (by omega) rfl))) rfl (rfl) (rfl)
                        · refine at_aload_n C 0 dX2_measure_112 rfl ?_
                          refine at_getf (v := .ref (G.1 (256))) C (obj_Ord G) (ci := 2) rfl inX2 (slot := 2) (by decide) qw_227 rfl rfl dX2_measure_113 ?_
                          refine at_iload_n C 3 dX2_measure_116 rfl ?_
                          refine at_bipush C dX2_measure_117 (by decide) (by decide) ?_
                          refine at_imul C dX2_measure_119 ?_
                          refine at_iload_n C 2 dX2_measure_120 rfl ?_
                          refine at_iadd C dX2_measure_121 ?_
                          refine at_aload_n C 1 dX2_measure_122 rfl ?_
                          refine at_iload_n C 2 dX2_measure_123 rfl ?_
                          refine at_iload_n C 3 dX2_measure_124 rfl ?_
                          refine at_call_i C (c_X0_distance l D G (Or.inl rfl) hT2 s j (by omega) (by omega)) (As := [.int (sI ((s : Int))), .int (sI ((j : Int)))]) (obj_Bea G (Or.inl rfl)) (ci := 0) rfl qw_505 qw_694 qw_2 qw_503 qw_504 ⟨by decide, by decide, show (parseMethodDescriptor yX0_distance.desc).map (fun d => d.parameters.length) = some 2 by decide +kernel⟩ ⟨by decide, by decide⟩ ⟨Nat.zero_le _, Nat.zero_le _⟩ (Nat.le_of_ble_eq_true rfl) dX2_measure_125 rfl (fun r M' L' hp12 => ?_)
                          obtain ⟨rfl, rfl, rfl⟩ := hp12
                          refine at_ve (b := bDst M2 1 s j) rfl ?_
                          have hb11 := bDst_r hT2 (Or.inl rfl) s j
                          refine at_ve (b := bDst M 1 s j) (bDst_cg (fun c h1 h2 => by rw [hf2 c (by omega), mMe_ne (by omega)])) ?_
                          have hdr := bDst_r hT (Or.inl rfl) s j
                          refine at_iast C ((j * 6) + s) (ar_256 G) (by omega) (by omega) dX2_measure_128 ?_
                          have hT13 : TInv (sSt M2 256 ((j * 6) + s) (bDst M 1 s j)) := tv_st hT2 (k := 256) rfl (⟨by omega, by omega⟩)
                          refine at_iinc C 3 [(3, .int (sI ((j : Int) + 1))), (0, .ref (G.1 (253))), (1, .ref (G.1 (1))), (2, .int (sI ((s : Int))))] dX2_measure_129 rfl (by decide) rfl ?_
                          refine at_goto C 104 dX2_measure_132 (by decide) ?_
                          refine at_lv [1, 2, 3, 0] rfl ?_
                          exact at_eq (ih104 (j + 1) (sSt M2 256 ((j * 6) + s) (bDst M 1 s j)) (by omega) (by omega) (hT13) (fun c hc => by rw [sSt_ne hc]; exact hf2 c hc) (fun p i hp hi => by rw [sSt_nj (by omega)]; exact hv2 p i hp hi) (fun i hi => by
                rcases Nat.lt_succ_iff_lt_or_eq.mp hi with z | z
                · rw [sSt_nj (by omega)]; exact hw2 i z
                · rw [z]; exact sSt_eq)) (lvc_s (lvc_s (lvc_s (lvc_i (by omega) rfl)))) rfl (rfl) (rfl)
                    refine at_lv [1, 2, 3, 0] rfl ?_
                    exact at_eq (H104 _ 0 M1 (Nat.lt_succ_self _) (by omega) (hT1) (hf1) (hv1) (fun i hi => absurd hi (Nat.not_lt_zero _))) (lvc_s (lvc_s (lvc_s (lvc_i (rfl) rfl)))) rfl (rfl) (rfl)
              refine at_lv [1, 2, 0] rfl ?_
              exact at_eq (H94 _ 0 (mMe M (shlB M (nS M 1)) (hpN M (shlB M (nS M 1)) q)) (Nat.lt_succ_self _) (by omega) (hTq) (fun c hc => by rw [show n = q by omega]) (fun p i hp => absurd hp (Nat.not_lt_zero _))) (lvc_s (lvc_s (lvc_i (rfl) rfl))) rfl (rfl) (rfl)
            · refine at_aload_n C 0 dX2_measure_56 rfl ?_
              refine at_dup C dX2_measure_57 rfl ?_
              refine at_getf (v := .int (sI ((mMe M (shlB M (nS M 1)) (hpN M (shlB M (nS M 1)) q)) 253 6))) C (obj_Ord G) (ci := 2) rfl inX2 (slot := 6) (by decide) qw_233 rfl rfl dX2_measure_58 ?_
              have hb14 := tv hTq (k := 253) (j := 6) rfl
              refine at_ve (b := hpN M (shlB M (nS M 1)) q) (mMe_6 _ _ _) ?_
              refine at_aload_n C 0 dX2_measure_61 rfl ?_
              refine at_getf (v := .int (sI ((mMe M (shlB M (nS M 1)) (hpN M (shlB M (nS M 1)) q)) 253 3))) C (obj_Ord G) (ci := 2) rfl inX2 (slot := 3) (by decide) qw_228 rfl rfl dX2_measure_62 ?_
              have hb15 := tv hTq (k := 253) (j := 3) rfl
              refine at_ve (b := (((shlB M (nS M 1)) : Nat) : Int)) (mMe_3 _ _ _) ?_
              refine at_aload_n C 0 dX2_measure_65 rfl ?_
              refine at_getf (v := .ref (G.1 (254))) C (obj_Ord G) (ci := 2) rfl inX2 (slot := 0) (by decide) qw_224 rfl rfl dX2_measure_66 ?_
              refine at_iload_n C 2 dX2_measure_69 rfl ?_
              refine at_iald C q (ar_254 G) (rfl) (by omega) dX2_measure_70 ?_
              have hb16 := tv hTq (k := 254) (j := q) rfl
              refine at_ve (b := (((M 254 q).toNat : Nat) : Int)) (by rw [mMe_ne (by decide)]; have := hrn q (by omega); omega) ?_
              have hrq := hrn q (by omega)
              refine at_nest_i C (c_X6_contains l D G (shlB M (nS M 1)) ((M 254 q).toNat) (by omega) (by omega)) (As := [.int (sI ((((shlB M (nS M 1)) : Nat) : Int))), .int (sI ((((M 254 q).toNat : Nat) : Int)))]) qw_644 (host := RX6) (List.mem_of_getElem? (i := 9) rfl) qw_1 qw_643 ⟨by decide, by decide, show (parseMethodDescriptor yX6_contains.desc).map (fun d => d.parameters.length) = some 2 by decide +kernel⟩ ⟨by decide, by decide⟩ ⟨Nat.zero_le _, Nat.zero_le _⟩ (Nat.le_of_ble_eq_true rfl) dX2_measure_71 rfl (fun r M' L' hp17 => ?_)
              obtain ⟨rfl, rfl, rfl⟩ := hp17
              refine at_if_eqB C 81 dX2_measure_74 (by decide) (fun h18 => ?_) (fun h18 => ?_)
              · refine at_iconst C dX2_measure_81 ?_
                refine at_iadd C dX2_measure_82 ?_
                refine at_putM (slot := 6) (ty := .int) C tyX2 (obj_Ord G) (ci := 2) rfl inX2 tyX2_ok nmX2 (by decide) qw_233 rfl rfl (by decide +kernel) rfl rfl (Nat.le_of_ble_eq_true rfl) rfl dX2_measure_83 ?_
                have hT19 : TInv (sSt (mMe M (shlB M (nS M 1)) (hpN M (shlB M (nS M 1)) q)) 253 6 ((hpN M (shlB M (nS M 1)) q) + 0)) := tv_st hTq (k := 253) (j := 6) rfl (⟨by omega, by omega⟩)
                refine at_iinc C 2 [(2, .int (sI ((q : Int) + 1))), (0, .ref (G.1 (253))), (1, .ref (G.1 (1)))] dX2_measure_86 rfl (by decide) rfl ?_
                refine at_goto C 48 dX2_measure_89 (by decide) ?_
                refine at_lv [1, 2, 0] rfl ?_
                exact at_eq (ih48 (q + 1) (by omega) (by omega) (by have e : (sSt (mMe M (shlB M (nS M 1)) (hpN M (shlB M (nS M 1)) q)) 253 6 ((hpN M (shlB M (nS M 1)) q) + 0)) = mMe M (shlB M (nS M 1)) (hpN M (shlB M (nS M 1)) (q + 1)) := (mMe_s _ _ _ _).trans (by show mMe M _ _ = mMe M _ (cnt _ (q + 1)); rw [cnt_n (by assumption), Int.add_zero]; rfl); exact e ▸ hT19)) (lvc_s (lvc_s (lvc_i (by omega) rfl))) rfl ((mMe_s _ _ _ _).trans (by show mMe M _ _ = mMe M _ (cnt _ (q + 1)); rw [cnt_n (by assumption), Int.add_zero]; rfl)) (rfl)
              · refine at_iconst C dX2_measure_77 ?_
                refine at_goto C 82 dX2_measure_78 (by decide) ?_
                refine at_iadd C dX2_measure_82 ?_
                refine at_putM (slot := 6) (ty := .int) C tyX2 (obj_Ord G) (ci := 2) rfl inX2 tyX2_ok nmX2 (by decide) qw_233 rfl rfl (by decide +kernel) rfl rfl (Nat.le_of_ble_eq_true rfl) rfl dX2_measure_83 ?_
                have hT20 : TInv (sSt (mMe M (shlB M (nS M 1)) (hpN M (shlB M (nS M 1)) q)) 253 6 ((hpN M (shlB M (nS M 1)) q) + 1)) := tv_st hTq (k := 253) (j := 6) rfl (⟨by omega, by omega⟩)
                refine at_iinc C 2 [(2, .int (sI ((q : Int) + 1))), (0, .ref (G.1 (253))), (1, .ref (G.1 (1)))] dX2_measure_86 rfl (by decide) rfl ?_
                refine at_goto C 48 dX2_measure_89 (by decide) ?_
                refine at_lv [1, 2, 0] rfl ?_
                exact at_eq (ih48 (q + 1) (by omega) (by omega) (by have e : (sSt (mMe M (shlB M (nS M 1)) (hpN M (shlB M (nS M 1)) q)) 253 6 ((hpN M (shlB M (nS M 1)) q) + 1)) = mMe M (shlB M (nS M 1)) (hpN M (shlB M (nS M 1)) (q + 1)) := (mMe_s _ _ _ _).trans (by show mMe M _ _ = mMe M _ (cnt _ (q + 1)); rw [cnt_y (by assumption)]; rfl); exact e ▸ hT20)) (lvc_s (lvc_s (lvc_i (by omega) rfl))) rfl ((mMe_s _ _ _ _).trans (by show mMe M _ _ = mMe M _ (cnt _ (q + 1)); rw [cnt_y (by assumption)]; rfl)) (rfl)
        refine at_lv [1, 2, 0] rfl ?_
        exact at_eq (H48 _ 0 (Nat.lt_succ_self _) (by omega) (by rw [show nS M 1 = k by omega]; exact hT4)) (lvc_s (lvc_s (lvc_i (rfl) rfl))) rfl (by rw [show nS M 1 = k by omega]; rfl) (rfl)
      · refine at_aload_n C 1 dX2_measure_15 rfl ?_
        refine at_iload_n C 2 dX2_measure_16 rfl ?_
        refine at_call_i C (c_X0_shelved l D G (Or.inl rfl) hTk k (by omega)) (As := [.int (sI ((k : Int)))]) (obj_Bea G (Or.inl rfl)) (ci := 0) rfl qw_489 qw_692 qw_2 qw_487 qw_488 ⟨by decide, by decide, show (parseMethodDescriptor yX0_shelved.desc).map (fun d => d.parameters.length) = some 1 by decide +kernel⟩ ⟨by decide, by decide⟩ ⟨Nat.zero_le _, Nat.zero_le _⟩ (Nat.le_of_ble_eq_true rfl) dX2_measure_17 rfl (fun r M' L' hp21 => ?_)
        obtain ⟨rfl, rfl, rfl⟩ := hp21
        refine at_vi (y := sB (shv (sSt M 253 3 (shlB M k)) 1 k)) rfl ?_
        refine at_vi (y := (sB (shv M 1 k))) (rfl) ?_
        refine at_if_eqB C 35 dX2_measure_20 (by decide) (fun h22 => ?_) (fun h22 => ?_)
        · refine at_iinc C 2 [(2, .int (sI ((k : Int) + 1))), (0, .ref (G.1 (253))), (1, .ref (G.1 (1)))] dX2_measure_35 rfl (by decide) rfl ?_
          refine at_goto C 7 dX2_measure_38 (by decide) ?_
          refine at_lv [1, 2, 0] rfl ?_
          exact at_eq (ih7 (k + 1) (by omega) (by omega) (by have e : sSt M 253 3 (shlB M k) = sSt M 253 3 (shlB M (k + 1)) := (by rw [shlB_n (by assumption)]); exact e ▸ hTk)) (lvc_s (lvc_s (lvc_i (by omega) rfl))) rfl (by rw [shlB_n (by assumption)]) (rfl)
        · refine at_aload_n C 0 dX2_measure_23 rfl ?_
          refine at_dup C dX2_measure_24 rfl ?_
          refine at_getf (v := .int (sI ((sSt M 253 3 (shlB M k)) 253 3))) C (obj_Ord G) (ci := 2) rfl inX2 (slot := 3) (by decide) qw_228 rfl rfl dX2_measure_25 ?_
          have hb23 := tv hTk (k := 253) (j := 3) rfl
          refine at_ve (b := (((shlB M k) : Nat) : Int)) (sSt_eq) ?_
          refine at_iconst C dX2_measure_28 ?_
          refine at_iload_n C 2 dX2_measure_29 rfl ?_
          refine at_ishl C ((((2 ^ k) : Nat) : Int)) dX2_measure_30 (zb_shl (by omega)) ?_
          refine at_ior C ((((shlB M k ||| 2 ^ k) : Nat) : Int)) dX2_measure_31 (zb_or _ _) ?_
          refine at_putM (slot := 3) (ty := .int) C tyX2 (obj_Ord G) (ci := 2) rfl inX2 tyX2_ok nmX2 (by decide) qw_228 rfl rfl (by decide +kernel) rfl rfl (Nat.le_of_ble_eq_true rfl) rfl dX2_measure_32 ?_
          have hT24 : TInv (sSt (sSt M 253 3 (shlB M k)) 253 3 (((shlB M k ||| 2 ^ k) : Nat) : Int)) := tv_st hTk (k := 253) (j := 3) rfl (⟨by omega, by have : shlB M k ||| 2 ^ k < 2 ^ 6 := Nat.or_lt_two_pow hsl (Nat.pow_lt_pow_right (by decide) (by omega)); omega⟩)
          refine at_iinc C 2 [(2, .int (sI ((k : Int) + 1))), (0, .ref (G.1 (253))), (1, .ref (G.1 (1)))] dX2_measure_35 rfl (by decide) rfl ?_
          refine at_goto C 7 dX2_measure_38 (by decide) ?_
          refine at_lv [1, 2, 0] rfl ?_
          exact at_eq (ih7 (k + 1) (by omega) (by omega) (by have e : sSt (sSt M 253 3 (shlB M k)) 253 3 ((shlB M k ||| 2 ^ k : Nat) : Int) = sSt M 253 3 (shlB M (k + 1)) := (by rw [sSt_tw]; rw [shlB_y (by assumption)]); exact e ▸ hT24)) (lvc_s (lvc_s (lvc_i (by omega) rfl))) rfl (by rw [sSt_tw]; rw [shlB_y (by assumption)]) (rfl)
  refine at_lv [1, 2, 0] rfl ?_
  exact at_eq (H7 _ 0 (Nat.lt_succ_self _) (by omega) (hT1)) (lvc_s (lvc_s (lvc_i (rfl) rfl))) rfl (rfl) (rfl)
