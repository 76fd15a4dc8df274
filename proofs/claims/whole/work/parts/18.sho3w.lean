theorem seen_0 {M : sM} {q : Nat} (hT : TInv M) (h : (seenB M).testBit q = true) : 0 ≤ M 7 q := by
  unfold seenB at h
  rw [bits_t] at h
  have h2 := (of_decide_eq_true h).2.1
  have h3 : -1 ≤ M 7 q ∧ M 7 q ≤ 11 := tv_cell hT (Or.inl rfl) q
  have h4 : M 7 q ≠ -1 := h2
  omega
theorem bsF_n {f : Nat → Int} {n : Nat} (h : f n ≥ bsF f n) : bsF f (n + 1) = bsF f n := if_neg (Int.not_lt.mpr h)
theorem bsB_n {f : Nat → Int} {n : Nat} (h : f n ≥ bsF f n) : bsB f (n + 1) = bsB f n := if_neg (Int.not_lt.mpr h)
theorem bsA_y {m : Nat} {f : Nat → Int} {n : Nat} (h : m = 0) : bsA m f n = -1 := if_pos h
theorem bsA_n {m : Nat} {f : Nat → Int} {n : Nat} (h : m ≠ 0) : bsA m f n = bsB f n := if_neg h
theorem tvc_row {M : sM} {a : Nat} (hT : TInv M) (h : ∀ j, -1 ≤ M a j ∧ M a j ≤ 100) : TInv (sCpy M a 257 0 0 6) := by
  refine tv_row hT (fun j => ?_)
  show -1 ≤ (if 0 ≤ j ∧ j < 0 + 6 then M a (0 + (j - 0)) else M 257 j) ∧ (if 0 ≤ j ∧ j < 0 + 6 then M a (0 + (j - 0)) else M 257 j) ≤ 100
  split
  · exact h _
  · exact tv hT (k := 257) (j := j) (lo := -1) (hi := 100) rfl
theorem tvc_7 {M : sM} (hT : TInv M) : TInv (sCpy M 7 257 0 0 6) := tvc_row hT (fun j => by have : -1 ≤ M 7 j ∧ M 7 j ≤ 11 := tv_cell hT (Or.inl rfl) j; omega)
theorem tvc_8 {M : sM} (hT : TInv M) : TInv (sCpy M 8 257 0 0 6) := tvc_row hT (fun j => by have : -1 ≤ M 8 j ∧ M 8 j ≤ 5 := tv_hold hT (Or.inl rfl) j; omega)
set_option maxHeartbeats 4000000 in
set_option maxRecDepth 100000 in
theorem c_X6_look (l : Launch) (D : va_G) (G : sG) {M : sM} {L : sL} (s : Int) (hsr : InR s) (hT : TInv M) (hc : sCt M) : sKi l D G yX6_look cX6_look 7 .int 3 71 [.ref (G.1 (0)), .int (sI (s))] M L (fun r M' L' => r = sI (rLook M s) ∧ (∀ c, c ≠ 257 → M' c = (if isSou M s then M else sBad M) c) ∧ TInv M' ∧ L = L') := by
  refine sKi_go (by decide) (Nat.le_of_ble_eq_true rfl) ?_
  intro zp ze zs zm za zb zt zc Q C hret
  refine at_eq (lv' := [(0, .ref (G.1 (0))), (1, .int (sI (s)))]) (st' := []) (M' := M) (L' := L) ?_ rfl rfl rfl rfl
  refine at_aload_n C 0 dX6_look_0 rfl ?_
  refine at_getf (v := .ref (G.1 (1))) C (obj_Sho G) (ci := 6) rfl inX6 (slot := 0) (by decide) qw_249 rfl rfl dX6_look_1 ?_
  refine at_iload_n C 1 dX6_look_4 rfl ?_
  refine at_call_i C (c_X0_hasSoul l D G (Or.inl rfl) hT s ⟨by omega, by omega⟩) (As := [.int (sI (s))]) (obj_Bea G (Or.inl rfl)) (ci := 0) rfl qw_602 qw_599 qw_2 qw_600 qw_601 ⟨by decide, by decide, show (parseMethodDescriptor yX0_hasSoul.desc).map (fun d => d.parameters.length) = some 1 by decide +kernel⟩ ⟨by decide, by decide⟩ ⟨Nat.zero_le _, Nat.zero_le _⟩ (Nat.le_of_ble_eq_true rfl) dX6_look_5 rfl (fun r M' L' hp1 => ?_)
  obtain ⟨rfl, rfl, rfl⟩ := hp1
  refine at_vi (y := sB (0 ≤ s ∧ s < M 1 9)) rfl ?_
  refine at_if_neB C 18 dX6_look_8 (by decide) (fun h2 => ?_) (fun h2 => ?_)
  · obtain ⟨n, rfl⟩ : ∃ n : Nat, s = (n : Int) := ⟨s.toNat, by omega⟩
    have hcc := tv_callers hT (Or.inl rfl)
    have hss := tv_souls hT (Or.inl rfl)
    refine at_aload_n C 0 dX6_look_18 rfl ?_
    refine at_iload_n C 1 dX6_look_19 rfl ?_
    refine at_call_i C (c_X6_soulKinds l D G n (by omega) hT) (As := [.int (sI ((n : Int)))]) (obj_Sho G) (ci := 6) rfl qw_773 qw_770 qw_1 qw_772 qp_28 ⟨by decide, by decide, show (parseMethodDescriptor yX6_soulKinds.desc).map (fun d => d.parameters.length) = some 1 by decide +kernel⟩ ⟨by decide, by decide⟩ ⟨Nat.zero_le _, Nat.zero_le _⟩ (Nat.le_of_ble_eq_true rfl) dX6_look_20 rfl (fun r M' L' hp4 => ?_)
    obtain ⟨rfl, rfl, rfl⟩ := hp4
    have hb3 : kdsB M n < 64 := bits_lt6 _ (by decide)
    refine at_istore_n C [(2, .int (sI ((((kdsB M n) : Nat) : Int)))), (0, .ref (G.1 (0))), (1, .int (sI ((n : Int))))] dX6_look_23 (by decide) rfl ?_
    refine at_bipush C dX6_look_24 (by decide) (by decide) ?_
    refine at_istore_n C [(3, .int (sI (7))), (2, .int (sI ((((kdsB M n) : Nat) : Int)))), (0, .ref (G.1 (0))), (1, .int (sI ((n : Int))))] dX6_look_26 (by decide) rfl ?_
    refine at_iconst C dX6_look_27 ?_
    refine at_istore C [(4, .int (sI (-1))), (3, .int (sI (7))), (2, .int (sI ((((kdsB M n) : Nat) : Int)))), (0, .ref (G.1 (0))), (1, .int (sI ((n : Int))))] dX6_look_28 (by decide) rfl ?_
    refine at_iconst C dX6_look_30 ?_
    refine at_istore C [(5, .int (sI (0))), (4, .int (sI (-1))), (3, .int (sI (7))), (2, .int (sI ((((kdsB M n) : Nat) : Int)))), (0, .ref (G.1 (0))), (1, .int (sI ((n : Int))))] dX6_look_31 (by decide) rfl ?_
    have H33 : ∀ (fu : Nat) (t : Nat) (M1 : sM), 10 - t < fu → (t ≤ 10) → (TInv M1) → ((∀ c, c ≠ 257 → M1 c = M c)) → ((kdsB M n) = 0 → t = 0) → sAt zp l ze (sRm 3 71) zs zm za zb zt zc D G 7 0 0 Q 33 [(0, .ref (G.1 (0))), (1, .int (sI ((n : Int)))), (2, .int (sI ((((kdsB M n) : Nat) : Int)))), (3, .int (sI (bsF (fun t => mal (kdsB M n) (fun k => wgh k (M 4 n) t)) t))), (4, .int (sI (bsB (fun t => mal (kdsB M n) (fun k => wgh k (M 4 n) t)) t))), (5, .int (sI ((t : Int))))] [] M1 L := by
      intro fu
      induction fu with
      | zero => intro t M1 hd ht hT1 hf1 hz1; exact absurd hd (Nat.not_lt_zero _)
      | succ fu ih33 =>
        intro t M1 hd33 ht hT1 hf1 hz1
        have hbr := bsF_r (f := (fun t => mal (kdsB M n) (fun k => wgh k (M 4 n) t))) (fun q => (malN_r _ _ 6).1) t
        refine at_iload C 5 dX6_look_33 rfl ?_
        refine at_bipush C dX6_look_35 (by decide) (by decide) ?_
        refine at_icmp_gt C 112 dX6_look_37 (by decide) (⟨by omega, by omega⟩) (⟨by omega, by omega⟩) (fun h5 => ?_) (fun h5 => ?_)
        · refine at_iload C 4 dX6_look_112 rfl ?_
          exact hret _ _ _ _ _ dX6_look_114 (⟨congrArg sI ((if_pos (by omega)).trans (show bsA (kdsB M n) (fun t => mal (kdsB M n) (fun k => wgh k (M 4 n) t)) 10 = _ from by rw [bsA_n (by omega), show t = 10 by omega])).symm, (fun c hc => by rw [if_pos (by omega)]; exact hf1 c hc), hT1, rfl⟩)
        · refine at_iload_n C 2 dX6_look_40 rfl ?_
          refine at_if_eq C 112 dX6_look_41 (by decide) (⟨by omega, by omega⟩) (fun h6 => ?_) (fun h6 => ?_)
          · refine at_iload C 4 dX6_look_112 rfl ?_
            exact hret _ _ _ _ _ dX6_look_114 (⟨congrArg sI ((if_pos (by omega)).trans (show bsA (kdsB M n) (fun t => mal (kdsB M n) (fun k => wgh k (M 4 n) t)) 10 = _ from by rw [bsA_y (by omega), hz1 (by omega)]; rfl)).symm, (fun c hc => by rw [if_pos (by omega)]; exact hf1 c hc), hT1, rfl⟩)
          · refine at_iconst C dX6_look_44 ?_
            refine at_istore C [(6, .int (sI (0))), (0, .ref (G.1 (0))), (1, .int (sI ((n : Int)))), (2, .int (sI ((((kdsB M n) : Nat) : Int)))), (3, .int (sI (bsF (fun t => mal (kdsB M n) (fun k => wgh k (M 4 n) t)) t))), (4, .int (sI (bsB (fun t => mal (kdsB M n) (fun k => wgh k (M 4 n) t)) t))), (5, .int (sI ((t : Int))))] dX6_look_45 (by decide) rfl ?_
            have H47 : ∀ (fu : Nat) (i : Nat) (M2 : sM), 6 - i < fu → (i ≤ 6) → (TInv M2) → ((∀ c, c ≠ 257 → M2 c = M c)) → (∀ q, q < i → M2 257 q = wgh (q : Int) (M 4 n) t) → sAt zp l ze (sRm 3 71) zs zm za zb zt zc D G 7 0 0 Q 47 [(0, .ref (G.1 (0))), (1, .int (sI ((n : Int)))), (2, .int (sI ((((kdsB M n) : Nat) : Int)))), (3, .int (sI (bsF (fun t => mal (kdsB M n) (fun k => wgh k (M 4 n) t)) t))), (4, .int (sI (bsB (fun t => mal (kdsB M n) (fun k => wgh k (M 4 n) t)) t))), (5, .int (sI ((t : Int)))), (6, .int (sI ((i : Int))))] [] M2 L := by
              intro fu
              induction fu with
              | zero => intro i M2 hd hi hT2 hf2 hv2; exact absurd hd (Nat.not_lt_zero _)
              | succ fu ih47 =>
                intro i M2 hd47 hi hT2 hf2 hv2
                refine at_iload C 6 dX6_look_47 rfl ?_
                refine at_bipush C dX6_look_49 (by decide) (by decide) ?_
                refine at_icmp_ge C 83 dX6_look_51 (by decide) (⟨by omega, by omega⟩) (⟨by omega, by omega⟩) (fun h7 => ?_) (fun h7 => ?_)
                · refine at_iload_n C 2 dX6_look_83 rfl ?_
                  refine at_aload_n C 0 dX6_look_84 rfl ?_
                  refine at_getf (v := .ref (G.1 (257))) C (obj_Sho G) (ci := 6) rfl inX6 (slot := 7) (by decide) qw_256 rfl rfl dX6_look_85 ?_
                  refine at_stat_i C (c_X6_mostAlike l D G (kdsB M n) (by omega) hT2) (As := [.int (sI ((((kdsB M n) : Nat) : Int))), .ref (G.1 (257))]) qw_750 qw_748 qw_1 qw_749 ⟨by decide, by decide, show (parseMethodDescriptor yX6_mostAlike.desc).map (fun d => d.parameters.length) = some 2 by decide +kernel⟩ ⟨by decide, by decide⟩ ⟨Nat.zero_le _, Nat.zero_le _⟩ (Nat.le_of_ble_eq_true rfl) dX6_look_88 rfl (fun r M' L' hp8 => ?_)
                  obtain ⟨rfl, rfl, rfl⟩ := hp8
                  have hmal : _ ∧ _ := malN_r (kdsB M n) (M2 257) 6
                  refine at_ve (b := mal (kdsB M n) (fun k => wgh k (M 4 n) t)) (mal_c (fun q hq _ => hv2 q (by omega))) ?_
                  have hmr := malN_r (kdsB M n) (fun k => wgh k (M 4 n) t) 6
                  have hmr2 : 0 ≤ mal (kdsB M n) (fun k => wgh k (M 4 n) t) ∧ mal (kdsB M n) (fun k => wgh k (M 4 n) t) ≤ 6 := hmr
                  refine at_istore C [(6, .int (sI (mal (kdsB M n) (fun k => wgh k (M 4 n) t)))), (0, .ref (G.1 (0))), (1, .int (sI ((n : Int)))), (2, .int (sI ((((kdsB M n) : Nat) : Int)))), (3, .int (sI (bsF (fun t => mal (kdsB M n) (fun k => wgh k (M 4 n) t)) t))), (4, .int (sI (bsB (fun t => mal (kdsB M n) (fun k => wgh k (M 4 n) t)) t))), (5, .int (sI ((t : Int))))] dX6_look_91 (by decide) rfl ?_
                  refine at_iload C 0 dX6_look_93 rfl ?_
                  refine at_iload_n C 4 dX6_look_95 rfl ?_
                  refine at_icmp_ge C 106 dX6_look_96 (by decide) (⟨by omega, by omega⟩) (⟨by omega, by omega⟩) (fun h9 => ?_) (fun h9 => ?_)
                  · refine at_iinc C 6 [(5, .int (sI ((t : Int) + 1))), (6, .int (sI (mal (kdsB M n) (fun k => wgh k (M 4 n) t)))), (0, .ref (G.1 (0))), (1, .int (sI ((n : Int)))), (2, .int (sI ((((kdsB M n) : Nat) : Int)))), (3, .int (sI (bsF (fun t => mal (kdsB M n) (fun k => wgh k (M 4 n) t)) t))), (4, .int (sI (bsB (fun t => mal (kdsB M n) (fun k => wgh k (M 4 n) t)) t)))] dX6_look_106 rfl (by decide) rfl ?_
                    refine at_goto C 33 dX6_look_109 (by decide) ?_
                    refine at_lv [2, 3, 4, 5, 6, 0] rfl ?_
                    exact at_eq (ih33 (t + 1) M2 (by omega) (by omega) (hT2) (hf2) (fun z => by omega)) (lvc_s (lvc_s (lvc_s (lvc_i ((bsF_n (by assumption)).symm) (lvc_i ((bsB_n (by assumption)).symm) (lvc_i (by omega) rfl)))))) rfl (rfl) (rfl)
                  · refine at_iload C 0 dX6_look_99 rfl ?_
                    refine at_istore_n C [(3, .int (sI (mal (kdsB M n) (fun k => wgh k (M 4 n) t)))), (6, .int (sI (mal (kdsB M n) (fun k => wgh k (M 4 n) t)))), (0, .ref (G.1 (0))), (1, .int (sI ((n : Int)))), (2, .int (sI ((((kdsB M n) : Nat) : Int)))), (4, .int (sI (bsB (fun t => mal (kdsB M n) (fun k => wgh k (M 4 n) t)) t))), (5, .int (sI ((t : Int))))] dX6_look_101 (by decide) rfl ?_
                    refine at_iload C 6 dX6_look_102 rfl ?_
                    refine at_istore C [(4, .int (sI ((t : Int)))), (3, .int (sI (mal (kdsB M n) (fun k => wgh k (M 4 n) t)))), (6, .int (sI (mal (kdsB M n) (fun k => wgh k (M 4 n) t)))), (0, .ref (G.1 (0))), (1, .int (sI ((n : Int)))), (2, .int (sI ((((kdsB M n) : Nat) : Int)))), (5, .int (sI ((t : Int))))] dX6_look_104 (by decide) rfl ?_
                    refine at_iinc C 6 [(5, .int (sI ((t : Int) + 1))), (4, .int (sI ((t : Int)))), (3, .int (sI (mal (kdsB M n) (fun k => wgh k (M 4 n) t)))), (6, .int (sI (mal (kdsB M n) (fun k => wgh k (M 4 n) t)))), (0, .ref (G.1 (0))), (1, .int (sI ((n : Int)))), (2, .int (sI ((((kdsB M n) : Nat) : Int))))] dX6_look_106 rfl (by decide) rfl ?_
                    refine at_goto C 33 dX6_look_109 (by decide) ?_
                    refine at_lv [4, 5, 6, 2, 1, 0] rfl ?_
                    exact at_eq (ih33 (t + 1) M2 (by omega) (by omega) (hT2) (hf2) (fun z => by omega)) (lvc_s (lvc_s (lvc_s (lvc_i ((if_pos (by assumption)).symm) (lvc_i ((if_pos (by assumption)).symm) (lvc_i (by omega) rfl)))))) rfl (rfl) (rfl)
                · refine at_aload_n C 0 dX6_look_54 rfl ?_
                  refine at_getf (v := .ref (G.1 (257))) C (obj_Sho G) (ci := 6) rfl inX6 (slot := 7) (by decide) qw_256 rfl rfl dX6_look_55 ?_
                  refine at_iload C 6 dX6_look_58 rfl ?_
                  refine at_iload C 6 dX6_look_60 rfl ?_
                  refine at_aload_n C 0 dX6_look_62 rfl ?_
                  refine at_getf (v := .ref (G.1 (1))) C (obj_Sho G) (ci := 6) rfl inX6 (slot := 0) (by decide) qw_249 rfl rfl dX6_look_63 ?_
                  refine at_getf (v := .ref (G.1 (4))) C (obj_Bea G (Or.inl rfl)) (ci := 0) rfl inX0 (slot := 2) (by decide) qw_90 rfl rfl dX6_look_66 ?_
                  refine at_iload_n C 1 dX6_look_69 rfl ?_
                  refine at_iald C n (arI_wt G (Or.inl rfl)) (rfl) (by omega) dX6_look_70 ?_
                  have hb10 := tv_wt hT2 (Or.inl rfl) n
                  refine at_ve (b := M 4 n) (by rw [hf2 4 (by decide)]) ?_
                  have hwt : _ ≤ M 4 n ∧ M 4 n ≤ _ := tv_wt hT (Or.inl rfl) n
                  refine at_iload C 5 dX6_look_71 rfl ?_
                  refine at_stat_i C (c_X6_weighed2 l D G (i : Int) (M 4 n) (t : Int) ⟨by omega, by omega⟩ ⟨by omega, by omega⟩ ⟨by omega, by omega⟩) (As := [.int (sI ((i : Int))), .int (sI (M 4 n)), .int (sI ((t : Int)))]) qw_512 qw_777 qw_1 qw_511 ⟨by decide, by decide, show (parseMethodDescriptor yX6_weighed.desc).map (fun d => d.parameters.length) = some 3 by decide +kernel⟩ ⟨by decide, by decide⟩ ⟨Nat.zero_le _, Nat.zero_le _⟩ (Nat.le_of_ble_eq_true rfl) dX6_look_73 rfl (fun r M' L' hp12 => ?_)
                  obtain ⟨rfl, rfl, rfl⟩ := hp12
                  have hb11 := wgh_b (k := (i : Int)) (w := M 4 n) (d := (t : Int)) (by omega) (by omega)
                  refine at_iast C i (ar_257 G) (rfl) (by omega) dX6_look_76 ?_
                  have hT13 : TInv (sSt M2 257 i (wgh (i : Int) (M 4 n) (t : Int))) := tv_st hT2 (k := 257) rfl (⟨by omega, by omega⟩)
                  refine at_iinc C 6 [(6, .int (sI ((i : Int) + 1))), (0, .ref (G.1 (0))), (1, .int (sI ((n : Int)))), (2, .int (sI ((((kdsB M n) : Nat) : Int)))), (3, .int (sI (bsF (fun t => mal (kdsB M n) (fun k => wgh k (M 4 n) t)) t))), (4, .int (sI (bsB (fun t => mal (kdsB M n) (fun k => wgh k (M 4 n) t)) t))), (5, .int (sI ((t : Int))))] dX6_look_77 rfl (by decide) rfl ?_
                  refine at_goto C 47 dX6_look_80 (by decide) ?_
                  refine at_lv [1, 2, 3, 4, 5, 6, 0] rfl ?_
                  exact at_eq (ih47 (i + 1) (sSt M2 257 i (wgh (i : Int) (M 4 n) (t : Int))) (by omega) (by omega) (hT13) (fun c hc => by rw [sSt_ne hc]; exact hf2 c hc) (fun q hq => by
                    rcases Nat.lt_succ_iff_lt_or_eq.mp hq with z | z
                    · rw [sSt_nj (by omega)]; exact hv2 q z
                    · rw [z]; exact sSt_eq)) (lvc_s (lvc_s (lvc_s (lvc_s (lvc_s (lvc_s (lvc_i (by omega) rfl))))))) rfl (rfl) (rfl)
            refine at_lv [1, 2, 3, 4, 5, 6, 0] rfl ?_
            exact at_eq (H47 _ 0 M1 (Nat.lt_succ_self _) (by omega) (hT1) (hf1) (fun q hq => absurd hq (Nat.not_lt_zero _))) (lvc_s (lvc_s (lvc_s (lvc_s (lvc_s (lvc_s (lvc_i (rfl) rfl))))))) rfl (rfl) (rfl)
    refine at_lv [4, 5, 3, 2, 1, 0] rfl ?_
    exact at_eq (H33 _ 0 M (Nat.lt_succ_self _) (by omega) (hT) (fun c hc => rfl) (fun _ => rfl)) (lvc_s (lvc_s (lvc_s (lvc_i (rfl) (lvc_i (rfl) (lvc_i (rfl) rfl)))))) rfl (rfl) (rfl)
  · refine at_aload_n C 0 dX6_look_11 rfl ?_
    refine at_bipush C dX6_look_12 (by decide) (by decide) ?_
    refine at_call_i C (c_X6_refuseBad l D G (-2) hT ⟨by omega, by omega, by omega⟩) (As := [.int (sI (-2))]) (obj_Sho G) (ci := 6) rfl qw_311 qw_308 qw_1 qw_310 qp_0 ⟨by decide, by decide, show (parseMethodDescriptor yX6_refuseBad.desc).map (fun d => d.parameters.length) = some 1 by decide +kernel⟩ ⟨by decide, by decide⟩ ⟨Nat.zero_le _, Nat.zero_le _⟩ (Nat.le_of_ble_eq_true rfl) dX6_look_14 rfl (fun r M' L' hp15 => ?_)
    obtain ⟨rfl, rfl, hT14, rfl⟩ := hp15
    exact hret _ _ _ _ _ dX6_look_17 (⟨congrArg sI (if_neg (by omega)).symm, (fun c hc => by rw [if_neg (by omega)]), hT14, rfl⟩)

set_option maxHeartbeats 4000000 in
set_option maxRecDepth 100000 in
theorem c_X6_ask (l : Launch) (D : va_G) (G : sG) {M : sM} {L : sL} (i : Int) (hir : InR i) (hT : TInv M) (hc : sCt M) : sKi l D G yX6_ask cX6_ask 7 .int 3 69 [.ref (G.1 (0)), .int (sI (i))] M L (fun r M' L' => r = sI (rAsk M i) ∧ (∀ c, c ≠ 257 → M' c = (if isCal M i then M else sBad M) c) ∧ TInv M' ∧ L = L') := by
  refine sKi_go (by decide) (Nat.le_of_ble_eq_true rfl) ?_
  intro zp ze zs zm za zb zt zc Q C hret
  refine at_eq (lv' := [(0, .ref (G.1 (0))), (1, .int (sI (i)))]) (st' := []) (M' := M) (L' := L) ?_ rfl rfl rfl rfl
  refine at_aload_n C 0 dX6_ask_0 rfl ?_
  refine at_getf (v := .ref (G.1 (1))) C (obj_Sho G) (ci := 6) rfl inX6 (slot := 0) (by decide) qw_249 rfl rfl dX6_ask_1 ?_
  refine at_iload_n C 1 dX6_ask_4 rfl ?_
  refine at_call_i C (c_X0_hasCaller l D G (Or.inl rfl) hT i ⟨by omega, by omega⟩) (As := [.int (sI (i))]) (obj_Bea G (Or.inl rfl)) (ci := 0) rfl qw_579 qw_576 qw_2 qw_577 qw_578 ⟨by decide, by decide, show (parseMethodDescriptor yX0_hasCaller.desc).map (fun d => d.parameters.length) = some 1 by decide +kernel⟩ ⟨by decide, by decide⟩ ⟨Nat.zero_le _, Nat.zero_le _⟩ (Nat.le_of_ble_eq_true rfl) dX6_ask_5 rfl (fun r M' L' hp1 => ?_)
  obtain ⟨rfl, rfl, rfl⟩ := hp1
  refine at_vi (y := sB (0 ≤ i ∧ i < M 1 10)) rfl ?_
  refine at_if_neB C 18 dX6_ask_8 (by decide) (fun h2 => ?_) (fun h2 => ?_)
  · obtain ⟨n, rfl⟩ : ∃ n : Nat, i = (n : Int) := ⟨i.toNat, by omega⟩
    have hcc := tv_callers hT (Or.inl rfl)
    have hss := tv_souls hT (Or.inl rfl)
    refine at_aload_n C 0 dX6_ask_18 rfl ?_
    refine at_iload_n C 1 dX6_ask_19 rfl ?_
    refine at_call_i C (c_X6_callerKinds l D G n (by omega) hT) (As := [.int (sI ((n : Int)))]) (obj_Sho G) (ci := 6) rfl qw_789 qw_786 qw_1 qw_788 qp_29 ⟨by decide, by decide, show (parseMethodDescriptor yX6_callerKinds.desc).map (fun d => d.parameters.length) = some 1 by decide +kernel⟩ ⟨by decide, by decide⟩ ⟨Nat.zero_le _, Nat.zero_le _⟩ (Nat.le_of_ble_eq_true rfl) dX6_ask_20 rfl (fun r M' L' hp4 => ?_)
    obtain ⟨rfl, rfl, rfl⟩ := hp4
    have hb3 : kfsB M n < 64 := bits_lt6 _ (by decide)
    refine at_istore_n C [(2, .int (sI ((((kfsB M n) : Nat) : Int)))), (0, .ref (G.1 (0))), (1, .int (sI ((n : Int))))] dX6_ask_23 (by decide) rfl ?_
    refine at_bipush C dX6_ask_24 (by decide) (by decide) ?_
    refine at_istore_n C [(3, .int (sI (7))), (2, .int (sI ((((kfsB M n) : Nat) : Int)))), (0, .ref (G.1 (0))), (1, .int (sI ((n : Int))))] dX6_ask_26 (by decide) rfl ?_
    refine at_iconst C dX6_ask_27 ?_
    refine at_istore C [(4, .int (sI (-1))), (3, .int (sI (7))), (2, .int (sI ((((kfsB M n) : Nat) : Int)))), (0, .ref (G.1 (0))), (1, .int (sI ((n : Int))))] dX6_ask_28 (by decide) rfl ?_
    refine at_iconst C dX6_ask_30 ?_
    refine at_istore C [(5, .int (sI (0))), (4, .int (sI (-1))), (3, .int (sI (7))), (2, .int (sI ((((kfsB M n) : Nat) : Int)))), (0, .ref (G.1 (0))), (1, .int (sI ((n : Int))))] dX6_ask_31 (by decide) rfl ?_
    have H33 : ∀ (fu : Nat) (t : Nat) (M1 : sM), 31 - t < fu → (t ≤ 31) → (TInv M1) → ((∀ c, c ≠ 257 → M1 c = M c)) → ((kfsB M n) = 0 → t = 0) → sAt zp l ze (sRm 3 69) zs zm za zb zt zc D G 7 0 0 Q 33 [(0, .ref (G.1 (0))), (1, .int (sI ((n : Int)))), (2, .int (sI ((((kfsB M n) : Nat) : Int)))), (3, .int (sI (bsF (fun t => mal (kfsB M n) (fun k => hvy k t)) t))), (4, .int (sI (bsB (fun t => mal (kfsB M n) (fun k => hvy k t)) t))), (5, .int (sI ((t : Int))))] [] M1 L := by
      intro fu
      induction fu with
      | zero => intro t M1 hd ht hT1 hf1 hz1; exact absurd hd (Nat.not_lt_zero _)
      | succ fu ih33 =>
        intro t M1 hd33 ht hT1 hf1 hz1
        have hbr := bsF_r (f := (fun t => mal (kfsB M n) (fun k => hvy k t))) (fun q => (malN_r _ _ 6).1) t
        refine at_iload C 5 dX6_ask_33 rfl ?_
        refine at_bipush C dX6_ask_35 (by decide) (by decide) ?_
        refine at_icmp_gt C 103 dX6_ask_37 (by decide) (⟨by omega, by omega⟩) (⟨by omega, by omega⟩) (fun h5 => ?_) (fun h5 => ?_)
        · refine at_iload C 4 dX6_ask_103 rfl ?_
          exact hret _ _ _ _ _ dX6_ask_105 (⟨congrArg sI ((if_pos (by omega)).trans (show bsA (kfsB M n) (fun t => mal (kfsB M n) (fun k => hvy k t)) 31 = _ from by rw [bsA_n (by omega), show t = 31 by omega])).symm, (fun c hc => by rw [if_pos (by omega)]; exact hf1 c hc), hT1, rfl⟩)
        · refine at_iload_n C 2 dX6_ask_40 rfl ?_
          refine at_if_eq C 103 dX6_ask_41 (by decide) (⟨by omega, by omega⟩) (fun h6 => ?_) (fun h6 => ?_)
          · refine at_iload C 4 dX6_ask_103 rfl ?_
            exact hret _ _ _ _ _ dX6_ask_105 (⟨congrArg sI ((if_pos (by omega)).trans (show bsA (kfsB M n) (fun t => mal (kfsB M n) (fun k => hvy k t)) 31 = _ from by rw [bsA_y (by omega), hz1 (by omega)]; rfl)).symm, (fun c hc => by rw [if_pos (by omega)]; exact hf1 c hc), hT1, rfl⟩)
          · refine at_iconst C dX6_ask_44 ?_
            refine at_istore C [(6, .int (sI (0))), (0, .ref (G.1 (0))), (1, .int (sI ((n : Int)))), (2, .int (sI ((((kfsB M n) : Nat) : Int)))), (3, .int (sI (bsF (fun t => mal (kfsB M n) (fun k => hvy k t)) t))), (4, .int (sI (bsB (fun t => mal (kfsB M n) (fun k => hvy k t)) t))), (5, .int (sI ((t : Int))))] dX6_ask_45 (by decide) rfl ?_
            have H47 : ∀ (fu : Nat) (i : Nat) (M2 : sM), 6 - i < fu → (i ≤ 6) → (TInv M2) → ((∀ c, c ≠ 257 → M2 c = M c)) → (∀ q, q < i → M2 257 q = hvy (q : Int) t) → sAt zp l ze (sRm 3 69) zs zm za zb zt zc D G 7 0 0 Q 47 [(0, .ref (G.1 (0))), (1, .int (sI ((n : Int)))), (2, .int (sI ((((kfsB M n) : Nat) : Int)))), (3, .int (sI (bsF (fun t => mal (kfsB M n) (fun k => hvy k t)) t))), (4, .int (sI (bsB (fun t => mal (kfsB M n) (fun k => hvy k t)) t))), (5, .int (sI ((t : Int)))), (6, .int (sI ((i : Int))))] [] M2 L := by
              intro fu
              induction fu with
              | zero => intro i M2 hd hi hT2 hf2 hv2; exact absurd hd (Nat.not_lt_zero _)
              | succ fu ih47 =>
                intro i M2 hd47 hi hT2 hf2 hv2
                refine at_iload C 6 dX6_ask_47 rfl ?_
                refine at_bipush C dX6_ask_49 (by decide) (by decide) ?_
                refine at_icmp_ge C 74 dX6_ask_51 (by decide) (⟨by omega, by omega⟩) (⟨by omega, by omega⟩) (fun h7 => ?_) (fun h7 => ?_)
                · refine at_iload_n C 2 dX6_ask_74 rfl ?_
                  refine at_aload_n C 0 dX6_ask_75 rfl ?_
                  refine at_getf (v := .ref (G.1 (257))) C (obj_Sho G) (ci := 6) rfl inX6 (slot := 7) (by decide) qw_256 rfl rfl dX6_ask_76 ?_
                  refine at_stat_i C (c_X6_mostAlike l D G (kfsB M n) (by omega) hT2) (As := [.int (sI ((((kfsB M n) : Nat) : Int))), .ref (G.1 (257))]) qw_750 qw_748 qw_1 qw_749 ⟨by decide, by decide, show (parseMethodDescriptor yX6_mostAlike.desc).map (fun d => d.parameters.length) = some 2 by decide +kernel⟩ ⟨by decide, by decide⟩ ⟨Nat.zero_le _, Nat.zero_le _⟩ (Nat.le_of_ble_eq_true rfl) dX6_ask_79 rfl (fun r M' L' hp8 => ?_)
                  obtain ⟨rfl, rfl, rfl⟩ := hp8
                  have hmal : _ ∧ _ := malN_r (kfsB M n) (M2 257) 6
                  refine at_ve (b := mal (kfsB M n) (fun k => hvy k t)) (mal_c (fun q hq _ => hv2 q (by omega))) ?_
                  have hmr := malN_r (kfsB M n) (fun k => hvy k t) 6
                  have hmr2 : 0 ≤ mal (kfsB M n) (fun k => hvy k t) ∧ mal (kfsB M n) (fun k => hvy k t) ≤ 6 := hmr
                  refine at_istore C [(6, .int (sI (mal (kfsB M n) (fun k => hvy k t)))), (0, .ref (G.1 (0))), (1, .int (sI ((n : Int)))), (2, .int (sI ((((kfsB M n) : Nat) : Int)))), (3, .int (sI (bsF (fun t => mal (kfsB M n) (fun k => hvy k t)) t))), (4, .int (sI (bsB (fun t => mal (kfsB M n) (fun k => hvy k t)) t))), (5, .int (sI ((t : Int))))] dX6_ask_82 (by decide) rfl ?_
                  refine at_iload C 0 dX6_ask_84 rfl ?_
                  refine at_iload_n C 4 dX6_ask_86 rfl ?_
                  refine at_icmp_ge C 97 dX6_ask_87 (by decide) (⟨by omega, by omega⟩) (⟨by omega, by omega⟩) (fun h9 => ?_) (fun h9 => ?_)
                  · refine at_iinc C 6 [(5, .int (sI ((t : Int) + 1))), (6, .int (sI (mal (kfsB M n) (fun k => hvy k t)))), (0, .ref (G.1 (0))), (1, .int (sI ((n : Int)))), (2, .int (sI ((((kfsB M n) : Nat) : Int)))), (3, .int (sI (bsF (fun t => mal (kfsB M n) (fun k => hvy k t)) t))), (4, .int (sI (bsB (fun t => mal (kfsB M n) (fun k => hvy k t)) t)))] dX6_ask_97 rfl (by decide) rfl ?_
                    refine at_goto C 33 dX6_ask_100 (by decide) ?_
                    refine at_lv [2, 3, 4, 5, 6, 0] rfl ?_
                    exact at_eq (ih33 (t + 1) M2 (by omega) (by omega) (hT2) (hf2) (fun z => by omega)) (lvc_s (lvc_s (lvc_s (lvc_i ((bsF_n (by assumption)).symm) (lvc_i ((bsB_n (by assumption)).symm) (lvc_i (by omega) rfl)))))) rfl (rfl) (rfl)
                  · refine at_iload C 0 dX6_ask_90 rfl ?_
                    refine at_istore_n C [(3, .int (sI (mal (kfsB M n) (fun k => hvy k t)))), (6, .int (sI (mal (kfsB M n) (fun k => hvy k t)))), (0, .ref (G.1 (0))), (1, .int (sI ((n : Int)))), (2, .int (sI ((((kfsB M n) : Nat) : Int)))), (4, .int (sI (bsB (fun t => mal (kfsB M n) (fun k => hvy k t)) t))), (5, .int (sI ((t : Int))))] dX6_ask_92 (by decide) rfl ?_
                    refine at_iload C 6 dX6_ask_93 rfl ?_
                    refine at_istore C [(4, .int (sI ((t : Int)))), (3, .int (sI (mal (kfsB M n) (fun k => hvy k t)))), (6, .int (sI (mal (kfsB M n) (fun k => hvy k t)))), (0, .ref (G.1 (0))), (1, .int (sI ((n : Int)))), (2, .int (sI ((((kfsB M n) : Nat) : Int)))), (5, .int (sI ((t : Int))))] dX6_ask_95 (by decide) rfl ?_
                    refine at_iinc C 6 [(5, .int (sI ((t : Int) + 1))), (4, .int (sI ((t : Int)))), (3, .int (sI (mal (kfsB M n) (fun k => hvy k t)))), (6, .int (sI (mal (kfsB M n) (fun k => hvy k t)))), (0, .ref (G.1 (0))), (1, .int (sI ((n : Int)))), (2, .int (sI ((((kfsB M n) : Nat) : Int))))] dX6_ask_97 rfl (by decide) rfl ?_
                    refine at_goto C 33 dX6_ask_100 (by decide) ?_
                    refine at_lv [4, 5, 6, 2, 1, 0] rfl ?_
                    exact at_eq (ih33 (t + 1) M2 (by omega) (by omega) (hT2) (hf2) (fun z => by omega)) (lvc_s (lvc_s (lvc_s (lvc_i ((if_pos (by assumption)).symm) (lvc_i ((if_pos (by assumption)).symm) (lvc_i (by omega) rfl)))))) rfl (rfl) (rfl)
                · refine at_aload_n C 0 dX6_ask_54 rfl ?_
                  refine at_getf (v := .ref (G.1 (257))) C (obj_Sho G) (ci := 6) rfl inX6 (slot := 7) (by decide) qw_256 rfl rfl dX6_ask_55 ?_
                  refine at_iload C 6 dX6_ask_58 rfl ?_
                  refine at_iload C 6 dX6_ask_60 rfl ?_
                  refine at_iload C 5 dX6_ask_62 rfl ?_
                  refine at_stat_i C (c_X6_heaviness2 l D G (i : Int) (t : Int) ⟨by omega, by omega⟩ ⟨by omega, by omega⟩) (As := [.int (sI ((i : Int))), .int (sI ((t : Int)))]) qw_515 qw_793 qw_1 qw_514 ⟨by decide, by decide, show (parseMethodDescriptor yX6_heaviness.desc).map (fun d => d.parameters.length) = some 2 by decide +kernel⟩ ⟨by decide, by decide⟩ ⟨Nat.zero_le _, Nat.zero_le _⟩ (Nat.le_of_ble_eq_true rfl) dX6_ask_64 rfl (fun r M' L' hp11 => ?_)
                  obtain ⟨rfl, rfl, rfl⟩ := hp11
                  have hb10 := hvy_b (k := (i : Int)) (x := (t : Int)) (by omega)
                  refine at_iast C i (ar_257 G) (rfl) (by omega) dX6_ask_67 ?_
                  have hT12 : TInv (sSt M2 257 i (hvy (i : Int) (t : Int))) := tv_st hT2 (k := 257) rfl (⟨by omega, by omega⟩)
                  refine at_iinc C 6 [(6, .int (sI ((i : Int) + 1))), (0, .ref (G.1 (0))), (1, .int (sI ((n : Int)))), (2, .int (sI ((((kfsB M n) : Nat) : Int)))), (3, .int (sI (bsF (fun t => mal (kfsB M n) (fun k => hvy k t)) t))), (4, .int (sI (bsB (fun t => mal (kfsB M n) (fun k => hvy k t)) t))), (5, .int (sI ((t : Int))))] dX6_ask_68 rfl (by decide) rfl ?_
                  refine at_goto C 47 dX6_ask_71 (by decide) ?_
                  refine at_lv [1, 2, 3, 4, 5, 6, 0] rfl ?_
                  exact at_eq (ih47 (i + 1) (sSt M2 257 i (hvy (i : Int) (t : Int))) (by omega) (by omega) (hT12) (fun c hc => by rw [sSt_ne hc]; exact hf2 c hc) (fun q hq => by
                    rcases Nat.lt_succ_iff_lt_or_eq.mp hq with z | z
                    · rw [sSt_nj (by omega)]; exact hv2 q z
                    · rw [z]; exact sSt_eq)) (lvc_s (lvc_s (lvc_s (lvc_s (lvc_s (lvc_s (lvc_i (by omega) rfl))))))) rfl (rfl) (rfl)
            refine at_lv [1, 2, 3, 4, 5, 6, 0] rfl ?_
            exact at_eq (H47 _ 0 M1 (Nat.lt_succ_self _) (by omega) (hT1) (hf1) (fun q hq => absurd hq (Nat.not_lt_zero _))) (lvc_s (lvc_s (lvc_s (lvc_s (lvc_s (lvc_s (lvc_i (rfl) rfl))))))) rfl (rfl) (rfl)
    refine at_lv [4, 5, 3, 2, 1, 0] rfl ?_
    exact at_eq (H33 _ 0 M (Nat.lt_succ_self _) (by omega) (hT) (fun c hc => rfl) (fun _ => rfl)) (lvc_s (lvc_s (lvc_s (lvc_i (rfl) (lvc_i (rfl) (lvc_i (rfl) rfl)))))) rfl (rfl) (rfl)
  · refine at_aload_n C 0 dX6_ask_11 rfl ?_
    refine at_bipush C dX6_ask_12 (by decide) (by decide) ?_
    refine at_call_i C (c_X6_refuseBad l D G (-2) hT ⟨by omega, by omega, by omega⟩) (As := [.int (sI (-2))]) (obj_Sho G) (ci := 6) rfl qw_311 qw_308 qw_1 qw_310 qp_0 ⟨by decide, by decide, show (parseMethodDescriptor yX6_refuseBad.desc).map (fun d => d.parameters.length) = some 1 by decide +kernel⟩ ⟨by decide, by decide⟩ ⟨Nat.zero_le _, Nat.zero_le _⟩ (Nat.le_of_ble_eq_true rfl) dX6_ask_14 rfl (fun r M' L' hp14 => ?_)
    obtain ⟨rfl, rfl, hT13, rfl⟩ := hp14
    exact hret _ _ _ _ _ dX6_ask_17 (⟨congrArg sI (if_neg (by omega)).symm, (fun c hc => by rw [if_neg (by omega)]), hT13, rfl⟩)

set_option maxHeartbeats 4000000 in
set_option maxRecDepth 100000 in
theorem c_X6_tell (l : Launch) (D : va_G) (G : sG) {M : sM} {L : sL} (hT : TInv M) (hc : sCt M) : sKi l D G yX6_tell cX6_tell 7 .int 4 91 [.ref (G.1 (0))] M L (fun r M' L' => r = sI (rTell M) ∧ (∀ c, c ≠ 257 → M' c = M c) ∧ TInv M' ∧ L = L') := by
  refine sKi_go (by decide) (Nat.le_of_ble_eq_true rfl) ?_
  intro zp ze zs zm za zb zt zc Q C hret
  refine at_eq (lv' := [(0, .ref (G.1 (0)))]) (st' := []) (M' := M) (L' := L) ?_ rfl rfl rfl rfl
  have hsb : seenB M < 64 := bits_lt6 _ (nS_r hT (Or.inl rfl)).1
  refine at_aload_n C 0 dX6_tell_0 rfl ?_
  refine at_call_i C (c_X6_soulsSeen l D G hT) (As := []) (obj_Sho G) (ci := 6) rfl qw_738 qw_735 qw_1 qw_737 qp_27 ⟨by decide, by decide, show (parseMethodDescriptor yX6_soulsSeen.desc).map (fun d => d.parameters.length) = some 0 by decide +kernel⟩ ⟨by decide, by decide⟩ ⟨Nat.zero_le _, Nat.zero_le _⟩ (Nat.le_of_ble_eq_true rfl) dX6_tell_1 rfl (fun r M' L' hp2 => ?_)
  obtain ⟨rfl, rfl, rfl⟩ := hp2
  have hb1 : seenB M < 64 := bits_lt6 _ (nS_r hT (Or.inl rfl)).1
  refine at_istore_n C [(1, .int (sI ((((seenB M) : Nat) : Int)))), (0, .ref (G.1 (0)))] dX6_tell_4 (by decide) rfl ?_
  refine at_aload_n C 1 dX6_tell_5 rfl ?_
  refine at_getf (v := .ref (G.1 (1))) C (obj_Sho G) (ci := 6) rfl inX6 (slot := 0) (by decide) qw_249 rfl rfl dX6_tell_6 ?_
  refine at_getf (v := .ref (G.1 (6))) C (obj_Bea G (Or.inl rfl)) (ci := 0) rfl inX0 (slot := 4) (by decide) qw_95 rfl rfl dX6_tell_9 ?_
  refine at_getf (v := .ref (G.1 (7))) C ((isMo_now G (Or.inl rfl)).1) (ci := 1) rfl inX1 (slot := 0) (by decide) qw_38 rfl rfl dX6_tell_12 ?_
  refine at_iconst C dX6_tell_15 ?_
  refine at_aload_n C 1 dX6_tell_16 rfl ?_
  refine at_getf (v := .ref (G.1 (257))) C (obj_Sho G) (ci := 6) rfl inX6 (slot := 7) (by decide) qw_256 rfl rfl dX6_tell_17 ?_
  refine at_iconst C dX6_tell_20 ?_
  refine at_bipush C dX6_tell_21 (by decide) (by decide) ?_
  refine at_copyI C 0 0 6 qw_717 (arI_cell G (Or.inl rfl)) (ar_257 G) (rfl) (rfl) (rfl) (by omega) (by omega) ⟨by decide, Nat.le_of_ble_eq_true rfl⟩ dX6_tell_23 ?_
  have hT3 : TInv (sCpy M 7 257 0 0 6) := tvc_7 (hT)
  refine at_bipush C dX6_tell_26 (by decide) (by decide) ?_
  refine at_istore_n C [(2, .int (sI (7))), (1, .int (sI ((((seenB M) : Nat) : Int)))), (0, .ref (G.1 (0)))] dX6_tell_28 (by decide) rfl ?_
  refine at_iconst C dX6_tell_29 ?_
  refine at_istore_n C [(3, .int (sI (-1))), (2, .int (sI (7))), (1, .int (sI ((((seenB M) : Nat) : Int)))), (0, .ref (G.1 (0)))] dX6_tell_30 (by decide) rfl ?_
  refine at_iconst C dX6_tell_31 ?_
  refine at_istore C [(4, .int (sI (0))), (3, .int (sI (-1))), (2, .int (sI (7))), (1, .int (sI ((((seenB M) : Nat) : Int)))), (0, .ref (G.1 (0)))] dX6_tell_32 (by decide) rfl ?_
  have H34 : ∀ (fu : Nat) (t : Nat) (M1 : sM), 21 - t < fu → (t ≤ 21) → (TInv M1) → ((∀ c, c ≠ 257 → M1 c = M c)) → (∀ q, q < 6 → (seenB M).testBit q = true → M1 257 q = driN (M 2) t (M 7 q) ∧ 0 ≤ M 7 q) → (seenB M = 0 → t = 0) → sAt zp l ze (sRm 4 91) zs zm za zb zt zc D G 7 0 0 Q 34 [(0, .ref (G.1 (0))), (1, .int (sI ((((seenB M) : Nat) : Int)))), (2, .int (sI (bsF (fun t => mal (seenB M) (fun s => driN (M 2) t (M 7 s))) t))), (3, .int (sI (bsB (fun t => mal (seenB M) (fun s => driN (M 2) t (M 7 s))) t))), (4, .int (sI ((t : Int))))] [] M1 L := by
    intro fu
    induction fu with
    | zero => intro t M1 hd ht hT1 hf1 hv1 hz1; exact absurd hd (Nat.not_lt_zero _)
    | succ fu ih34 =>
      intro t M1 hd34 ht hT1 hf1 hv1 hz1
      have hbr := bsF_r (f := (fun t => mal (seenB M) (fun s => driN (M 2) t (M 7 s)))) (fun q => (malN_r _ _ 6).1) t
      refine at_iload C 4 dX6_tell_34 rfl ?_
      refine at_bipush C dX6_tell_36 (by decide) (by decide) ?_
      refine at_icmp_gt C 120 dX6_tell_38 (by decide) (⟨by omega, by omega⟩) (⟨by omega, by omega⟩) (fun h4 => ?_) (fun h4 => ?_)
      · refine at_iload_n C 3 dX6_tell_120 rfl ?_
        exact hret _ _ _ _ _ dX6_tell_121 (⟨congrArg sI ((if_neg (by omega)).trans (by rw [show t = 21 by omega])).symm, hf1, hT1, rfl⟩)
      · refine at_iload_n C 1 dX6_tell_41 rfl ?_
        refine at_if_eq C 120 dX6_tell_42 (by decide) (⟨by omega, by omega⟩) (fun h5 => ?_) (fun h5 => ?_)
        · refine at_iload_n C 3 dX6_tell_120 rfl ?_
          exact hret _ _ _ _ _ dX6_tell_121 (⟨congrArg sI ((if_pos (by omega)).trans (by rw [hz1 (by omega)]; rfl)).symm, hf1, hT1, rfl⟩)
        · refine at_iload_n C 1 dX6_tell_45 rfl ?_
          refine at_aload_n C 0 dX6_tell_46 rfl ?_
          refine at_getf (v := .ref (G.1 (257))) C (obj_Sho G) (ci := 6) rfl inX6 (slot := 7) (by decide) qw_256 rfl rfl dX6_tell_47 ?_
          refine at_stat_i C (c_X6_mostAlike l D G (seenB M) (by omega) hT1) (As := [.int (sI ((((seenB M) : Nat) : Int))), .ref (G.1 (257))]) qw_750 qw_748 qw_1 qw_749 ⟨by decide, by decide, show (parseMethodDescriptor yX6_mostAlike.desc).map (fun d => d.parameters.length) = some 2 by decide +kernel⟩ ⟨by decide, by decide⟩ ⟨Nat.zero_le _, Nat.zero_le _⟩ (Nat.le_of_ble_eq_true rfl) dX6_tell_50 rfl (fun r M' L' hp6 => ?_)
          obtain ⟨rfl, rfl, rfl⟩ := hp6
          have hmal : _ ∧ _ := malN_r (seenB M) (M1 257) 6
          refine at_ve (b := mal (seenB M) (fun s => driN (M 2) t (M 7 s))) (mal_c (fun q hq hb => (hv1 q hq hb).1)) ?_
          have hmr2 : 0 ≤ mal (seenB M) (fun s => driN (M 2) t (M 7 s)) ∧ mal (seenB M) (fun s => driN (M 2) t (M 7 s)) ≤ 6 := malN_r (seenB M) (fun s => driN (M 2) t (M 7 s)) 6
          refine at_istore C [(5, .int (sI (mal (seenB M) (fun s => driN (M 2) t (M 7 s))))), (0, .ref (G.1 (0))), (1, .int (sI ((((seenB M) : Nat) : Int)))), (2, .int (sI (bsF (fun t => mal (seenB M) (fun s => driN (M 2) t (M 7 s))) t))), (3, .int (sI (bsB (fun t => mal (seenB M) (fun s => driN (M 2) t (M 7 s))) t))), (4, .int (sI ((t : Int))))] dX6_tell_53 (by decide) rfl ?_
          refine at_iload C 0 dX6_tell_55 rfl ?_
          refine at_iload_n C 3 dX6_tell_57 rfl ?_
          refine at_icmp_ge C 67 dX6_tell_58 (by decide) (⟨by omega, by omega⟩) (⟨by omega, by omega⟩) (fun h7 => ?_) (fun h7 => ?_)
          · refine at_iconst C dX6_tell_67 ?_
            refine at_istore C [(6, .int (sI (0))), (5, .int (sI (mal (seenB M) (fun s => driN (M 2) t (M 7 s))))), (0, .ref (G.1 (0))), (1, .int (sI ((((seenB M) : Nat) : Int)))), (2, .int (sI (bsF (fun t => mal (seenB M) (fun s => driN (M 2) t (M 7 s))) t))), (3, .int (sI (bsB (fun t => mal (seenB M) (fun s => driN (M 2) t (M 7 s))) t))), (4, .int (sI ((t : Int))))] dX6_tell_68 (by decide) rfl ?_
            have H70 : ∀ (fu : Nat) (i : Nat) (M2 : sM), 6 - i < fu → (i ≤ 6) → (TInv M2) → ((∀ c, c ≠ 257 → M2 c = M c)) → (∀ q, q < i → (seenB M).testBit q = true → M2 257 q = driN (M 2) (t + 1) (M 7 q)) → (∀ q, i ≤ q → q < 6 → M2 257 q = M1 257 q) → sAt zp l ze (sRm 4 91) zs zm za zb zt zc D G 7 0 0 Q 70 [(0, .ref (G.1 (0))), (1, .int (sI ((((seenB M) : Nat) : Int)))), (2, .int (sI (bsF (fun t => mal (seenB M) (fun s => driN (M 2) t (M 7 s))) t))), (3, .int (sI (bsB (fun t => mal (seenB M) (fun s => driN (M 2) t (M 7 s))) t))), (4, .int (sI ((t : Int)))), (5, .int (sI (mal (seenB M) (fun s => driN (M 2) t (M 7 s))))), (6, .int (sI ((i : Int))))] [] M2 L := by
              intro fu
              induction fu with
              | zero => intro i M2 hd hi hT2 hf2 hv2 hv3; exact absurd hd (Nat.not_lt_zero _)
              | succ fu ih70 =>
                intro i M2 hd70 hi hT2 hf2 hv2 hv3
                refine at_iload C 6 dX6_tell_70 rfl ?_
                refine at_bipush C dX6_tell_72 (by decide) (by decide) ?_
                refine at_icmp_ge C 114 dX6_tell_74 (by decide) (⟨by omega, by omega⟩) (⟨by omega, by omega⟩) (fun h8 => ?_) (fun h8 => ?_)
                · refine at_iinc C 4 [(4, .int (sI ((t : Int) + 1))), (0, .ref (G.1 (0))), (1, .int (sI ((((seenB M) : Nat) : Int)))), (2, .int (sI (bsF (fun t => mal (seenB M) (fun s => driN (M 2) t (M 7 s))) t))), (3, .int (sI (bsB (fun t => mal (seenB M) (fun s => driN (M 2) t (M 7 s))) t))), (5, .int (sI (mal (seenB M) (fun s => driN (M 2) t (M 7 s))))), (6, .int (sI ((i : Int))))] dX6_tell_114 rfl (by decide) rfl ?_
                  refine at_goto C 34 dX6_tell_117 (by decide) ?_
                  refine at_lv [1, 2, 3, 4, 0] rfl ?_
                  exact at_eq (ih34 (t + 1) M2 (by omega) (by omega) (hT2) (hf2) (fun q hq hb => ⟨hv2 q (by omega) hb, (hv1 q hq hb).2⟩) (fun z => by omega)) (lvc_s (lvc_s (lvc_i ((bsF_n (by assumption)).symm) (lvc_i ((bsB_n (by assumption)).symm) (lvc_i (by omega) rfl))))) rfl (rfl) (rfl)
                · refine at_iload_n C 1 dX6_tell_77 rfl ?_
                  refine at_iload C 6 dX6_tell_78 rfl ?_
                  refine at_stat_i C (c_X6_contains l D G (seenB M) i (by omega) (by omega)) (As := [.int (sI ((((seenB M) : Nat) : Int))), .int (sI ((i : Int)))]) qw_644 qw_751 qw_1 qw_643 ⟨by decide, by decide, show (parseMethodDescriptor yX6_contains.desc).map (fun d => d.parameters.length) = some 2 by decide +kernel⟩ ⟨by decide, by decide⟩ ⟨Nat.zero_le _, Nat.zero_le _⟩ (Nat.le_of_ble_eq_true rfl) dX6_tell_80 rfl (fun r M' L' hp9 => ?_)
                  obtain ⟨rfl, rfl, rfl⟩ := hp9
                  refine at_if_eqB C 108 dX6_tell_83 (by decide) (fun h10 => ?_) (fun h10 => ?_)
                  · refine at_iinc C 6 [(6, .int (sI ((i : Int) + 1))), (0, .ref (G.1 (0))), (1, .int (sI ((((seenB M) : Nat) : Int)))), (2, .int (sI (bsF (fun t => mal (seenB M) (fun s => driN (M 2) t (M 7 s))) t))), (3, .int (sI (bsB (fun t => mal (seenB M) (fun s => driN (M 2) t (M 7 s))) t))), (4, .int (sI ((t : Int)))), (5, .int (sI (mal (seenB M) (fun s => driN (M 2) t (M 7 s)))))] dX6_tell_108 rfl (by decide) rfl ?_
                    refine at_goto C 70 dX6_tell_111 (by decide) ?_
                    refine at_lv [1, 2, 3, 4, 5, 6, 0] rfl ?_
                    exact at_eq (ih70 (i + 1) M2 (by omega) (by omega) (hT2) (hf2) (fun q hq hb => by
                    rcases Nat.lt_succ_iff_lt_or_eq.mp hq with z | z
                    · exact hv2 q z hb
                    · rw [z] at hb; exact absurd hb (by assumption)) (fun q h1 h2 => hv3 q (by omega) h2)) (lvc_s (lvc_s (lvc_s (lvc_s (lvc_s (lvc_s (lvc_i (by omega) rfl))))))) rfl (rfl) (rfl)
                  · refine at_aload_n C 0 dX6_tell_86 rfl ?_
                    refine at_getf (v := .ref (G.1 (257))) C (obj_Sho G) (ci := 6) rfl inX6 (slot := 7) (by decide) qw_256 rfl rfl dX6_tell_87 ?_
                    refine at_iload C 6 dX6_tell_90 rfl ?_
                    refine at_aload_n C 0 dX6_tell_92 rfl ?_
                    refine at_getf (v := .ref (G.1 (1))) C (obj_Sho G) (ci := 6) rfl inX6 (slot := 0) (by decide) qw_249 rfl rfl dX6_tell_93 ?_
                    refine at_aload_n C 0 dX6_tell_96 rfl ?_
                    refine at_getf (v := .ref (G.1 (257))) C (obj_Sho G) (ci := 6) rfl inX6 (slot := 7) (by decide) qw_256 rfl rfl dX6_tell_97 ?_
                    refine at_iload C 6 dX6_tell_100 rfl ?_
                    refine at_iald C i (ar_257 G) (rfl) (by omega) dX6_tell_102 ?_
                    have hb11 := tv hT2 (k := 257) (j := i) rfl
                    refine at_ve (b := driN (M 2) t (M 7 i)) (by rw [hv3 i (Nat.le_refl i) (by omega)]; exact (hv1 i (by omega) (by assumption)).1) ?_
                    have hcr : _ ≤ M 7 i ∧ M 7 i ≤ _ := tv_cell hT (Or.inl rfl) i
                    have hc0 := (hv1 i (by omega) (by assumption)).2
                    have hdr := driN_r (M 2) (c := M 7 i) ⟨by omega, by omega⟩ t
                    refine at_iconst C dX6_tell_103 ?_
                    refine at_call_i C (c_X0_drifted l D G (Or.inl rfl) hT2 (driN (M 2) t (M 7 i)) 1 ⟨by omega, by omega⟩ (by omega)) (As := [.int (sI (driN (M 2) t (M 7 i))), .int (sI (1))]) (obj_Bea G (Or.inl rfl)) (ci := 0) rfl qw_485 qw_633 qw_2 qw_483 qw_484 ⟨by decide, by decide, show (parseMethodDescriptor yX0_drifted.desc).map (fun d => d.parameters.length) = some 2 by decide +kernel⟩ ⟨by decide, by decide⟩ ⟨Nat.zero_le _, Nat.zero_le _⟩ (Nat.le_of_ble_eq_true rfl) dX6_tell_104 rfl (fun r M' L' hp13 => ?_)
                    obtain ⟨rfl, rfl, rfl⟩ := hp13
                    refine at_ve (b := driN (M2 2) 1 (driN (M 2) t (M 7 i))) rfl ?_
                    have hb12 := driN_r (M2 2) (c := driN (M 2) t (M 7 i)) ⟨by omega, by omega⟩ 1
                    refine at_ve (b := driN (M 2) (t + 1) (M 7 i)) (by rw [hf2 2 (by decide)]; rfl) ?_
                    have hdr2 := driN_r (M 2) (c := M 7 i) ⟨by omega, by omega⟩ (t + 1)
                    refine at_iast C i (ar_257 G) (rfl) (by omega) dX6_tell_107 ?_
                    have hT14 : TInv (sSt M2 257 i (driN (M 2) (t + 1) (M 7 i))) := tv_st hT2 (k := 257) rfl (⟨by omega, by omega⟩)
                    refine at_iinc C 6 [(6, .int (sI ((i : Int) + 1))), (0, .ref (G.1 (0))), (1, .int (sI ((((seenB M) : Nat) : Int)))), (2, .int (sI (bsF (fun t => mal (seenB M) (fun s => driN (M 2) t (M 7 s))) t))), (3, .int (sI (bsB (fun t => mal (seenB M) (fun s => driN (M 2) t (M 7 s))) t))), (4, .int (sI ((t : Int)))), (5, .int (sI (mal (seenB M) (fun s => driN (M 2) t (M 7 s)))))] dX6_tell_108 rfl (by decide) rfl ?_
                    refine at_goto C 70 dX6_tell_111 (by decide) ?_
                    refine at_lv [1, 2, 3, 4, 5, 6, 0] rfl ?_
                    exact at_eq (ih70 (i + 1) (sSt M2 257 i (driN (M 2) (t + 1) (M 7 i))) (by omega) (by omega) (hT14) (fun c hc => by rw [sSt_ne hc]; exact hf2 c hc) (fun q hq hb => by
                    rcases Nat.lt_succ_iff_lt_or_eq.mp hq with z | z
                    · rw [sSt_nj (by omega)]; exact hv2 q z hb
                    · rw [z]; exact sSt_eq) (fun q h1 h2 => by rw [sSt_nj (by omega)]; exact hv3 q (by omega) h2)) (lvc_s (lvc_s (lvc_s (lvc_s (lvc_s (lvc_s (lvc_i (by omega) rfl))))))) rfl (rfl) (rfl)
            refine at_lv [2, 3, 4, 5, 6, 1, 0] rfl ?_
            exact at_eq (H70 _ 0 M1 (Nat.lt_succ_self _) (by omega) (hT1) (hf1) (fun q hq => absurd hq (Nat.not_lt_zero _)) (fun q _ _ => rfl)) (lvc_s (lvc_s (lvc_s (lvc_s (lvc_s (lvc_s (lvc_i (rfl) rfl))))))) rfl (rfl) (rfl)
          · refine at_iload C 0 dX6_tell_61 rfl ?_
            refine at_istore_n C [(2, .int (sI (mal (seenB M) (fun s => driN (M 2) t (M 7 s))))), (5, .int (sI (mal (seenB M) (fun s => driN (M 2) t (M 7 s))))), (0, .ref (G.1 (0))), (1, .int (sI ((((seenB M) : Nat) : Int)))), (3, .int (sI (bsB (fun t => mal (seenB M) (fun s => driN (M 2) t (M 7 s))) t))), (4, .int (sI ((t : Int))))] dX6_tell_63 (by decide) rfl ?_
            refine at_iload C 5 dX6_tell_64 rfl ?_
            refine at_istore_n C [(3, .int (sI ((t : Int)))), (2, .int (sI (mal (seenB M) (fun s => driN (M 2) t (M 7 s))))), (5, .int (sI (mal (seenB M) (fun s => driN (M 2) t (M 7 s))))), (0, .ref (G.1 (0))), (1, .int (sI ((((seenB M) : Nat) : Int)))), (4, .int (sI ((t : Int))))] dX6_tell_66 (by decide) rfl ?_
            refine at_iconst C dX6_tell_67 ?_
            refine at_istore C [(6, .int (sI (0))), (3, .int (sI ((t : Int)))), (2, .int (sI (mal (seenB M) (fun s => driN (M 2) t (M 7 s))))), (5, .int (sI (mal (seenB M) (fun s => driN (M 2) t (M 7 s))))), (0, .ref (G.1 (0))), (1, .int (sI ((((seenB M) : Nat) : Int)))), (4, .int (sI ((t : Int))))] dX6_tell_68 (by decide) rfl ?_
            have H70 : ∀ (fu : Nat) (i : Nat) (M2 : sM), 6 - i < fu → (i ≤ 6) → (TInv M2) → ((∀ c, c ≠ 257 → M2 c = M c)) → (∀ q, q < i → (seenB M).testBit q = true → M2 257 q = driN (M 2) (t + 1) (M 7 q)) → (∀ q, i ≤ q → q < 6 → M2 257 q = M1 257 q) → sAt zp l ze (sRm 4 91) zs zm za zb zt zc D G 7 0 0 Q 70 [(0, .ref (G.1 (0))), (1, .int (sI ((((seenB M) : Nat) : Int)))), (2, .int (sI (mal (seenB M) (fun s => driN (M 2) t (M 7 s))))), (3, .int (sI ((t : Int)))), (4, .int (sI ((t : Int)))), (5, .int (sI (mal (seenB M) (fun s => driN (M 2) t (M 7 s))))), (6, .int (sI ((i : Int))))] [] M2 L := by
              intro fu
              induction fu with
              | zero => intro i M2 hd hi hT2 hf2 hv2 hv3; exact absurd hd (Nat.not_lt_zero _)
              | succ fu ih70 =>
                intro i M2 hd70 hi hT2 hf2 hv2 hv3
                refine at_iload C 6 dX6_tell_70 rfl ?_
                refine at_bipush C dX6_tell_72 (by decide) (by decide) ?_
                refine at_icmp_ge C 114 dX6_tell_74 (by decide) (⟨by omega, by omega⟩) (⟨by omega, by omega⟩) (fun h15 => ?_) (fun h15 => ?_)
                · refine at_iinc C 4 [(4, .int (sI ((t : Int) + 1))), (0, .ref (G.1 (0))), (1, .int (sI ((((seenB M) : Nat) : Int)))), (2, .int (sI (mal (seenB M) (fun s => driN (M 2) t (M 7 s))))), (3, .int (sI ((t : Int)))), (5, .int (sI (mal (seenB M) (fun s => driN (M 2) t (M 7 s))))), (6, .int (sI ((i : Int))))] dX6_tell_114 rfl (by decide) rfl ?_
                  refine at_goto C 34 dX6_tell_117 (by decide) ?_
                  refine at_lv [1, 2, 3, 4, 0] rfl ?_
                  exact at_eq (ih34 (t + 1) M2 (by omega) (by omega) (hT2) (hf2) (fun q hq hb => ⟨hv2 q (by omega) hb, (hv1 q hq hb).2⟩) (fun z => by omega)) (lvc_s (lvc_s (lvc_i ((if_pos (by assumption)).symm) (lvc_i ((if_pos (by assumption)).symm) (lvc_i (by omega) rfl))))) rfl (rfl) (rfl)
                · refine at_iload_n C 1 dX6_tell_77 rfl ?_
                  refine at_iload C 6 dX6_tell_78 rfl ?_
                  refine at_stat_i C (c_X6_contains l D G (seenB M) i (by omega) (by omega)) (As := [.int (sI ((((seenB M) : Nat) : Int))), .int (sI ((i : Int)))]) qw_644 qw_751 qw_1 qw_643 ⟨by decide, by decide, show (parseMethodDescriptor yX6_contains.desc).map (fun d => d.parameters.length) = some 2 by decide +kernel⟩ ⟨by decide, by decide⟩ ⟨Nat.zero_le _, Nat.zero_le _⟩ (Nat.le_of_ble_eq_true rfl) dX6_tell_80 rfl (fun r M' L' hp16 => ?_)
                  obtain ⟨rfl, rfl, rfl⟩ := hp16
                  refine at_if_eqB C 108 dX6_tell_83 (by decide) (fun h17 => ?_) (fun h17 => ?_)
                  · refine at_iinc C 6 [(6, .int (sI ((i : Int) + 1))), (0, .ref (G.1 (0))), (1, .int (sI ((((seenB M) : Nat) : Int)))), (2, .int (sI (mal (seenB M) (fun s => driN (M 2) t (M 7 s))))), (3, .int (sI ((t : Int)))), (4, .int (sI ((t : Int)))), (5, .int (sI (mal (seenB M) (fun s => driN (M 2) t (M 7 s)))))] dX6_tell_108 rfl (by decide) rfl ?_
                    refine at_goto C 70 dX6_tell_111 (by decide) ?_
                    refine at_lv [1, 2, 3, 4, 5, 6, 0] rfl ?_
                    exact at_eq (ih70 (i + 1) M2 (by omega) (by omega) (hT2) (hf2) (fun q hq hb => by
                    rcases Nat.lt_succ_iff_lt_or_eq.mp hq with z | z
                    · exact hv2 q z hb
                    · rw [z] at hb; exact absurd hb (by assumption)) (fun q h1 h2 => hv3 q (by omega) h2)) (lvc_s (lvc_s (lvc_s (lvc_s (lvc_s (lvc_s (lvc_i (by omega) rfl))))))) rfl (rfl) (rfl)
                  · refine at_aload_n C 0 dX6_tell_86 rfl ?_
                    refine at_getf (v := .ref (G.1 (257))) C (obj_Sho G) (ci := 6) rfl inX6 (slot := 7) (by decide) qw_256 rfl rfl dX6_tell_87 ?_
                    refine at_iload C 6 dX6_tell_90 rfl ?_
                    refine at_aload_n C 0 dX6_tell_92 rfl ?_
                    refine at_getf (v := .ref (G.1 (1))) C (obj_Sho G) (ci := 6) rfl inX6 (slot := 0) (by decide) qw_249 rfl rfl dX6_tell_93 ?_
                    refine at_aload_n C 0 dX6_tell_96 rfl ?_
                    refine at_getf (v := .ref (G.1 (257))) C (obj_Sho G) (ci := 6) rfl inX6 (slot := 7) (by decide) qw_256 rfl rfl dX6_tell_97 ?_
                    refine at_iload C 6 dX6_tell_100 rfl ?_
                    refine at_iald C i (ar_257 G) (rfl) (by omega) dX6_tell_102 ?_
                    have hb18 := tv hT2 (k := 257) (j := i) rfl
                    refine at_ve (b := driN (M 2) t (M 7 i)) (by rw [hv3 i (Nat.le_refl i) (by omega)]; exact (hv1 i (by omega) (by assumption)).1) ?_
                    have hcr : _ ≤ M 7 i ∧ M 7 i ≤ _ := tv_cell hT (Or.inl rfl) i
                    have hc0 := (hv1 i (by omega) (by assumption)).2
                    have hdr := driN_r (M 2) (c := M 7 i) ⟨by omega, by omega⟩ t
                    refine at_iconst C dX6_tell_103 ?_
                    refine at_call_i C (c_X0_drifted l D G (Or.inl rfl) hT2 (driN (M 2) t (M 7 i)) 1 ⟨by omega, by omega⟩ (by omega)) (As := [.int (sI (driN (M 2) t (M 7 i))), .int (sI (1))]) (obj_Bea G (Or.inl rfl)) (ci := 0) rfl qw_485 qw_633 qw_2 qw_483 qw_484 ⟨by decide, by decide, show (parseMethodDescriptor yX0_drifted.desc).map (fun d => d.parameters.length) = some 2 by decide +kernel⟩ ⟨by decide, by decide⟩ ⟨Nat.zero_le _, Nat.zero_le _⟩ (Nat.le_of_ble_eq_true rfl) dX6_tell_104 rfl (fun r M' L' hp20 => ?_)
                    obtain ⟨rfl, rfl, rfl⟩ := hp20
                    refine at_ve (b := driN (M2 2) 1 (driN (M 2) t (M 7 i))) rfl ?_
                    have hb19 := driN_r (M2 2) (c := driN (M 2) t (M 7 i)) ⟨by omega, by omega⟩ 1
                    refine at_ve (b := driN (M 2) (t + 1) (M 7 i)) (by rw [hf2 2 (by decide)]; rfl) ?_
                    have hdr2 := driN_r (M 2) (c := M 7 i) ⟨by omega, by omega⟩ (t + 1)
                    refine at_iast C i (ar_257 G) (rfl) (by omega) dX6_tell_107 ?_
                    have hT21 : TInv (sSt M2 257 i (driN (M 2) (t + 1) (M 7 i))) := tv_st hT2 (k := 257) rfl (⟨by omega, by omega⟩)
                    refine at_iinc C 6 [(6, .int (sI ((i : Int) + 1))), (0, .ref (G.1 (0))), (1, .int (sI ((((seenB M) : Nat) : Int)))), (2, .int (sI (mal (seenB M) (fun s => driN (M 2) t (M 7 s))))), (3, .int (sI ((t : Int)))), (4, .int (sI ((t : Int)))), (5, .int (sI (mal (seenB M) (fun s => driN (M 2) t (M 7 s)))))] dX6_tell_108 rfl (by decide) rfl ?_
                    refine at_goto C 70 dX6_tell_111 (by decide) ?_
                    refine at_lv [1, 2, 3, 4, 5, 6, 0] rfl ?_
                    exact at_eq (ih70 (i + 1) (sSt M2 257 i (driN (M 2) (t + 1) (M 7 i))) (by omega) (by omega) (hT21) (fun c hc => by rw [sSt_ne hc]; exact hf2 c hc) (fun q hq hb => by
                    rcases Nat.lt_succ_iff_lt_or_eq.mp hq with z | z
                    · rw [sSt_nj (by omega)]; exact hv2 q z hb
                    · rw [z]; exact sSt_eq) (fun q h1 h2 => by rw [sSt_nj (by omega)]; exact hv3 q (by omega) h2)) (lvc_s (lvc_s (lvc_s (lvc_s (lvc_s (lvc_s (lvc_i (by omega) rfl))))))) rfl (rfl) (rfl)
            refine at_lv [4, 5, 2, 1, 6, 3, 0] rfl ?_
            exact at_eq (H70 _ 0 M1 (Nat.lt_succ_self _) (by omega) (hT1) (hf1) (fun q hq => absurd hq (Nat.not_lt_zero _)) (fun q _ _ => rfl)) (lvc_s (lvc_s (lvc_s (lvc_s (lvc_s (lvc_s (lvc_i (rfl) rfl))))))) rfl (rfl) (rfl)
  refine at_lv [4, 3, 2, 1, 0] rfl ?_
  exact at_eq (H34 _ 0 (sCpy M 7 257 0 0 6) (Nat.lt_succ_self _) (by omega) (hT3) (fun c hc => sCpy_ne hc) (fun q hq hb => ⟨by rw [sCpy_at, if_pos ⟨rfl, hq⟩]; rfl, seen_0 hT hb⟩) (fun _ => rfl)) (lvc_s (lvc_s (lvc_i (rfl) (lvc_i (rfl) (lvc_i (rfl) rfl))))) rfl (rfl) (rfl)
