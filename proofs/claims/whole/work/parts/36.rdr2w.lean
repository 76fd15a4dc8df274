set_option maxHeartbeats 4000000 in
set_option maxRecDepth 100000 in
theorem c_X3_readNumber (l : Launch) (D : va_G) (G : sG) {M : sM} {L : sL} (lo hi : Int) (hlo : InR lo) (hhi : InR hi) (hT : TInv M) (hk : rOk M) : sKi l D G yX3_readNumber cX3_readNumber 3 .boolean 3 60 [.ref (G.1 (195)), .int (sI (lo)), .int (sI (hi))] M L (fun r M' L' => r = sB (nOk lo hi M) ∧ (M' = nxM M ∧ TInv M' ∧ L = L')) := by
  refine sKz_go (by decide) (Nat.le_of_ble_eq_true rfl) ?_
  intro zp ze zs zm za zb zt zc Q C hret
  refine at_eq (lv' := [(0, .ref (G.1 (195))), (1, .int (sI (lo))), (2, .int (sI (hi)))]) (st' := []) (M' := M) (L' := L) ?_ rfl rfl rfl rfl
  have htv := tV_r hT
  have htk : 0 ≤ tK M ∧ tK M ≤ 4 := tkK_r _ _ _
  refine at_aload_n C 0 dX3_readNumber_0 rfl ?_
  refine at_call_v C (c_X3_nextToken l D G hT hk) (As := []) (obj_Rea G) (ci := 3) rfl qw_356 qw_353 qw_5 qw_355 qp_2 ⟨by decide, by decide, show (parseMethodDescriptor yX3_nextToken.desc).map (fun d => d.parameters.length) = some 0 by decide +kernel⟩ ⟨by decide, by decide⟩ ⟨Nat.zero_le _, Nat.zero_le _⟩ (Nat.le_of_ble_eq_true rfl) dX3_readNumber_1 rfl (fun M' L' hp4 => ?_)
  obtain ⟨rfl, hT1, rfl⟩ := hp4
  have hk2 : rOk (nxM M) := nxM_ok hT hk
  have hb3 := tkK_r (M 196) (rN M) (rP M)
  refine at_aload_n C 0 dX3_readNumber_4 rfl ?_
  refine at_getf (v := .int (sI ((nxM M) 195 5))) C (obj_Rea G) (ci := 3) rfl inX3 (slot := 5) (by decide) qw_157 rfl rfl dX3_readNumber_5 ?_
  have hb5 := tv hT1 (k := 195) (j := 5) rfl
  refine at_ve (b := tK M) (mRd_5 _ _ _ _ _) ?_
  refine at_iconst C dX3_readNumber_8 ?_
  refine at_icmp_ne C 28 dX3_readNumber_9 (by decide) (⟨by omega, by omega⟩) (⟨by omega, by omega⟩) (fun h6 => ?_) (fun h6 => ?_)
  · refine at_iconst C dX3_readNumber_28 ?_
    exact hret _ _ _ _ _ dX3_readNumber_29 (sB_f (fun z => by have z0 := z.1; have z1 := z.2; omega)) ⟨rfl, hT1, rfl⟩
  · refine at_aload_n C 0 dX3_readNumber_12 rfl ?_
    refine at_getf (v := .int (sI ((nxM M) 195 6))) C (obj_Rea G) (ci := 3) rfl inX3 (slot := 6) (by decide) qw_158 rfl rfl dX3_readNumber_13 ?_
    have hb7 := tv hT1 (k := 195) (j := 6) rfl
    refine at_ve (b := tV M) (mRd_6 _ _ _ _ _) ?_
    refine at_iload_n C 1 dX3_readNumber_16 rfl ?_
    refine at_iload_n C 2 dX3_readNumber_17 rfl ?_
    refine at_nest_i C (c_X6_within l D G (tV M) lo hi ⟨by omega, by omega⟩ ⟨by omega, by omega⟩ ⟨by omega, by omega⟩) (As := [.int (sI (tV M)), .int (sI (lo)), .int (sI (hi))]) qw_307 (host := RX6) (List.mem_of_getElem? (i := 4) rfl) qw_1 qw_306 ⟨by decide, by decide, show (parseMethodDescriptor yX6_within.desc).map (fun d => d.parameters.length) = some 3 by decide +kernel⟩ ⟨by decide, by decide⟩ ⟨Nat.zero_le _, Nat.zero_le _⟩ (Nat.le_of_ble_eq_true rfl) dX3_readNumber_18 rfl (fun r M' L' hp8 => ?_)
    obtain ⟨rfl, rfl, rfl⟩ := hp8
    refine at_if_eqB C 28 dX3_readNumber_21 (by decide) (fun h9 => ?_) (fun h9 => ?_)
    · refine at_iconst C dX3_readNumber_28 ?_
      exact hret _ _ _ _ _ dX3_readNumber_29 (sB_f (fun z => by have z0 := z.1; have z1 := z.2; omega)) ⟨rfl, hT1, rfl⟩
    · refine at_iconst C dX3_readNumber_24 ?_
      refine at_goto C 29 dX3_readNumber_25 (by decide) ?_
      exact hret _ _ _ _ _ dX3_readNumber_29 (sB_t (by have z0 : tK M = 2 := (by assumption); exact ⟨z0, by omega⟩)) ⟨rfl, hT1, rfl⟩

set_option maxHeartbeats 4000000 in
set_option maxRecDepth 100000 in
theorem c_X3_readSemicolon (l : Launch) (D : va_G) (G : sG) {M : sM} {L : sL} (hT : TInv M) (hk : rOk M) : sKi l D G yX3_readSemicolon cX3_readSemicolon 1 .boolean 3 60 [.ref (G.1 (195))] M L (fun r M' L' => r = sB (tK M = 3) ∧ (M' = nxM M ∧ TInv M' ∧ L = L')) := by
  refine sKz_go (by decide) (Nat.le_of_ble_eq_true rfl) ?_
  intro zp ze zs zm za zb zt zc Q C hret
  refine at_eq (lv' := [(0, .ref (G.1 (195)))]) (st' := []) (M' := M) (L' := L) ?_ rfl rfl rfl rfl
  refine at_aload_n C 0 dX3_readSemicolon_0 rfl ?_
  refine at_call_v C (c_X3_nextToken l D G hT hk) (As := []) (obj_Rea G) (ci := 3) rfl qw_356 qw_353 qw_5 qw_355 qp_2 ⟨by decide, by decide, show (parseMethodDescriptor yX3_nextToken.desc).map (fun d => d.parameters.length) = some 0 by decide +kernel⟩ ⟨by decide, by decide⟩ ⟨Nat.zero_le _, Nat.zero_le _⟩ (Nat.le_of_ble_eq_true rfl) dX3_readSemicolon_1 rfl (fun M' L' hp4 => ?_)
  obtain ⟨rfl, hT1, rfl⟩ := hp4
  have hk2 : rOk (nxM M) := nxM_ok hT hk
  have hb3 := tkK_r (M 196) (rN M) (rP M)
  refine at_aload_n C 0 dX3_readSemicolon_4 rfl ?_
  refine at_getf (v := .int (sI ((nxM M) 195 5))) C (obj_Rea G) (ci := 3) rfl inX3 (slot := 5) (by decide) qw_157 rfl rfl dX3_readSemicolon_5 ?_
  have hb5 := tv hT1 (k := 195) (j := 5) rfl
  refine at_ve (b := tK M) (mRd_5 _ _ _ _ _) ?_
  have htk : 0 ≤ tK M ∧ tK M ≤ 4 := tkK_r _ _ _
  refine at_iconst C dX3_readSemicolon_8 ?_
  refine at_icmp_ne C 16 dX3_readSemicolon_9 (by decide) (⟨by omega, by omega⟩) (⟨by omega, by omega⟩) (fun h6 => ?_) (fun h6 => ?_)
  · refine at_iconst C dX3_readSemicolon_16 ?_
    exact hret _ _ _ _ _ dX3_readSemicolon_17 (sB_f (by omega)) ⟨rfl, hT1, rfl⟩
  · refine at_iconst C dX3_readSemicolon_12 ?_
    refine at_goto C 17 dX3_readSemicolon_13 (by decide) ?_
    exact hret _ _ _ _ _ dX3_readSemicolon_17 (sB_t (by omega)) ⟨rfl, hT1, rfl⟩

set_option maxHeartbeats 4000000 in
set_option maxRecDepth 100000 in
theorem c_X3_matches (l : Launch) (D : va_G) (G : sG) {M : sM} {L : sL} (i : Nat) (hi : i < 6) (hT : TInv M) (hk : rOk M) (h43 : M 195 4 ≤ M 195 3) : sKi l D G yX3_matches cX3_matches 3 .boolean 4 85 [.ref (G.1 (195)), .ref (G.1 (300 + i))] M L (fun r M' L' => r = sB (wMat M i) ∧ (M = M' ∧ L = L')) := by
  refine sKz_go (by decide) (Nat.le_of_ble_eq_true rfl) ?_
  intro zp ze zs zm za zb zt zc Q C hret
  refine at_eq (lv' := [(0, .ref (G.1 (195))), (1, .ref (G.1 (300 + i)))]) (st' := []) (M' := M) (L' := L) ?_ rfl rfl rfl rfl
  have hrn := rN_r hT
  have h4r : _ ≤ M 195 4 ∧ M 195 4 ≤ _ := tv hT (k := 195) (j := 4) (lo := 0) (hi := 150) rfl
  have h5r : _ ≤ M 195 5 ∧ M 195 5 ≤ _ := tv hT (k := 195) (j := 5) (lo := 0) (hi := 4) rfl
  have h6r : _ ≤ M 195 6 ∧ M 195 6 ≤ _ := tv hT (k := 195) (j := 6) (lo := 0) (hi := 99) rfl
  have h3r : _ ≤ M 195 3 ∧ M 195 3 ≤ _ := tv hT (k := 195) (j := 3) (lo := 0) (hi := 150) rfl
  have hl6 := lenS_r i hi
  refine at_aload_n C 0 dX3_matches_0 rfl ?_
  refine at_getf (v := .int (sI (M 195 3))) C (obj_Rea G) (ci := 3) rfl inX3 (slot := 3) (by decide) qw_154 rfl rfl dX3_matches_1 ?_
  have hb1 : _ ≤ M 195 3 ∧ M 195 3 ≤ _ := tv hT (k := 195) (j := 3) rfl
  refine at_aload_n C 0 dX3_matches_4 rfl ?_
  refine at_getf (v := .int (sI (M 195 4))) C (obj_Rea G) (ci := 3) rfl inX3 (slot := 4) (by decide) qw_156 rfl rfl dX3_matches_5 ?_
  have hb2 : _ ≤ M 195 4 ∧ M 195 4 ≤ _ := tv hT (k := 195) (j := 4) rfl
  refine at_isub C dX3_matches_8 ?_
  refine at_aload_n C 1 dX3_matches_9 rfl ?_
  refine at_word_i C (i := i) hi (c_J0_length_8abf5 l D G i hi) (As := []) rfl qw_383 qw_380 qw_9 qw_381 qw_382 ⟨by decide, by decide, show (parseMethodDescriptor yJ0_length_8abf5.desc).map (fun d => d.parameters.length) = some 0 by decide +kernel⟩ ⟨by decide, by decide⟩ ⟨Nat.zero_le _, Nat.zero_le _⟩ (Nat.le_of_ble_eq_true rfl) dX3_matches_10 rfl (fun r M' L' hp4 => ?_)
  obtain ⟨rfl, rfl, rfl⟩ := hp4
  have hl3 := lenS_r i hi
  refine at_icmp_eq C 18 dX3_matches_13 (by decide) (⟨by omega, by omega⟩) (⟨by omega, by omega⟩) (fun h5 => ?_) (fun h5 => ?_)
  · refine at_iconst C dX3_matches_18 ?_
    refine at_istore_n C [(2, .int (sI (0))), (0, .ref (G.1 (195))), (1, .ref (G.1 (300 + i)))] dX3_matches_19 (by decide) rfl ?_
    have H20 : ∀ (fu : Nat) (k : Nat), lenS.getD i 0 - k < fu → (k ≤ lenS.getD i 0) → (∀ j, j < k → M 196 ((M 195 4).toNat + j) = bytI i j) → sAt zp l ze (sRm 4 85) zs zm za zb zt zc D G 3 0 0 Q 20 [(0, .ref (G.1 (195))), (1, .ref (G.1 (300 + i))), (2, .int (sI ((k : Int))))] [] M L := by
      intro fu
      induction fu with
      | zero => intro k hd hk2 hf; exact absurd hd (Nat.not_lt_zero _)
      | succ fu ih20 =>
        intro k hd20 hk2 hf
        refine at_iload_n C 2 dX3_matches_20 rfl ?_
        refine at_aload_n C 1 dX3_matches_21 rfl ?_
        refine at_word_i C (i := i) hi (c_J0_length_8abf5 l D G i hi) (As := []) rfl qw_383 qw_380 qw_9 qw_381 qw_382 ⟨by decide, by decide, show (parseMethodDescriptor yJ0_length_8abf5.desc).map (fun d => d.parameters.length) = some 0 by decide +kernel⟩ ⟨by decide, by decide⟩ ⟨Nat.zero_le _, Nat.zero_le _⟩ (Nat.le_of_ble_eq_true rfl) dX3_matches_22 rfl (fun r M' L' hp7 => ?_)
        obtain ⟨rfl, rfl, rfl⟩ := hp7
        have hl6 := lenS_r i hi
        refine at_icmp_ge C 55 dX3_matches_25 (by decide) (⟨by omega, by omega⟩) (⟨by omega, by omega⟩) (fun h8 => ?_) (fun h8 => ?_)
        · refine at_iconst C dX3_matches_55 ?_
          exact hret _ _ _ _ _ dX3_matches_56 (sB_t (⟨by omega, fun j hj => hf j (by omega)⟩)) ⟨rfl, rfl⟩
        · refine at_aload_n C 0 dX3_matches_28 rfl ?_
          refine at_getf (v := .ref (G.1 (196))) C (obj_Rea G) (ci := 3) rfl inX3 (slot := 0) (by decide) qw_149 rfl rfl dX3_matches_29 ?_
          refine at_aload_n C 0 dX3_matches_32 rfl ?_
          refine at_getf (v := .int (sI (M 195 4))) C (obj_Rea G) (ci := 3) rfl inX3 (slot := 4) (by decide) qw_156 rfl rfl dX3_matches_33 ?_
          have hb9 : _ ≤ M 195 4 ∧ M 195 4 ≤ _ := tv hT (k := 195) (j := 4) rfl
          refine at_ve (b := (((M 195 4).toNat : Nat) : Int)) (by omega) ?_
          refine at_iload_n C 2 dX3_matches_36 rfl ?_
          refine at_iadd C dX3_matches_37 ?_
          refine at_bald C ((M 195 4).toNat + k) (arB_text G) (by omega) (by omega) dX3_matches_38 ?_
          have hb10 := tv hT (k := 196) (j := ((M 195 4).toNat + k)) rfl
          have htx := tv_tx hT ((M 195 4).toNat + k)
          refine at_aload_n C 1 dX3_matches_39 rfl ?_
          refine at_iload_n C 2 dX3_matches_40 rfl ?_
          refine at_word_i C (i := i) hi (c_J0_charAt_5068e l D G i hi k (by omega)) (As := [.int (sI ((k : Int)))]) rfl qw_393 qw_390 qw_9 qw_391 qw_392 ⟨by decide, by decide, show (parseMethodDescriptor yJ0_charAt_5068e.desc).map (fun d => d.parameters.length) = some 1 by decide +kernel⟩ ⟨by decide, by decide⟩ ⟨Nat.zero_le _, Nat.zero_le _⟩ (Nat.le_of_ble_eq_true rfl) dX3_matches_41 rfl (fun r M' L' hp12 => ?_)
          obtain ⟨rfl, rfl, rfl⟩ := hp12
          have hb11 := bytI_r i hi k (by omega)
          refine at_icmp_eq C 49 dX3_matches_44 (by decide) (⟨by omega, by omega⟩) (⟨by omega, by omega⟩) (fun h13 => ?_) (fun h13 => ?_)
          · refine at_iinc C 2 [(2, .int (sI ((k : Int) + 1))), (0, .ref (G.1 (195))), (1, .ref (G.1 (300 + i)))] dX3_matches_49 rfl (by decide) rfl ?_
            refine at_goto C 20 dX3_matches_52 (by decide) ?_
            refine at_lv [1, 2, 0] rfl ?_
            exact at_eq (ih20 (k + 1) (by omega) (by omega) (fun j hj => by
                rcases Nat.lt_succ_iff_lt_or_eq.mp hj with z | z
                · exact hf j z
                · rw [z]; assumption)) (lvc_s (lvc_s (lvc_i (by omega) rfl))) rfl (rfl) (rfl)
          · refine at_iconst C dX3_matches_47 ?_
            exact hret _ _ _ _ _ dX3_matches_48 (sB_f (fun z => absurd (z.2 k (by omega)) (by assumption))) ⟨rfl, rfl⟩
    refine at_lv [1, 2, 0] rfl ?_
    exact at_eq (H20 _ 0 (Nat.lt_succ_self _) (by omega) (fun j hj => absurd hj (Nat.not_lt_zero _))) (lvc_s (lvc_s (lvc_i (rfl) rfl))) rfl (rfl) (rfl)
  · refine at_iconst C dX3_matches_16 ?_
    exact hret _ _ _ _ _ dX3_matches_17 (sB_f (fun z => by have := z.1; omega)) ⟨rfl, rfl⟩

set_option maxHeartbeats 4000000 in
set_option maxRecDepth 100000 in
theorem c_X3_wordNumber (l : Launch) (D : va_G) (G : sG) {M : sM} {L : sL} (hT : TInv M) (hk : rOk M) (h43 : M 195 4 ≤ M 195 3) : sKi l D G yX3_wordNumber cX3_wordNumber 1 .int 5 107 [.ref (G.1 (195))] M L (fun r M' L' => r = sI (wNo M) ∧ M = M' ∧ L = L') := by
  refine sKi_go (by decide) (Nat.le_of_ble_eq_true rfl) ?_
  intro zp ze zs zm za zb zt zc Q C hret
  refine at_eq (lv' := [(0, .ref (G.1 (195)))]) (st' := []) (M' := M) (L' := L) ?_ rfl rfl rfl rfl
  refine at_aload_n C 0 dX3_wordNumber_0 rfl ?_
  refine at_ldcS (i := 0) C rfl (by decide) rfl dX3_wordNumber_1 ?_
  refine at_call_i C (c_X3_matches l D G 0 (by decide) hT hk h43) (As := [.ref (G.1 (300 + 0))]) (obj_Rea G) (ci := 3) rfl qw_379 qw_376 qw_5 qw_378 qp_6 ⟨by decide, by decide, show (parseMethodDescriptor yX3_matches.desc).map (fun d => d.parameters.length) = some 1 by decide +kernel⟩ ⟨by decide, by decide⟩ ⟨Nat.zero_le _, Nat.zero_le _⟩ (Nat.le_of_ble_eq_true rfl) dX3_wordNumber_3 rfl (fun r M' L' hp1 => ?_)
  obtain ⟨rfl, rfl, rfl⟩ := hp1
  refine at_if_eqB C 11 dX3_wordNumber_6 (by decide) (fun h2 => ?_) (fun h2 => ?_)
  · refine at_aload_n C 0 dX3_wordNumber_11 rfl ?_
    refine at_ldcS (i := 1) C rfl (by decide) rfl dX3_wordNumber_12 ?_
    refine at_call_i C (c_X3_matches l D G 1 (by decide) hT hk h43) (As := [.ref (G.1 (300 + 1))]) (obj_Rea G) (ci := 3) rfl qw_379 qw_376 qw_5 qw_378 qp_6 ⟨by decide, by decide, show (parseMethodDescriptor yX3_matches.desc).map (fun d => d.parameters.length) = some 1 by decide +kernel⟩ ⟨by decide, by decide⟩ ⟨Nat.zero_le _, Nat.zero_le _⟩ (Nat.le_of_ble_eq_true rfl) dX3_wordNumber_14 rfl (fun r M' L' hp3 => ?_)
    obtain ⟨rfl, rfl, rfl⟩ := hp3
    refine at_if_eqB C 22 dX3_wordNumber_17 (by decide) (fun h4 => ?_) (fun h4 => ?_)
    · refine at_aload_n C 0 dX3_wordNumber_22 rfl ?_
      refine at_ldcS (i := 2) C rfl (by decide) rfl dX3_wordNumber_23 ?_
      refine at_call_i C (c_X3_matches l D G 2 (by decide) hT hk h43) (As := [.ref (G.1 (300 + 2))]) (obj_Rea G) (ci := 3) rfl qw_379 qw_376 qw_5 qw_378 qp_6 ⟨by decide, by decide, show (parseMethodDescriptor yX3_matches.desc).map (fun d => d.parameters.length) = some 1 by decide +kernel⟩ ⟨by decide, by decide⟩ ⟨Nat.zero_le _, Nat.zero_le _⟩ (Nat.le_of_ble_eq_true rfl) dX3_wordNumber_25 rfl (fun r M' L' hp5 => ?_)
      obtain ⟨rfl, rfl, rfl⟩ := hp5
      refine at_if_eqB C 33 dX3_wordNumber_28 (by decide) (fun h6 => ?_) (fun h6 => ?_)
      · refine at_aload_n C 0 dX3_wordNumber_33 rfl ?_
        refine at_ldcS (i := 3) C rfl (by decide) rfl dX3_wordNumber_34 ?_
        refine at_call_i C (c_X3_matches l D G 3 (by decide) hT hk h43) (As := [.ref (G.1 (300 + 3))]) (obj_Rea G) (ci := 3) rfl qw_379 qw_376 qw_5 qw_378 qp_6 ⟨by decide, by decide, show (parseMethodDescriptor yX3_matches.desc).map (fun d => d.parameters.length) = some 1 by decide +kernel⟩ ⟨by decide, by decide⟩ ⟨Nat.zero_le _, Nat.zero_le _⟩ (Nat.le_of_ble_eq_true rfl) dX3_wordNumber_36 rfl (fun r M' L' hp7 => ?_)
        obtain ⟨rfl, rfl, rfl⟩ := hp7
        refine at_if_eqB C 44 dX3_wordNumber_39 (by decide) (fun h8 => ?_) (fun h8 => ?_)
        · refine at_aload_n C 0 dX3_wordNumber_44 rfl ?_
          refine at_ldcS (i := 4) C rfl (by decide) rfl dX3_wordNumber_45 ?_
          refine at_call_i C (c_X3_matches l D G 4 (by decide) hT hk h43) (As := [.ref (G.1 (300 + 4))]) (obj_Rea G) (ci := 3) rfl qw_379 qw_376 qw_5 qw_378 qp_6 ⟨by decide, by decide, show (parseMethodDescriptor yX3_matches.desc).map (fun d => d.parameters.length) = some 1 by decide +kernel⟩ ⟨by decide, by decide⟩ ⟨Nat.zero_le _, Nat.zero_le _⟩ (Nat.le_of_ble_eq_true rfl) dX3_wordNumber_47 rfl (fun r M' L' hp9 => ?_)
          obtain ⟨rfl, rfl, rfl⟩ := hp9
          refine at_if_eqB C 55 dX3_wordNumber_50 (by decide) (fun h10 => ?_) (fun h10 => ?_)
          · refine at_aload_n C 0 dX3_wordNumber_55 rfl ?_
            refine at_ldcS (i := 5) C rfl (by decide) rfl dX3_wordNumber_56 ?_
            refine at_call_i C (c_X3_matches l D G 5 (by decide) hT hk h43) (As := [.ref (G.1 (300 + 5))]) (obj_Rea G) (ci := 3) rfl qw_379 qw_376 qw_5 qw_378 qp_6 ⟨by decide, by decide, show (parseMethodDescriptor yX3_matches.desc).map (fun d => d.parameters.length) = some 1 by decide +kernel⟩ ⟨by decide, by decide⟩ ⟨Nat.zero_le _, Nat.zero_le _⟩ (Nat.le_of_ble_eq_true rfl) dX3_wordNumber_58 rfl (fun r M' L' hp11 => ?_)
            obtain ⟨rfl, rfl, rfl⟩ := hp11
            refine at_if_eqB C 68 dX3_wordNumber_61 (by decide) (fun h12 => ?_) (fun h12 => ?_)
            · refine at_iconst C dX3_wordNumber_68 ?_
              exact hret _ _ _ _ _ dX3_wordNumber_69 (⟨congrArg sI (by unfold wNo; rw [if_neg (by assumption), if_neg (by assumption), if_neg (by assumption), if_neg (by assumption), if_neg (by assumption), if_neg (by assumption)]), rfl, rfl⟩)
            · refine at_iconst C dX3_wordNumber_64 ?_
              refine at_goto C 69 dX3_wordNumber_65 (by decide) ?_
              exact hret _ _ _ _ _ dX3_wordNumber_69 (⟨congrArg sI (by unfold wNo; rw [if_neg (by assumption), if_neg (by assumption), if_neg (by assumption), if_neg (by assumption), if_neg (by assumption), if_pos (by assumption)]), rfl, rfl⟩)
          · refine at_iconst C dX3_wordNumber_53 ?_
            exact hret _ _ _ _ _ dX3_wordNumber_54 (⟨congrArg sI (by unfold wNo; rw [if_neg (by assumption), if_neg (by assumption), if_neg (by assumption), if_neg (by assumption), if_pos (by assumption)]), rfl, rfl⟩)
        · refine at_iconst C dX3_wordNumber_42 ?_
          exact hret _ _ _ _ _ dX3_wordNumber_43 (⟨congrArg sI (by unfold wNo; rw [if_neg (by assumption), if_neg (by assumption), if_neg (by assumption), if_pos (by assumption)]), rfl, rfl⟩)
      · refine at_iconst C dX3_wordNumber_31 ?_
        exact hret _ _ _ _ _ dX3_wordNumber_32 (⟨congrArg sI (by unfold wNo; rw [if_neg (by assumption), if_neg (by assumption), if_pos (by assumption)]), rfl, rfl⟩)
    · refine at_iconst C dX3_wordNumber_20 ?_
      exact hret _ _ _ _ _ dX3_wordNumber_21 (⟨congrArg sI (by unfold wNo; rw [if_neg (by assumption), if_pos (by assumption)]), rfl, rfl⟩)
  · refine at_iconst C dX3_wordNumber_9 ?_
    exact hret _ _ _ _ _ dX3_wordNumber_10 (⟨congrArg sI (by unfold wNo; rw [if_pos (by assumption)]), rfl, rfl⟩)
