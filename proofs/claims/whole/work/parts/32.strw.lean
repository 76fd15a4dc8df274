theorem zb_255 {x : Int} (h : 97 ≤ x ∧ x ≤ 122) : sI x &&& sI 255 = sI x := by
  have e : ∀ n : Nat, n < 128 → sI (n : Int) &&& sI 255 = sI (n : Int) := by decide +kernel
  have := e x.toNat (by omega)
  rw [Int.toNat_of_nonneg (by omega)] at this
  exact this
set_option maxHeartbeats 4000000 in
set_option maxRecDepth 100000 in
theorem c_J0_coder_7d493 (l : Launch) (D : va_G) (G : sG) {M : sM} {L : sL} (i : Nat) (hi : i < 6)  : sKi l D G yJ0_coder_7d493 cJ0_coder_7d493 1 .byte 0 0 [.ref (G.1 (300 + i))] M L (fun r M' L' => r = sI (0) ∧ M = M' ∧ L = L') := by
  refine sKn_go (Or.inl rfl) (by decide) (Nat.le_of_ble_eq_true rfl) ?_
  intro zp ze zs zm za zb zt zc Q C hret
  refine at_eq (lv' := [(0, .ref (G.1 (300 + i)))]) (st' := []) (M' := M) (L' := L) ?_ rfl rfl rfl rfl
  refine at_gsC C qw_388 dJ0_coder_7d493_0 ?_
  refine at_if_eq C 13 dJ0_coder_7d493_3 (by decide) (⟨by omega, by omega⟩) (fun h1 => absurd h1 (by omega)) (fun h1 => ?_)
  refine at_aload_n C 0 dJ0_coder_7d493_6 rfl ?_
  refine at_strC C (i := i) hi qw_1431 dJ0_coder_7d493_7 ?_
  refine at_goto C 14 dJ0_coder_7d493_10 (by decide) ?_
  exact hret _ _ _ _ _ dJ0_coder_7d493_14 (by omega) (by omega) (⟨rfl, rfl, rfl⟩)

set_option maxHeartbeats 4000000 in
set_option maxRecDepth 100000 in
theorem c_J0_length_8abf5 (l : Launch) (D : va_G) (G : sG) {M : sM} {L : sL} (i : Nat) (hi : i < 6)  : sKi l D G yJ0_length_8abf5 cJ0_length_8abf5 1 .int 1 20 [.ref (G.1 (300 + i))] M L (fun r M' L' => r = sI (((lenS.getD i 0 : Nat) : Int)) ∧ M = M' ∧ L = L') := by
  refine sKi_go (by decide) (Nat.le_of_ble_eq_true rfl) ?_
  intro zp ze zs zm za zb zt zc Q C hret
  refine at_eq (lv' := [(0, .ref (G.1 (300 + i)))]) (st' := []) (M' := M) (L' := L) ?_ rfl rfl rfl rfl
  have hl6 := lenS_r i hi
  refine at_aload_n C 0 dJ0_length_8abf5_0 rfl ?_
  refine at_strV C (i := i) hi qw_1430 dJ0_length_8abf5_1 ?_
  refine at_strL (i := i) C hi dJ0_length_8abf5_4 ?_
  refine at_aload_n C 0 dJ0_length_8abf5_5 rfl ?_
  refine at_word_i C (i := i) hi (c_J0_coder_7d493 l D G i hi) (As := []) rfl qw_387 qw_384 qw_9 qw_385 qw_386 ⟨by decide, by decide, show (parseMethodDescriptor yJ0_coder_7d493.desc).map (fun d => d.parameters.length) = some 0 by decide +kernel⟩ ⟨by decide, by decide⟩ ⟨Nat.zero_le _, Nat.zero_le _⟩ (Nat.le_of_ble_eq_true rfl) dJ0_length_8abf5_6 rfl (fun r M' L' hp1 => ?_)
  obtain ⟨rfl, rfl, rfl⟩ := hp1
  refine at_ishr C ((((lenS.getD i 0) : Nat) : Int)) dJ0_length_8abf5_9 ((zb_shr (x := lenS.getD i 0) (k := 0) (by omega) (by decide)).trans (by rw [Nat.pow_zero, Nat.div_one])) ?_
  exact hret _ _ _ _ _ dJ0_length_8abf5_10 (⟨rfl, rfl, rfl⟩)

set_option maxHeartbeats 4000000 in
set_option maxRecDepth 100000 in
theorem c_J0_isLatin1_aae02 (l : Launch) (D : va_G) (G : sG) {M : sM} {L : sL} (i : Nat) (hi : i < 6)  : sKi l D G yJ0_isLatin1_aae02 cJ0_isLatin1_aae02 1 .boolean 0 0 [.ref (G.1 (300 + i))] M L (fun r M' L' => r = sB ((0 : Int) = 0) ∧ (M = M' ∧ L = L')) := by
  refine sKz_go (by decide) (Nat.le_of_ble_eq_true rfl) ?_
  intro zp ze zs zm za zb zt zc Q C hret
  refine at_eq (lv' := [(0, .ref (G.1 (300 + i)))]) (st' := []) (M' := M) (L' := L) ?_ rfl rfl rfl rfl
  refine at_gsC C qw_388 dJ0_isLatin1_aae02_0 ?_
  refine at_if_eq C 17 dJ0_isLatin1_aae02_3 (by decide) (⟨by omega, by omega⟩) (fun h1 => absurd h1 (by omega)) (fun h1 => ?_)
  refine at_aload_n C 0 dJ0_isLatin1_aae02_6 rfl ?_
  refine at_strC C (i := i) hi qw_1431 dJ0_isLatin1_aae02_7 ?_
  refine at_if_ne C 17 dJ0_isLatin1_aae02_10 (by decide) (⟨by omega, by omega⟩) (fun h2 => absurd h2 (by omega)) (fun h2 => ?_)
  refine at_iconst C dJ0_isLatin1_aae02_13 ?_
  refine at_goto C 18 dJ0_isLatin1_aae02_14 (by decide) ?_
  exact hret _ _ _ _ _ dJ0_isLatin1_aae02_18 (sB_t (rfl)) ⟨rfl, rfl⟩

set_option maxHeartbeats 4000000 in
set_option maxRecDepth 100000 in
theorem c_J3_checkIndex_8e157 (l : Launch) (D : va_G) (G : sG) {M : sM} {L : sL} (k n q : Nat) (hk : k < n) (hn : n < 1000)  : sKi l D G yJ3_checkIndex_8e157 cJ3_checkIndex_8e157 3 .int 0 0 [.int (sI ((k : Int))), .int (sI ((n : Int))), .ref q] M L (fun r M' L' => r = sI ((k : Int)) ∧ M = M' ∧ L = L') := by
  refine sKi_go (by decide) (Nat.le_of_ble_eq_true rfl) ?_
  intro zp ze zs zm za zb zt zc Q C hret
  refine at_eq (lv' := [(0, .int (sI ((k : Int)))), (1, .int (sI ((n : Int)))), (2, .ref q)]) (st' := []) (M' := M) (L' := L) ?_ rfl rfl rfl rfl
  refine at_iload_n C 0 dJ3_checkIndex_8e157_0 rfl ?_
  refine at_if_lt C 9 dJ3_checkIndex_8e157_1 (by decide) (⟨by omega, by omega⟩) (fun h1 => absurd h1 (by omega)) (fun h1 => ?_)
  refine at_iload_n C 0 dJ3_checkIndex_8e157_4 rfl ?_
  refine at_iload_n C 1 dJ3_checkIndex_8e157_5 rfl ?_
  refine at_icmp_lt C 16 dJ3_checkIndex_8e157_6 (by decide) (⟨by omega, by omega⟩) (⟨by omega, by omega⟩) (fun h2 => ?_) (fun h2 => absurd h2 (by omega))
  refine at_iload_n C 0 dJ3_checkIndex_8e157_16 rfl ?_
  exact hret _ _ _ _ _ dJ3_checkIndex_8e157_17 (⟨rfl, rfl, rfl⟩)

set_option maxHeartbeats 4000000 in
set_option maxRecDepth 100000 in
theorem c_J3_checkIndex_null (l : Launch) (D : va_G) (G : sG) {M : sM} {L : sL} (k n : Nat) (hk : k < n) (hn : n < 1000)  : sKi l D G yJ3_checkIndex_8e157 cJ3_checkIndex_8e157 3 .int 0 0 [.int (sI ((k : Int))), .int (sI ((n : Int))), .null] M L (fun r M' L' => r = sI ((k : Int)) ∧ M = M' ∧ L = L') := by
  refine sKi_go (by decide) (Nat.le_of_ble_eq_true rfl) ?_
  intro zp ze zs zm za zb zt zc Q C hret
  refine at_eq (lv' := [(0, .int (sI ((k : Int)))), (1, .int (sI ((n : Int)))), (2, .null)]) (st' := []) (M' := M) (L' := L) ?_ rfl rfl rfl rfl
  refine at_iload_n C 0 dJ3_checkIndex_8e157_0 rfl ?_
  refine at_if_lt C 9 dJ3_checkIndex_8e157_1 (by decide) (⟨by omega, by omega⟩) (fun h1 => absurd h1 (by omega)) (fun h1 => ?_)
  refine at_iload_n C 0 dJ3_checkIndex_8e157_4 rfl ?_
  refine at_iload_n C 1 dJ3_checkIndex_8e157_5 rfl ?_
  refine at_icmp_lt C 16 dJ3_checkIndex_8e157_6 (by decide) (⟨by omega, by omega⟩) (⟨by omega, by omega⟩) (fun h2 => ?_) (fun h2 => absurd h2 (by omega))
  refine at_iload_n C 0 dJ3_checkIndex_8e157_16 rfl ?_
  exact hret _ _ _ _ _ dJ3_checkIndex_8e157_17 (⟨rfl, rfl, rfl⟩)

set_option maxHeartbeats 4000000 in
set_option maxRecDepth 100000 in
theorem c_J0_checkIndex_df160 (l : Launch) (D : va_G) (G : sG) {M : sM} {L : sL} (k n : Nat) (hk : k < n) (hn : n < 1000)  : sKv l D G yJ0_checkIndex_df160 cJ0_checkIndex_df160 2 1 22 [.int (sI ((k : Int))), .int (sI ((n : Int)))] M L (fun M' L' => M = M' ∧ L = L') := by
  refine sKv_go (by decide) (Nat.le_of_ble_eq_true rfl) ?_
  intro zp ze zs zm za zb zt zc Q C hret
  refine at_eq (lv' := [(0, .int (sI ((k : Int)))), (1, .int (sI ((n : Int))))]) (st' := []) (M' := M) (L' := L) ?_ rfl rfl rfl rfl
  refine at_iload_n C 0 dJ0_checkIndex_df160_0 rfl ?_
  refine at_iload_n C 1 dJ0_checkIndex_df160_1 rfl ?_
  refine at_gsF C qw_404 dJ0_checkIndex_df160_2 ?_ (fun q => ?_)
  · refine at_stat_i C (c_J3_checkIndex_null l D G k n (by omega) (by omega)) (As := [.int (sI ((k : Int))), .int (sI ((n : Int))), .null]) qw_408 qw_406 qw_11 qw_407 ⟨by decide, by decide, show (parseMethodDescriptor yJ3_checkIndex_8e157.desc).map (fun d => d.parameters.length) = some 3 by decide +kernel⟩ ⟨by decide, by decide⟩ ⟨Nat.zero_le _, Nat.zero_le _⟩ (Nat.le_of_ble_eq_true rfl) dJ0_checkIndex_df160_5 rfl (fun r M' L' hp1 => ?_)
    obtain ⟨rfl, rfl, rfl⟩ := hp1
    refine at_pop C dJ0_checkIndex_df160_8 rfl ?_
    exact hret _ _ _ _ dJ0_checkIndex_df160_9 (⟨rfl, rfl⟩)
  · refine at_stat_i C (c_J3_checkIndex_8e157 l D G k n q (by omega) (by omega)) (As := [.int (sI ((k : Int))), .int (sI ((n : Int))), .ref q]) qw_408 qw_406 qw_11 qw_407 ⟨by decide, by decide, show (parseMethodDescriptor yJ3_checkIndex_8e157.desc).map (fun d => d.parameters.length) = some 3 by decide +kernel⟩ ⟨by decide, by decide⟩ ⟨Nat.zero_le _, Nat.zero_le _⟩ (Nat.le_of_ble_eq_true rfl) dJ0_checkIndex_df160_5 rfl (fun r M' L' hp1 => ?_)
    obtain ⟨rfl, rfl, rfl⟩ := hp1
    refine at_pop C dJ0_checkIndex_df160_8 rfl ?_
    exact hret _ _ _ _ dJ0_checkIndex_df160_9 (⟨rfl, rfl⟩)

set_option maxHeartbeats 4000000 in
set_option maxRecDepth 100000 in
theorem c_J1_charAt_3b067 (l : Launch) (D : va_G) (G : sG) {M : sM} {L : sL} (i : Nat) (hi : i < 6) (k : Nat) (hk : k < lenS.getD i 0) : sKi l D G yJ1_charAt_3b067 cJ1_charAt_3b067 2 .char 2 43 [.ref (G.1 (310 + i)), .int (sI ((k : Int)))] M L (fun r M' L' => r = sI (bytI i k) ∧ M = M' ∧ L = L') := by
  refine sKn_go (Or.inr rfl) (by decide) (Nat.le_of_ble_eq_true rfl) ?_
  intro zp ze zs zm za zb zt zc Q C hret
  refine at_eq (lv' := [(0, .ref (G.1 (310 + i))), (1, .int (sI ((k : Int))))]) (st' := []) (M' := M) (L' := L) ?_ rfl rfl rfl rfl
  have hl6 := lenS_r i hi
  have hby0 := bytI_r i hi k hk
  refine at_iload_n C 1 dJ1_charAt_3b067_0 rfl ?_
  refine at_aload_n C 0 dJ1_charAt_3b067_1 rfl ?_
  refine at_strL (i := i) C hi dJ1_charAt_3b067_2 ?_
  refine at_stat_v C (c_J0_checkIndex_df160 l D G k (lenS.getD i 0) (by omega) (by omega)) (As := [.int (sI ((k : Int))), .int (sI ((((lenS.getD i 0) : Nat) : Int)))]) qw_403 qw_401 qw_9 qw_402 ⟨by decide, by decide, show (parseMethodDescriptor yJ0_checkIndex_df160.desc).map (fun d => d.parameters.length) = some 2 by decide +kernel⟩ ⟨by decide, by decide⟩ ⟨Nat.zero_le _, Nat.zero_le _⟩ (Nat.le_of_ble_eq_true rfl) dJ1_charAt_3b067_3 rfl (fun M' L' hp1 => ?_)
  obtain ⟨rfl, rfl⟩ := hp1
  refine at_aload_n C 0 dJ1_charAt_3b067_6 rfl ?_
  refine at_iload_n C 1 dJ1_charAt_3b067_7 rfl ?_
  refine at_strB (i := i) C k hi (rfl) (by omega) dJ1_charAt_3b067_8 ?_
  have hby := bytI_r i hi k (by omega)
  refine at_sipush C dJ1_charAt_3b067_9 (by decide) (by decide) ?_
  refine at_iand C (bytI i k) dJ1_charAt_3b067_12 (zb_255 hby0) ?_
  refine at_i2c C dJ1_charAt_3b067_13 ⟨by omega, by omega⟩ ?_
  exact hret _ _ _ _ _ dJ1_charAt_3b067_14 (by omega) (by omega) (⟨rfl, rfl, rfl⟩)

set_option maxHeartbeats 4000000 in
set_option maxRecDepth 100000 in
theorem c_J0_charAt_5068e (l : Launch) (D : va_G) (G : sG) {M : sM} {L : sL} (i : Nat) (hi : i < 6) (k : Nat) (hk : k < lenS.getD i 0) : sKi l D G yJ0_charAt_5068e cJ0_charAt_5068e 2 .char 3 64 [.ref (G.1 (300 + i)), .int (sI ((k : Int)))] M L (fun r M' L' => r = sI (bytI i k) ∧ M = M' ∧ L = L') := by
  refine sKn_go (Or.inr rfl) (by decide) (Nat.le_of_ble_eq_true rfl) ?_
  intro zp ze zs zm za zb zt zc Q C hret
  refine at_eq (lv' := [(0, .ref (G.1 (300 + i))), (1, .int (sI ((k : Int))))]) (st' := []) (M' := M) (L' := L) ?_ rfl rfl rfl rfl
  refine at_aload_n C 0 dJ0_charAt_5068e_0 rfl ?_
  refine at_word_i C (i := i) hi (c_J0_isLatin1_aae02 l D G i hi) (As := []) rfl qw_397 qw_394 qw_9 qw_395 qw_396 ⟨by decide, by decide, show (parseMethodDescriptor yJ0_isLatin1_aae02.desc).map (fun d => d.parameters.length) = some 0 by decide +kernel⟩ ⟨by decide, by decide⟩ ⟨Nat.zero_le _, Nat.zero_le _⟩ (Nat.le_of_ble_eq_true rfl) dJ0_charAt_5068e_1 rfl (fun r M' L' hp1 => ?_)
  obtain ⟨rfl, rfl, rfl⟩ := hp1
  refine at_if_eqB C 16 dJ0_charAt_5068e_4 (by decide) (fun h2 => absurd h2 (fun z => z rfl)) (fun h2 => ?_)
  refine at_aload_n C 0 dJ0_charAt_5068e_7 rfl ?_
  refine at_strV C (i := i) hi qw_1430 dJ0_charAt_5068e_8 ?_
  refine at_iload_n C 1 dJ0_charAt_5068e_11 rfl ?_
  refine at_stat_i C (c_J1_charAt_3b067 l D G i hi k (by omega)) (As := [.ref (G.1 (310 + i)), .int (sI ((k : Int)))]) qw_400 qw_398 qw_10 qw_399 ⟨by decide, by decide, show (parseMethodDescriptor yJ1_charAt_3b067.desc).map (fun d => d.parameters.length) = some 2 by decide +kernel⟩ ⟨by decide, by decide⟩ ⟨Nat.zero_le _, Nat.zero_le _⟩ (Nat.le_of_ble_eq_true rfl) dJ0_charAt_5068e_12 rfl (fun r M' L' hp4 => ?_)
  obtain ⟨rfl, rfl, rfl⟩ := hp4
  have hb3 := bytI_r i hi k (by omega)
  exact hret _ _ _ _ _ dJ0_charAt_5068e_15 (by omega) (by omega) (⟨rfl, rfl, rfl⟩)
