set_option maxHeartbeats 4000000 in
set_option maxRecDepth 100000 in
theorem c_X7_in (l : Launch) (D : va_G) (G : sG) {M : sM} {L : sL} (a b c : Int) (ha : InR a) (hb : InR b) (hc : InR c) : sKi l D G yX7_in cX7_in 3 .boolean 0 0 [.int (sI (a)), .int (sI (b)), .int (sI (c))] M L (fun r M' L' => r = sB (b ≤ a ∧ a ≤ c) ∧ (M = M' ∧ L = L')) := by
  refine sKz_go (by decide) (Nat.le_of_ble_eq_true rfl) ?_
  intro zp ze zs zm za zb zt zc Q C hret
  refine at_eq (lv' := [(0, .int (sI (a))), (1, .int (sI (b))), (2, .int (sI (c)))]) (st' := []) (M' := M) (L' := L) ?_ rfl rfl rfl rfl
  refine at_iload_n C 0 dX7_in_0 rfl ?_
  refine at_iload_n C 1 dX7_in_1 rfl ?_
  refine at_icmp_lt C 14 dX7_in_2 (by decide) (⟨by omega, by omega⟩) (⟨by omega, by omega⟩) (fun h1 => ?_) (fun h1 => ?_)
  · refine at_iconst C dX7_in_14 ?_
    exact hret _ _ _ _ _ dX7_in_15 (sB_f (by omega)) ⟨rfl, rfl⟩
  · refine at_iload_n C 0 dX7_in_5 rfl ?_
    refine at_iload_n C 2 dX7_in_6 rfl ?_
    refine at_icmp_gt C 14 dX7_in_7 (by decide) (⟨by omega, by omega⟩) (⟨by omega, by omega⟩) (fun h2 => ?_) (fun h2 => ?_)
    · refine at_iconst C dX7_in_14 ?_
      exact hret _ _ _ _ _ dX7_in_15 (sB_f (by omega)) ⟨rfl, rfl⟩
    · refine at_iconst C dX7_in_10 ?_
      refine at_goto C 15 dX7_in_11 (by decide) ?_
      exact hret _ _ _ _ _ dX7_in_15 (sB_t (by omega)) ⟨rfl, rfl⟩

set_option maxHeartbeats 4000000 in
set_option maxRecDepth 100000 in
theorem c_X7_has (l : Launch) (D : va_G) (G : sG) {M : sM} {L : sL} (x k : Nat) (hx : x < 2147483648) (hk : k < 31) : sKi l D G yX7_has cX7_has 2 .boolean 0 0 [.int (sI ((x : Int))), .int (sI ((k : Int)))] M L (fun r M' L' => r = sB (x.testBit k = true) ∧ (M = M' ∧ L = L')) := by
  refine sKz_go (by decide) (Nat.le_of_ble_eq_true rfl) ?_
  intro zp ze zs zm za zb zt zc Q C hret
  refine at_eq (lv' := [(0, .int (sI ((x : Int)))), (1, .int (sI ((k : Int))))]) (st' := []) (M' := M) (L' := L) ?_ rfl rfl rfl rfl
  refine at_iload_n C 0 dX7_has_0 rfl ?_
  refine at_iload_n C 1 dX7_has_1 rfl ?_
  refine at_ishr C ((((x / 2 ^ k) : Nat) : Int)) dX7_has_2 (zb_shr hx (by omega)) ?_
  refine at_iconst C dX7_has_3 ?_
  refine at_iand C ((((x / 2 ^ k % 2) : Nat) : Int)) dX7_has_4 (zb_a1 _) ?_
  refine at_iconst C dX7_has_5 ?_
  refine at_icmp_ne C 13 dX7_has_6 (by decide) (⟨by omega, by omega⟩) (⟨by omega, by omega⟩) (fun h1 => ?_) (fun h1 => ?_)
  · refine at_iconst C dX7_has_13 ?_
    exact hret _ _ _ _ _ dX7_has_14 (sB_f (by rw [zb_test]; omega)) ⟨rfl, rfl⟩
  · refine at_iconst C dX7_has_9 ?_
    refine at_goto C 14 dX7_has_10 (by decide) ?_
    exact hret _ _ _ _ _ dX7_has_14 (sB_t (by rw [zb_test]; omega)) ⟨rfl, rfl⟩

set_option maxHeartbeats 4000000 in
set_option maxRecDepth 100000 in
theorem c_X7_lesser (l : Launch) (D : va_G) (G : sG) {M : sM} {L : sL} (a b : Int) (ha : InR a) (hb : InR b) : sKi l D G yX7_lesser cX7_lesser 2 .int 0 0 [.int (sI (a)), .int (sI (b))] M L (fun r M' L' => r = sI (min a b) ∧ M = M' ∧ L = L') := by
  refine sKi_go (by decide) (Nat.le_of_ble_eq_true rfl) ?_
  intro zp ze zs zm za zb zt zc Q C hret
  refine at_eq (lv' := [(0, .int (sI (a))), (1, .int (sI (b)))]) (st' := []) (M' := M) (L' := L) ?_ rfl rfl rfl rfl
  refine at_iload_n C 0 dX7_lesser_0 rfl ?_
  refine at_iload_n C 1 dX7_lesser_1 rfl ?_
  refine at_icmp_ge C 9 dX7_lesser_2 (by decide) (⟨by omega, by omega⟩) (⟨by omega, by omega⟩) (fun h1 => ?_) (fun h1 => ?_)
  · refine at_iload_n C 1 dX7_lesser_9 rfl ?_
    exact hret _ _ _ _ _ dX7_lesser_10 (⟨congrArg sI (by omega), rfl, rfl⟩)
  · refine at_iload_n C 0 dX7_lesser_5 rfl ?_
    refine at_goto C 10 dX7_lesser_6 (by decide) ?_
    exact hret _ _ _ _ _ dX7_lesser_10 (⟨congrArg sI (by omega), rfl, rfl⟩)

set_option maxHeartbeats 4000000 in
set_option maxRecDepth 100000 in
theorem c_X7_greater (l : Launch) (D : va_G) (G : sG) {M : sM} {L : sL} (a b : Int) (ha : InR a) (hb : InR b) : sKi l D G yX7_greater cX7_greater 2 .int 0 0 [.int (sI (a)), .int (sI (b))] M L (fun r M' L' => r = sI (max a b) ∧ M = M' ∧ L = L') := by
  refine sKi_go (by decide) (Nat.le_of_ble_eq_true rfl) ?_
  intro zp ze zs zm za zb zt zc Q C hret
  refine at_eq (lv' := [(0, .int (sI (a))), (1, .int (sI (b)))]) (st' := []) (M' := M) (L' := L) ?_ rfl rfl rfl rfl
  refine at_iload_n C 0 dX7_greater_0 rfl ?_
  refine at_iload_n C 1 dX7_greater_1 rfl ?_
  refine at_icmp_le C 9 dX7_greater_2 (by decide) (⟨by omega, by omega⟩) (⟨by omega, by omega⟩) (fun h1 => ?_) (fun h1 => ?_)
  · refine at_iload_n C 1 dX7_greater_9 rfl ?_
    exact hret _ _ _ _ _ dX7_greater_10 (⟨congrArg sI (by omega), rfl, rfl⟩)
  · refine at_iload_n C 0 dX7_greater_5 rfl ?_
    refine at_goto C 10 dX7_greater_6 (by decide) ?_
    exact hret _ _ _ _ _ dX7_greater_10 (⟨congrArg sI (by omega), rfl, rfl⟩)

set_option maxHeartbeats 4000000 in
set_option maxRecDepth 100000 in
theorem c_X7_far (l : Launch) (D : va_G) (G : sG) {M : sM} {L : sL} (a : Int) (ha : -1000 ≤ a ∧ a ≤ 1000) : sKi l D G yX7_far cX7_far 1 .int 0 0 [.int (sI (a))] M L (fun r M' L' => r = sI (if 0 ≤ a then a else -a) ∧ M = M' ∧ L = L') := by
  refine sKi_go (by decide) (Nat.le_of_ble_eq_true rfl) ?_
  intro zp ze zs zm za zb zt zc Q C hret
  refine at_eq (lv' := [(0, .int (sI (a)))]) (st' := []) (M' := M) (L' := L) ?_ rfl rfl rfl rfl
  refine at_iload_n C 0 dX7_far_0 rfl ?_
  refine at_if_ge C 9 dX7_far_1 (by decide) (⟨by omega, by omega⟩) (fun h1 => ?_) (fun h1 => ?_)
  · refine at_iload_n C 0 dX7_far_9 rfl ?_
    exact hret _ _ _ _ _ dX7_far_10 (⟨congrArg sI (if_pos (by omega)).symm, rfl, rfl⟩)
  · refine at_iload_n C 0 dX7_far_4 rfl ?_
    refine at_ineg C dX7_far_5 ?_
    refine at_goto C 10 dX7_far_6 (by decide) ?_
    exact hret _ _ _ _ _ dX7_far_10 (⟨congrArg sI (if_neg (by omega)).symm, rfl, rfl⟩)

set_option maxHeartbeats 4000000 in
set_option maxRecDepth 100000 in
theorem c_X7_onShore (l : Launch) (D : va_G) (G : sG) {M : sM} {L : sL} (a : Int) (ha : -1000 ≤ a ∧ a ≤ 1000) : sKi l D G yX7_onShore cX7_onShore 1 .int 0 0 [.int (sI (a))] M L (fun r M' L' => r = sI (max 0 (min 11 a)) ∧ M = M' ∧ L = L') := by
  refine sKi_go (by decide) (Nat.le_of_ble_eq_true rfl) ?_
  intro zp ze zs zm za zb zt zc Q C hret
  refine at_eq (lv' := [(0, .int (sI (a)))]) (st' := []) (M' := M) (L' := L) ?_ rfl rfl rfl rfl
  refine at_iload_n C 0 dX7_onShore_0 rfl ?_
  refine at_if_ge C 8 dX7_onShore_1 (by decide) (⟨by omega, by omega⟩) (fun h1 => ?_) (fun h1 => ?_)
  · refine at_iload_n C 0 dX7_onShore_8 rfl ?_
    refine at_bipush C dX7_onShore_9 (by decide) (by decide) ?_
    refine at_icmp_lt C 19 dX7_onShore_11 (by decide) (⟨by omega, by omega⟩) (⟨by omega, by omega⟩) (fun h2 => ?_) (fun h2 => ?_)
    · refine at_iload_n C 0 dX7_onShore_19 rfl ?_
      exact hret _ _ _ _ _ dX7_onShore_20 (⟨congrArg sI (by omega), rfl, rfl⟩)
    · refine at_bipush C dX7_onShore_14 (by decide) (by decide) ?_
      refine at_goto C 20 dX7_onShore_16 (by decide) ?_
      exact hret _ _ _ _ _ dX7_onShore_20 (⟨congrArg sI (by omega), rfl, rfl⟩)
  · refine at_iconst C dX7_onShore_4 ?_
    refine at_goto C 20 dX7_onShore_5 (by decide) ?_
    exact hret _ _ _ _ _ dX7_onShore_20 (⟨congrArg sI (by omega), rfl, rfl⟩)

set_option maxHeartbeats 4000000 in
set_option maxRecDepth 100000 in
theorem c_X7_isSoul (l : Launch) (D : va_G) (G : sG) {M : sM} {L : sL} (a : Int) (ha : InR a) (hT : TInv M) : sKi l D G yX7_isSoul cX7_isSoul 2 .boolean 1 22 [.ref (G.1 (258)), .int (sI (a))] M L (fun r M' L' => r = sB (0 ≤ a ∧ a < M 258 1) ∧ (M = M' ∧ L = L')) := by
  refine sKz_go (by decide) (Nat.le_of_ble_eq_true rfl) ?_
  intro zp ze zs zm za zb zt zc Q C hret
  refine at_eq (lv' := [(0, .ref (G.1 (258))), (1, .int (sI (a)))]) (st' := []) (M' := M) (L' := L) ?_ rfl rfl rfl rfl
  refine at_iload_n C 1 dX7_isSoul_0 rfl ?_
  refine at_iconst C dX7_isSoul_1 ?_
  refine at_aload_n C 0 dX7_isSoul_2 rfl ?_
  refine at_getf (v := .int (sI (M 258 1))) C (obj_Ref G) (ci := 7) rfl inX7 (slot := 1) (by decide) qw_883 rfl rfl dX7_isSoul_3 ?_
  have hb1 : _ ≤ M 258 1 ∧ M 258 1 ≤ _ := tv hT (k := 258) (j := 1) rfl
  refine at_iconst C dX7_isSoul_6 ?_
  refine at_isub C dX7_isSoul_7 ?_
  refine at_stat_i C (c_X7_in l D G a 0 ((M 258 1) - 1) ⟨by omega, by omega⟩ ⟨by omega, by omega⟩ ⟨by omega, by omega⟩) (As := [.int (sI (a)), .int (sI (0)), .int (sI ((M 258 1) - 1))]) qw_1004 qw_1002 qw_8 qw_1003 ⟨by decide, by decide, show (parseMethodDescriptor yX7_in.desc).map (fun d => d.parameters.length) = some 3 by decide +kernel⟩ ⟨by decide, by decide⟩ ⟨Nat.zero_le _, Nat.zero_le _⟩ (Nat.le_of_ble_eq_true rfl) dX7_isSoul_8 rfl (fun r M' L' hp2 => ?_)
  obtain ⟨rfl, rfl, rfl⟩ := hp2
  exact hret _ _ _ _ _ dX7_isSoul_11 (sB_c (by omega)) ⟨rfl, rfl⟩

set_option maxHeartbeats 4000000 in
set_option maxRecDepth 100000 in
theorem c_X7_isCaller (l : Launch) (D : va_G) (G : sG) {M : sM} {L : sL} (a : Int) (ha : InR a) (hT : TInv M) : sKi l D G yX7_isCaller cX7_isCaller 2 .boolean 1 22 [.ref (G.1 (258)), .int (sI (a))] M L (fun r M' L' => r = sB (0 ≤ a ∧ a < M 258 2) ∧ (M = M' ∧ L = L')) := by
  refine sKz_go (by decide) (Nat.le_of_ble_eq_true rfl) ?_
  intro zp ze zs zm za zb zt zc Q C hret
  refine at_eq (lv' := [(0, .ref (G.1 (258))), (1, .int (sI (a)))]) (st' := []) (M' := M) (L' := L) ?_ rfl rfl rfl rfl
  refine at_iload_n C 1 dX7_isCaller_0 rfl ?_
  refine at_iconst C dX7_isCaller_1 ?_
  refine at_aload_n C 0 dX7_isCaller_2 rfl ?_
  refine at_getf (v := .int (sI (M 258 2))) C (obj_Ref G) (ci := 7) rfl inX7 (slot := 2) (by decide) qw_884 rfl rfl dX7_isCaller_3 ?_
  have hb1 : _ ≤ M 258 2 ∧ M 258 2 ≤ _ := tv hT (k := 258) (j := 2) rfl
  refine at_iconst C dX7_isCaller_6 ?_
  refine at_isub C dX7_isCaller_7 ?_
  refine at_stat_i C (c_X7_in l D G a 0 ((M 258 2) - 1) ⟨by omega, by omega⟩ ⟨by omega, by omega⟩ ⟨by omega, by omega⟩) (As := [.int (sI (a)), .int (sI (0)), .int (sI ((M 258 2) - 1))]) qw_1004 qw_1002 qw_8 qw_1003 ⟨by decide, by decide, show (parseMethodDescriptor yX7_in.desc).map (fun d => d.parameters.length) = some 3 by decide +kernel⟩ ⟨by decide, by decide⟩ ⟨Nat.zero_le _, Nat.zero_le _⟩ (Nat.le_of_ble_eq_true rfl) dX7_isCaller_8 rfl (fun r M' L' hp2 => ?_)
  obtain ⟨rfl, rfl, rfl⟩ := hp2
  exact hret _ _ _ _ _ dX7_isCaller_11 (sB_c (by omega)) ⟨rfl, rfl⟩

set_option maxHeartbeats 4000000 in
set_option maxRecDepth 100000 in
theorem c_X7_isCell (l : Launch) (D : va_G) (G : sG) {M : sM} {L : sL} (a : Int) (ha : InR a)  : sKi l D G yX7_isCell cX7_isCell 1 .boolean 1 22 [.int (sI (a))] M L (fun r M' L' => r = sB (0 ≤ a ∧ a ≤ 11) ∧ (M = M' ∧ L = L')) := by
  refine sKz_go (by decide) (Nat.le_of_ble_eq_true rfl) ?_
  intro zp ze zs zm za zb zt zc Q C hret
  refine at_eq (lv' := [(0, .int (sI (a)))]) (st' := []) (M' := M) (L' := L) ?_ rfl rfl rfl rfl
  refine at_iload_n C 0 dX7_isCell_0 rfl ?_
  refine at_iconst C dX7_isCell_1 ?_
  refine at_bipush C dX7_isCell_2 (by decide) (by decide) ?_
  refine at_stat_i C (c_X7_in l D G a 0 11 ⟨by omega, by omega⟩ ⟨by omega, by omega⟩ ⟨by omega, by omega⟩) (As := [.int (sI (a)), .int (sI (0)), .int (sI (11))]) qw_1004 qw_1002 qw_8 qw_1003 ⟨by decide, by decide, show (parseMethodDescriptor yX7_in.desc).map (fun d => d.parameters.length) = some 3 by decide +kernel⟩ ⟨by decide, by decide⟩ ⟨Nat.zero_le _, Nat.zero_le _⟩ (Nat.le_of_ble_eq_true rfl) dX7_isCell_4 rfl (fun r M' L' hp1 => ?_)
  obtain ⟨rfl, rfl, rfl⟩ := hp1
  exact hret _ _ _ _ _ dX7_isCell_7 (sB_c (by omega)) ⟨rfl, rfl⟩

set_option maxHeartbeats 4000000 in
set_option maxRecDepth 100000 in
theorem c_X7_isLetter (l : Launch) (D : va_G) (G : sG) {M : sM} {L : sL} (x : Int) (hx : 0 ≤ x ∧ x ≤ 127) : sKi l D G yX7_isLetter cX7_isLetter 1 .boolean 1 22 [.int (sI (x))] M L (fun r M' L' => r = sB (isLet x) ∧ (M = M' ∧ L = L')) := by
  refine sKz_go (by decide) (Nat.le_of_ble_eq_true rfl) ?_
  intro zp ze zs zm za zb zt zc Q C hret
  refine at_eq (lv' := [(0, .int (sI (x)))]) (st' := []) (M' := M) (L' := L) ?_ rfl rfl rfl rfl
  refine at_iload_n C 0 dX7_isLetter_0 rfl ?_
  refine at_bipush C dX7_isLetter_1 (by decide) (by decide) ?_
  refine at_bipush C dX7_isLetter_3 (by decide) (by decide) ?_
  refine at_stat_i C (c_X7_in l D G x 97 122 ⟨by omega, by omega⟩ ⟨by omega, by omega⟩ ⟨by omega, by omega⟩) (As := [.int (sI (x)), .int (sI (97)), .int (sI (122))]) qw_1004 qw_1002 qw_8 qw_1003 ⟨by decide, by decide, show (parseMethodDescriptor yX7_in.desc).map (fun d => d.parameters.length) = some 3 by decide +kernel⟩ ⟨by decide, by decide⟩ ⟨Nat.zero_le _, Nat.zero_le _⟩ (Nat.le_of_ble_eq_true rfl) dX7_isLetter_5 rfl (fun r M' L' hp1 => ?_)
  obtain ⟨rfl, rfl, rfl⟩ := hp1
  exact hret _ _ _ _ _ dX7_isLetter_8 (sB_c (by unfold isLet; omega)) ⟨rfl, rfl⟩

set_option maxHeartbeats 4000000 in
set_option maxRecDepth 100000 in
theorem c_X7_isFigure (l : Launch) (D : va_G) (G : sG) {M : sM} {L : sL} (x : Int) (hx : 0 ≤ x ∧ x ≤ 127) : sKi l D G yX7_isFigure cX7_isFigure 1 .boolean 1 22 [.int (sI (x))] M L (fun r M' L' => r = sB (isFig x) ∧ (M = M' ∧ L = L')) := by
  refine sKz_go (by decide) (Nat.le_of_ble_eq_true rfl) ?_
  intro zp ze zs zm za zb zt zc Q C hret
  refine at_eq (lv' := [(0, .int (sI (x)))]) (st' := []) (M' := M) (L' := L) ?_ rfl rfl rfl rfl
  refine at_iload_n C 0 dX7_isFigure_0 rfl ?_
  refine at_bipush C dX7_isFigure_1 (by decide) (by decide) ?_
  refine at_bipush C dX7_isFigure_3 (by decide) (by decide) ?_
  refine at_stat_i C (c_X7_in l D G x 48 57 ⟨by omega, by omega⟩ ⟨by omega, by omega⟩ ⟨by omega, by omega⟩) (As := [.int (sI (x)), .int (sI (48)), .int (sI (57))]) qw_1004 qw_1002 qw_8 qw_1003 ⟨by decide, by decide, show (parseMethodDescriptor yX7_in.desc).map (fun d => d.parameters.length) = some 3 by decide +kernel⟩ ⟨by decide, by decide⟩ ⟨Nat.zero_le _, Nat.zero_le _⟩ (Nat.le_of_ble_eq_true rfl) dX7_isFigure_5 rfl (fun r M' L' hp1 => ?_)
  obtain ⟨rfl, rfl, rfl⟩ := hp1
  exact hret _ _ _ _ _ dX7_isFigure_8 (sB_c (by unfold isFig; omega)) ⟨rfl, rfl⟩

set_option maxHeartbeats 4000000 in
set_option maxRecDepth 100000 in
theorem c_X7_weighsBy (l : Launch) (D : va_G) (G : sG) {M : sM} {L : sL} (k w d : Int) (hk : 0 ≤ k ∧ k ≤ 5) (hw : 0 ≤ w ∧ w ≤ 99) (hd : 0 ≤ d ∧ d ≤ 99) : sKi l D G yX7_weighsBy cX7_weighsBy 4 .int 1 21 [.int (sI (k)), .int (sI (w)), .int (sI (d))] M L (fun r M' L' => r = sI (wgh k w d) ∧ M = M' ∧ L = L') := by
  refine sKi_go (by decide) (Nat.le_of_ble_eq_true rfl) ?_
  intro zp ze zs zm za zb zt zc Q C hret
  refine at_eq (lv' := [(0, .int (sI (k))), (1, .int (sI (w))), (2, .int (sI (d)))]) (st' := []) (M' := M) (L' := L) ?_ rfl rfl rfl rfl
  refine at_iload_n C 1 dX7_weighsBy_0 rfl ?_
  refine at_iconst C dX7_weighsBy_1 ?_
  refine at_iadd C dX7_weighsBy_2 ?_
  refine at_iconst C dX7_weighsBy_3 ?_
  refine at_idiv C dX7_weighsBy_4 (by omega) (by omega) (by omega) (by omega) ?_
  refine at_istore_n C [(3, .int (sI ((w + 1) / 2))), (0, .int (sI (k))), (1, .int (sI (w))), (2, .int (sI (d)))] dX7_weighsBy_5 (by decide) rfl ?_
  refine at_iload_n C 1 dX7_weighsBy_6 rfl ?_
  by_cases hs1 : k = 1
  · refine at_tsw C dX7_weighsBy_7 (⟨by omega, by omega⟩) 40 (Or.inr ⟨by omega, by omega, 33, by rw [hs1]; rfl, by decide⟩) ?_
    refine at_iload_n C 2 dX7_weighsBy_40 rfl ?_
    refine at_iconst C dX7_weighsBy_41 ?_
    refine at_iadd C dX7_weighsBy_42 ?_
    exact hret _ _ _ _ _ dX7_weighsBy_43 (⟨congrArg sI (by unfold wgh; repeat' split; all_goals omega), rfl, rfl⟩)
  by_cases hs2 : k = 2
  · refine at_tsw C dX7_weighsBy_7 (⟨by omega, by omega⟩) 44 (Or.inr ⟨by omega, by omega, 37, by rw [hs2]; rfl, by decide⟩) ?_
    refine at_iload_n C 0 dX7_weighsBy_44 rfl ?_
    exact hret _ _ _ _ _ dX7_weighsBy_45 (⟨congrArg sI (by unfold wgh; repeat' split; all_goals omega), rfl, rfl⟩)
  by_cases hs3 : k = 3
  · refine at_tsw C dX7_weighsBy_7 (⟨by omega, by omega⟩) 46 (Or.inr ⟨by omega, by omega, 39, by rw [hs3]; rfl, by decide⟩) ?_
    refine at_iload_n C 3 dX7_weighsBy_46 rfl ?_
    refine at_iconst C dX7_weighsBy_47 ?_
    refine at_icmp_lt C 59 dX7_weighsBy_48 (by decide) (⟨by omega, by omega⟩) (⟨by omega, by omega⟩) (fun h4 => ?_) (fun h4 => ?_)
    · refine at_iload_n C 2 dX7_weighsBy_59 rfl ?_
      refine at_iconst C dX7_weighsBy_60 ?_
      refine at_iadd C dX7_weighsBy_61 ?_
      exact hret _ _ _ _ _ dX7_weighsBy_62 (⟨congrArg sI (by unfold wgh; repeat' split; all_goals omega), rfl, rfl⟩)
    · refine at_iconst C dX7_weighsBy_51 ?_
      refine at_iload_n C 2 dX7_weighsBy_52 rfl ?_
      refine at_iconst C dX7_weighsBy_53 ?_
      refine at_iadd C dX7_weighsBy_54 ?_
      refine at_imul C dX7_weighsBy_55 ?_
      refine at_goto C 62 dX7_weighsBy_56 (by decide) ?_
      exact hret _ _ _ _ _ dX7_weighsBy_62 (⟨congrArg sI (by unfold wgh; repeat' split; all_goals omega), rfl, rfl⟩)
  by_cases hs5 : k = 4
  · refine at_tsw C dX7_weighsBy_7 (⟨by omega, by omega⟩) 63 (Or.inr ⟨by omega, by omega, 56, by rw [hs5]; rfl, by decide⟩) ?_
    refine at_iload_n C 3 dX7_weighsBy_63 rfl ?_
    refine at_iconst C dX7_weighsBy_64 ?_
    refine at_icmp_lt C 72 dX7_weighsBy_65 (by decide) (⟨by omega, by omega⟩) (⟨by omega, by omega⟩) (fun h6 => ?_) (fun h6 => ?_)
    · refine at_iload_n C 0 dX7_weighsBy_72 rfl ?_
      exact hret _ _ _ _ _ dX7_weighsBy_73 (⟨congrArg sI (by unfold wgh; repeat' split; all_goals omega), rfl, rfl⟩)
    · refine at_iconst C dX7_weighsBy_68 ?_
      refine at_goto C 73 dX7_weighsBy_69 (by decide) ?_
      exact hret _ _ _ _ _ dX7_weighsBy_73 (⟨congrArg sI (by unfold wgh; repeat' split; all_goals omega), rfl, rfl⟩)
  by_cases hs7 : k = 5
  · refine at_tsw C dX7_weighsBy_7 (⟨by omega, by omega⟩) 74 (Or.inr ⟨by omega, by omega, 67, by rw [hs7]; rfl, by decide⟩) ?_
    refine at_iload_n C 2 dX7_weighsBy_74 rfl ?_
    refine at_iconst C dX7_weighsBy_75 ?_
    refine at_iconst C dX7_weighsBy_76 ?_
    refine at_iload_n C 3 dX7_weighsBy_77 rfl ?_
    refine at_isub C dX7_weighsBy_78 ?_
    refine at_stat_i C (c_X7_greater l D G 0 (3 - d) ⟨by omega, by omega⟩ ⟨by omega, by omega⟩) (As := [.int (sI (0)), .int (sI (3 - d))]) qw_1166 qw_1164 qw_8 qw_1165 ⟨by decide, by decide, show (parseMethodDescriptor yX7_greater.desc).map (fun d => d.parameters.length) = some 2 by decide +kernel⟩ ⟨by decide, by decide⟩ ⟨Nat.zero_le _, Nat.zero_le _⟩ (Nat.le_of_ble_eq_true rfl) dX7_weighsBy_79 rfl (fun r M' L' hp8 => ?_)
    obtain ⟨rfl, rfl, rfl⟩ := hp8
    refine at_iadd C dX7_weighsBy_82 ?_
    exact hret _ _ _ _ _ dX7_weighsBy_83 (⟨congrArg sI (by unfold wgh; repeat' split; all_goals omega), rfl, rfl⟩)
  refine at_tsw C dX7_weighsBy_7 (⟨by omega, by omega⟩) 84 (Or.inl ⟨by omega, by decide⟩) ?_
  refine at_iload_n C 2 dX7_weighsBy_84 rfl ?_
  exact hret _ _ _ _ _ dX7_weighsBy_85 (⟨congrArg sI (by unfold wgh; repeat' split; all_goals omega), rfl, rfl⟩)

set_option maxHeartbeats 4000000 in
set_option maxRecDepth 100000 in
theorem c_X7_feelsBy (l : Launch) (D : va_G) (G : sG) {M : sM} {L : sL} (k x : Int) (hk : 0 ≤ k ∧ k ≤ 5) (hx : 0 ≤ x ∧ x ≤ 99) : sKi l D G yX7_feelsBy cX7_feelsBy 4 .int 1 21 [.int (sI (k)), .int (sI (x))] M L (fun r M' L' => r = sI (hvy k x) ∧ M = M' ∧ L = L') := by
  refine sKi_go (by decide) (Nat.le_of_ble_eq_true rfl) ?_
  intro zp ze zs zm za zb zt zc Q C hret
  refine at_eq (lv' := [(0, .int (sI (k))), (1, .int (sI (x)))]) (st' := []) (M' := M) (L' := L) ?_ rfl rfl rfl rfl
  refine at_iload_n C 1 dX7_feelsBy_0 rfl ?_
  refine at_iload_n C 1 dX7_feelsBy_1 rfl ?_
  refine at_iconst C dX7_feelsBy_2 ?_
  refine at_irem C dX7_feelsBy_3 (by omega) (by omega) (by omega) (by omega) ?_
  refine at_isub C dX7_feelsBy_4 ?_
  refine at_istore_n C [(2, .int (sI (x - (x % 2)))), (0, .int (sI (k))), (1, .int (sI (x)))] dX7_feelsBy_5 (by decide) rfl ?_
  refine at_iconst C dX7_feelsBy_6 ?_
  refine at_iload_n C 2 dX7_feelsBy_7 rfl ?_
  refine at_stat_i C (c_X7_lesser l D G 5 x ⟨by omega, by omega⟩ ⟨by omega, by omega⟩) (As := [.int (sI (5)), .int (sI (x))]) qw_1132 qw_1130 qw_8 qw_1131 ⟨by decide, by decide, show (parseMethodDescriptor yX7_lesser.desc).map (fun d => d.parameters.length) = some 2 by decide +kernel⟩ ⟨by decide, by decide⟩ ⟨Nat.zero_le _, Nat.zero_le _⟩ (Nat.le_of_ble_eq_true rfl) dX7_feelsBy_8 rfl (fun r M' L' hp1 => ?_)
  obtain ⟨rfl, rfl, rfl⟩ := hp1
  refine at_istore_n C [(3, .int (sI (min 5 x))), (2, .int (sI (x - (x % 2)))), (0, .int (sI (k))), (1, .int (sI (x)))] dX7_feelsBy_11 (by decide) rfl ?_
  refine at_iload_n C 2 dX7_feelsBy_12 rfl ?_
  by_cases hs2 : k = 1
  · refine at_tsw C dX7_feelsBy_13 (⟨by omega, by omega⟩) 48 (Or.inr ⟨by omega, by omega, 35, by rw [hs2]; rfl, by decide⟩) ?_
    refine at_iload_n C 1 dX7_feelsBy_48 rfl ?_
    exact hret _ _ _ _ _ dX7_feelsBy_49 (⟨congrArg sI (by unfold hvy; repeat' split; all_goals omega), rfl, rfl⟩)
  by_cases hs3 : k = 2
  · refine at_tsw C dX7_feelsBy_13 (⟨by omega, by omega⟩) 50 (Or.inr ⟨by omega, by omega, 37, by rw [hs3]; rfl, by decide⟩) ?_
    refine at_iload_n C 0 dX7_feelsBy_50 rfl ?_
    exact hret _ _ _ _ _ dX7_feelsBy_51 (⟨congrArg sI (by unfold hvy; repeat' split; all_goals omega), rfl, rfl⟩)
  by_cases hs4 : k = 3
  · refine at_tsw C dX7_feelsBy_13 (⟨by omega, by omega⟩) 52 (Or.inr ⟨by omega, by omega, 39, by rw [hs4]; rfl, by decide⟩) ?_
    refine at_iload_n C 1 dX7_feelsBy_52 rfl ?_
    refine at_iconst C dX7_feelsBy_53 ?_
    refine at_iadd C dX7_feelsBy_54 ?_
    exact hret _ _ _ _ _ dX7_feelsBy_55 (⟨congrArg sI (by unfold hvy; repeat' split; all_goals omega), rfl, rfl⟩)
  by_cases hs5 : k = 4
  · refine at_tsw C dX7_feelsBy_13 (⟨by omega, by omega⟩) 56 (Or.inr ⟨by omega, by omega, 43, by rw [hs5]; rfl, by decide⟩) ?_
    refine at_iconst C dX7_feelsBy_56 ?_
    refine at_iload_n C 3 dX7_feelsBy_57 rfl ?_
    refine at_imul C dX7_feelsBy_58 ?_
    exact hret _ _ _ _ _ dX7_feelsBy_59 (⟨congrArg sI (by unfold hvy; repeat' split; all_goals omega), rfl, rfl⟩)
  by_cases hs6 : k = 5
  · refine at_tsw C dX7_feelsBy_13 (⟨by omega, by omega⟩) 60 (Or.inr ⟨by omega, by omega, 47, by rw [hs6]; rfl, by decide⟩) ?_
    refine at_iconst C dX7_feelsBy_60 ?_
    refine at_iload_n C 0 dX7_feelsBy_61 rfl ?_
    refine at_iconst C dX7_feelsBy_62 ?_
    refine at_isub C dX7_feelsBy_63 ?_
    refine at_stat_i C (c_X7_greater l D G 0 ((min 5 x) - 1) ⟨by omega, by omega⟩ ⟨by omega, by omega⟩) (As := [.int (sI (0)), .int (sI ((min 5 x) - 1))]) qw_1166 qw_1164 qw_8 qw_1165 ⟨by decide, by decide, show (parseMethodDescriptor yX7_greater.desc).map (fun d => d.parameters.length) = some 2 by decide +kernel⟩ ⟨by decide, by decide⟩ ⟨Nat.zero_le _, Nat.zero_le _⟩ (Nat.le_of_ble_eq_true rfl) dX7_feelsBy_64 rfl (fun r M' L' hp7 => ?_)
    obtain ⟨rfl, rfl, rfl⟩ := hp7
    exact hret _ _ _ _ _ dX7_feelsBy_67 (⟨congrArg sI (by unfold hvy; repeat' split; all_goals omega), rfl, rfl⟩)
  refine at_tsw C dX7_feelsBy_13 (⟨by omega, by omega⟩) 68 (Or.inl ⟨by omega, by decide⟩) ?_
  refine at_iload_n C 3 dX7_feelsBy_68 rfl ?_
  exact hret _ _ _ _ _ dX7_feelsBy_69 (⟨congrArg sI (by unfold hvy; repeat' split; all_goals omega), rfl, rfl⟩)

set_option maxHeartbeats 4000000 in
set_option maxRecDepth 100000 in
theorem c_X7_weighs (l : Launch) (D : va_G) (G : sG) {M : sM} {L : sL} (s : Nat) (hs : s < 6) (hT : TInv M) : sKi l D G yX7_weighs cX7_weighs 2 .int 2 44 [.ref (G.1 (258)), .int (sI ((s : Int)))] M L (fun r M' L' => r = sI (qWei M s) ∧ M = M' ∧ L = L') := by
  refine sKi_go (by decide) (Nat.le_of_ble_eq_true rfl) ?_
  intro zp ze zs zm za zb zt zc Q C hret
  refine at_eq (lv' := [(0, .ref (G.1 (258))), (1, .int (sI ((s : Int))))]) (st' := []) (M' := M) (L' := L) ?_ rfl rfl rfl rfl
  refine at_aload_n C 0 dX7_weighs_0 rfl ?_
  refine at_getf (v := .ref (G.1 (261))) C (obj_Ref G) (ci := 7) rfl inX7 (slot := 9) (by decide) qw_891 rfl rfl dX7_weighs_1 ?_
  refine at_iload_n C 1 dX7_weighs_4 rfl ?_
  refine at_iald C s (ar_261 G) (rfl) (by omega) dX7_weighs_5 ?_
  have hb1 : _ ≤ M 261 s ∧ M 261 s ≤ _ := tv hT (k := 261) (j := s) rfl
  refine at_aload_n C 0 dX7_weighs_6 rfl ?_
  refine at_getf (v := .ref (G.1 (262))) C (obj_Ref G) (ci := 7) rfl inX7 (slot := 10) (by decide) qw_892 rfl rfl dX7_weighs_7 ?_
  refine at_iload_n C 1 dX7_weighs_10 rfl ?_
  refine at_iald C s (ar_262 G) (rfl) (by omega) dX7_weighs_11 ?_
  have hb2 : _ ≤ M 262 s ∧ M 262 s ≤ _ := tv hT (k := 262) (j := s) rfl
  refine at_aload_n C 0 dX7_weighs_12 rfl ?_
  refine at_getf (v := .ref (G.1 (265))) C (obj_Ref G) (ci := 7) rfl inX7 (slot := 13) (by decide) qw_895 rfl rfl dX7_weighs_13 ?_
  refine at_iload_n C 1 dX7_weighs_16 rfl ?_
  refine at_iald C s (ar_265 G) (rfl) (by omega) dX7_weighs_17 ?_
  have hb3 : _ ≤ M 265 s ∧ M 265 s ≤ _ := tv hT (k := 265) (j := s) rfl
  refine at_stat_i C (c_X7_weighsBy l D G (M 261 s) (M 262 s) (M 265 s) ⟨by omega, by omega⟩ ⟨by omega, by omega⟩ ⟨by omega, by omega⟩) (As := [.int (sI (M 261 s)), .int (sI (M 262 s)), .int (sI (M 265 s))]) qw_1163 qw_1161 qw_8 qw_1162 ⟨by decide, by decide, show (parseMethodDescriptor yX7_weighsBy.desc).map (fun d => d.parameters.length) = some 3 by decide +kernel⟩ ⟨by decide, by decide⟩ ⟨Nat.zero_le _, Nat.zero_le _⟩ (Nat.le_of_ble_eq_true rfl) dX7_weighs_18 rfl (fun r M' L' hp5 => ?_)
  obtain ⟨rfl, rfl, rfl⟩ := hp5
  have hb4 := wgh_b (k := M 261 s) (w := M 262 s) (d := M 265 s) (by omega) (by omega)
  exact hret _ _ _ _ _ dX7_weighs_21 (⟨rfl, rfl, rfl⟩)

set_option maxHeartbeats 4000000 in
set_option maxRecDepth 100000 in
theorem c_X7_feltBy (l : Launch) (D : va_G) (G : sG) {M : sM} {L : sL} (s : Nat) (hs : s < 6) (i : Nat) (hi : i < 6) (hT : TInv M) : sKi l D G yX7_feltBy cX7_feltBy 3 .int 3 65 [.ref (G.1 (258)), .int (sI ((s : Int))), .int (sI ((i : Int)))] M L (fun r M' L' => r = sI (qFel M s i) ∧ M = M' ∧ L = L') := by
  refine sKi_go (by decide) (Nat.le_of_ble_eq_true rfl) ?_
  intro zp ze zs zm za zb zt zc Q C hret
  refine at_eq (lv' := [(0, .ref (G.1 (258))), (1, .int (sI ((s : Int)))), (2, .int (sI ((i : Int))))]) (st' := []) (M' := M) (L' := L) ?_ rfl rfl rfl rfl
  refine at_aload_n C 0 dX7_feltBy_0 rfl ?_
  refine at_getf (v := .ref (G.1 (266))) C (obj_Ref G) (ci := 7) rfl inX7 (slot := 14) (by decide) qw_896 rfl rfl dX7_feltBy_1 ?_
  refine at_iload_n C 2 dX7_feltBy_4 rfl ?_
  refine at_iald C i (ar_266 G) (rfl) (by omega) dX7_feltBy_5 ?_
  have hb1 : _ ≤ M 266 i ∧ M 266 i ≤ _ := tv hT (k := 266) (j := i) rfl
  refine at_aload_n C 0 dX7_feltBy_6 rfl ?_
  refine at_iload_n C 1 dX7_feltBy_7 rfl ?_
  refine at_call_i C (c_X7_weighs l D G s (by omega) hT) (As := [.int (sI ((s : Int)))]) (obj_Ref G) (ci := 7) rfl qw_1160 qw_1157 qw_8 qw_1159 qp_63 ⟨by decide, by decide, show (parseMethodDescriptor yX7_weighs.desc).map (fun d => d.parameters.length) = some 1 by decide +kernel⟩ ⟨by decide, by decide⟩ ⟨Nat.zero_le _, Nat.zero_le _⟩ (Nat.le_of_ble_eq_true rfl) dX7_feltBy_8 rfl (fun r M' L' hp3 => ?_)
  obtain ⟨rfl, rfl, rfl⟩ := hp3
  have hb2 := qWei_r hT s
  refine at_stat_i C (c_X7_feelsBy l D G (M 266 i) (qWei M s) ⟨by omega, by omega⟩ ⟨by omega, by omega⟩) (As := [.int (sI (M 266 i)), .int (sI (qWei M s))]) qw_1169 qw_1167 qw_8 qw_1168 ⟨by decide, by decide, show (parseMethodDescriptor yX7_feelsBy.desc).map (fun d => d.parameters.length) = some 2 by decide +kernel⟩ ⟨by decide, by decide⟩ ⟨Nat.zero_le _, Nat.zero_le _⟩ (Nat.le_of_ble_eq_true rfl) dX7_feltBy_11 rfl (fun r M' L' hp5 => ?_)
  obtain ⟨rfl, rfl, rfl⟩ := hp5
  have hb4 := hvy_b (k := M 266 i) (x := qWei M s) (by omega)
  exact hret _ _ _ _ _ dX7_feltBy_14 (⟨rfl, rfl, rfl⟩)

set_option maxHeartbeats 4000000 in
set_option maxRecDepth 100000 in
theorem c_X7_looksFor (l : Launch) (D : va_G) (G : sG) {M : sM} {L : sL} (i : Nat) (hi : i < 6) (hT : TInv M) : sKi l D G yX7_looksFor cX7_looksFor 2 .int 2 43 [.ref (G.1 (258)), .int (sI ((i : Int)))] M L (fun r M' L' => r = sI (qWan M i) ∧ M = M' ∧ L = L') := by
  refine sKi_go (by decide) (Nat.le_of_ble_eq_true rfl) ?_
  intro zp ze zs zm za zb zt zc Q C hret
  refine at_eq (lv' := [(0, .ref (G.1 (258))), (1, .int (sI ((i : Int))))]) (st' := []) (M' := M) (L' := L) ?_ rfl rfl rfl rfl
  refine at_aload_n C 0 dX7_looksFor_0 rfl ?_
  refine at_iload_n C 1 dX7_looksFor_1 rfl ?_
  refine at_call_i C (c_X7_isSoul l D G (i : Int) ⟨by omega, by omega⟩ hT) (As := [.int (sI ((i : Int)))]) (obj_Ref G) (ci := 7) rfl qw_1177 qw_1174 qw_8 qw_1176 qp_65 ⟨by decide, by decide, show (parseMethodDescriptor yX7_isSoul.desc).map (fun d => d.parameters.length) = some 1 by decide +kernel⟩ ⟨by decide, by decide⟩ ⟨Nat.zero_le _, Nat.zero_le _⟩ (Nat.le_of_ble_eq_true rfl) dX7_looksFor_2 rfl (fun r M' L' hp1 => ?_)
  obtain ⟨rfl, rfl, rfl⟩ := hp1
  refine at_if_eqB C 17 dX7_looksFor_5 (by decide) (fun h2 => ?_) (fun h2 => ?_)
  · refine at_iconst C dX7_looksFor_17 ?_
    exact hret _ _ _ _ _ dX7_looksFor_18 (⟨congrArg sI (by unfold qWan wan; split <;> omega), rfl, rfl⟩)
  · refine at_aload_n C 0 dX7_looksFor_8 rfl ?_
    refine at_getf (v := .ref (G.1 (262))) C (obj_Ref G) (ci := 7) rfl inX7 (slot := 10) (by decide) qw_892 rfl rfl dX7_looksFor_9 ?_
    refine at_iload_n C 1 dX7_looksFor_12 rfl ?_
    refine at_iald C i (ar_262 G) (rfl) (by omega) dX7_looksFor_13 ?_
    have hb3 : _ ≤ M 262 i ∧ M 262 i ≤ _ := tv hT (k := 262) (j := i) rfl
    refine at_goto C 18 dX7_looksFor_14 (by decide) ?_
    exact hret _ _ _ _ _ dX7_looksFor_18 (⟨congrArg sI (by unfold qWan wan; split <;> omega), rfl, rfl⟩)

set_option maxHeartbeats 4000000 in
set_option maxRecDepth 100000 in
theorem c_X7_off (l : Launch) (D : va_G) (G : sG) {M : sM} {L : sL} (s : Nat) (hs : s < 6) (i : Nat) (hi : i < 6) (hT : TInv M) : sKi l D G yX7_off cX7_off 3 .int 4 87 [.ref (G.1 (258)), .int (sI ((s : Int))), .int (sI ((i : Int)))] M L (fun r M' L' => r = sI (qDst M s i) ∧ M = M' ∧ L = L') := by
  refine sKi_go (by decide) (Nat.le_of_ble_eq_true rfl) ?_
  intro zp ze zs zm za zb zt zc Q C hret
  refine at_eq (lv' := [(0, .ref (G.1 (258))), (1, .int (sI ((s : Int)))), (2, .int (sI ((i : Int))))]) (st' := []) (M' := M) (L' := L) ?_ rfl rfl rfl rfl
  refine at_aload_n C 0 dX7_off_0 rfl ?_
  refine at_iload_n C 1 dX7_off_1 rfl ?_
  refine at_iload_n C 2 dX7_off_2 rfl ?_
  refine at_call_i C (c_X7_feltBy l D G s (by omega) i (by omega) hT) (As := [.int (sI ((s : Int))), .int (sI ((i : Int)))]) (obj_Ref G) (ci := 7) rfl qw_1156 qw_1153 qw_8 qw_1155 qp_62 ⟨by decide, by decide, show (parseMethodDescriptor yX7_feltBy.desc).map (fun d => d.parameters.length) = some 2 by decide +kernel⟩ ⟨by decide, by decide⟩ ⟨Nat.zero_le _, Nat.zero_le _⟩ (Nat.le_of_ble_eq_true rfl) dX7_off_3 rfl (fun r M' L' hp2 => ?_)
  obtain ⟨rfl, rfl, rfl⟩ := hp2
  have hb1 := qFel_r hT s i
  refine at_aload_n C 0 dX7_off_6 rfl ?_
  refine at_iload_n C 2 dX7_off_7 rfl ?_
  refine at_call_i C (c_X7_looksFor l D G i (by omega) hT) (As := [.int (sI ((i : Int)))]) (obj_Ref G) (ci := 7) rfl qw_1173 qw_1170 qw_8 qw_1172 qp_64 ⟨by decide, by decide, show (parseMethodDescriptor yX7_looksFor.desc).map (fun d => d.parameters.length) = some 1 by decide +kernel⟩ ⟨by decide, by decide⟩ ⟨Nat.zero_le _, Nat.zero_le _⟩ (Nat.le_of_ble_eq_true rfl) dX7_off_8 rfl (fun r M' L' hp4 => ?_)
  obtain ⟨rfl, rfl, rfl⟩ := hp4
  have hb3 := qWan_r hT i
  refine at_isub C dX7_off_11 ?_
  refine at_stat_i C (c_X7_far l D G ((qFel M s i) - (qWan M i)) ⟨by omega, by omega⟩) (As := [.int (sI ((qFel M s i) - (qWan M i)))]) qw_1180 qw_1178 qw_8 qw_1179 ⟨by decide, by decide, show (parseMethodDescriptor yX7_far.desc).map (fun d => d.parameters.length) = some 1 by decide +kernel⟩ ⟨by decide, by decide⟩ ⟨Nat.zero_le _, Nat.zero_le _⟩ (Nat.le_of_ble_eq_true rfl) dX7_off_12 rfl (fun r M' L' hp5 => ?_)
  obtain ⟨rfl, rfl, rfl⟩ := hp5
  exact hret _ _ _ _ _ dX7_off_15 (⟨rfl, rfl, rfl⟩)

set_option maxHeartbeats 4000000 in
set_option maxRecDepth 100000 in
theorem c_X7_heldBy (l : Launch) (D : va_G) (G : sG) {M : sM} {L : sL} (i : Nat) (hi : i < 6) (hT : TInv M) : sKi l D G yX7_heldBy cX7_heldBy 3 .int 0 0 [.ref (G.1 (258)), .int (sI ((i : Int)))] M L (fun r M' L' => r = sI (qHeld M i) ∧ M = M' ∧ L = L') := by
  refine sKi_go (by decide) (Nat.le_of_ble_eq_true rfl) ?_
  intro zp ze zs zm za zb zt zc Q C hret
  refine at_eq (lv' := [(0, .ref (G.1 (258))), (1, .int (sI ((i : Int))))]) (st' := []) (M' := M) (L' := L) ?_ rfl rfl rfl rfl
  have hqn := qn_r hT
  refine at_aload_n C 0 dX7_heldBy_0 rfl ?_
  refine at_getf (v := .int (sI (M 258 1))) C (obj_Ref G) (ci := 7) rfl inX7 (slot := 1) (by decide) qw_883 rfl rfl dX7_heldBy_1 ?_
  have hb1 : _ ≤ M 258 1 ∧ M 258 1 ≤ _ := tv hT (k := 258) (j := 1) rfl
  refine at_iconst C dX7_heldBy_4 ?_
  refine at_isub C dX7_heldBy_5 ?_
  refine at_istore_n C [(2, .int (sI ((M 258 1) - 1))), (0, .ref (G.1 (258))), (1, .int (sI ((i : Int))))] dX7_heldBy_6 (by decide) rfl ?_
  have H7 : ∀ (fu : Nat) (k : Nat), k < fu → (k ≤ qn M) → (qHeld M i = lst (fun s => M 264 s = i) k) → sAt zp l ze (sRm 0 0) zs zm za zb zt zc D G 3 0 0 Q 7 [(0, .ref (G.1 (258))), (1, .int (sI ((i : Int)))), (2, .int (sI ((k : Int) - 1)))] [] M L := by
    intro fu
    induction fu with
    | zero => intro k hd hk hl; exact absurd hd (Nat.not_lt_zero _)
    | succ fu ih7 =>
      intro k hd7 hk hl
      refine at_iload_n C 2 dX7_heldBy_7 rfl ?_
      refine at_if_lt C 27 dX7_heldBy_8 (by decide) (⟨by omega, by omega⟩) (fun h2 => ?_) (fun h2 => ?_)
      · refine at_iload_n C 2 dX7_heldBy_27 rfl ?_
        exact hret _ _ _ _ _ dX7_heldBy_28 (⟨congrArg sI (by rw [hl, show k = 0 by omega]; rfl), rfl, rfl⟩)
      · refine at_aload_n C 0 dX7_heldBy_11 rfl ?_
        refine at_getf (v := .ref (G.1 (264))) C (obj_Ref G) (ci := 7) rfl inX7 (slot := 12) (by decide) qw_894 rfl rfl dX7_heldBy_12 ?_
        refine at_iload_n C 2 dX7_heldBy_15 rfl ?_
        refine at_iald C (k - 1) (ar_264 G) (by omega) (by omega) dX7_heldBy_16 ?_
        have hb3 : _ ≤ M 264 (k - 1) ∧ M 264 (k - 1) ≤ _ := tv hT (k := 264) (j := (k - 1)) rfl
        refine at_iload_n C 1 dX7_heldBy_17 rfl ?_
        refine at_icmp_eq C 27 dX7_heldBy_18 (by decide) (⟨by omega, by omega⟩) (⟨by omega, by omega⟩) (fun h4 => ?_) (fun h4 => ?_)
        · refine at_iload_n C 2 dX7_heldBy_27 rfl ?_
          exact hret _ _ _ _ _ dX7_heldBy_28 (⟨congrArg sI (by rw [hl]; exact (lst_e (p := fun s => M 264 s = i) (by omega) (by assumption)).symm), rfl, rfl⟩)
        · refine at_iinc C 2 [(2, .int (sI (((k : Int) - 1) + (-1)))), (0, .ref (G.1 (258))), (1, .int (sI ((i : Int))))] dX7_heldBy_21 rfl (by decide) rfl ?_
          refine at_goto C 7 dX7_heldBy_24 (by decide) ?_
          refine at_lv [1, 2, 0] rfl ?_
          exact at_eq (ih7 (k - 1) (by omega) (by omega) (by rw [hl]; exact lst_p (p := fun s => M 264 s = i) (by omega) (by assumption))) (lvc_s (lvc_s (lvc_i (by omega) rfl))) rfl (rfl) (rfl)
  refine at_lv [1, 2, 0] rfl ?_
  exact at_eq (H7 _ (qn M) (Nat.lt_succ_self _) (by omega) (rfl)) (lvc_s (lvc_s (lvc_i (by omega) rfl))) rfl (rfl) (rfl)

set_option maxHeartbeats 4000000 in
set_option maxRecDepth 100000 in
theorem c_X7_nearest (l : Launch) (D : va_G) (G : sG) {M : sM} {L : sL} (i : Nat) (hi : i < 6) (hT : TInv M) : sKi l D G yX7_nearest cX7_nearest 4 .int 5 109 [.ref (G.1 (258)), .int (sI ((i : Int)))] M L (fun r M' L' => r = sI (qNea M i) ∧ M = M' ∧ L = L') := by
  refine sKi_go (by decide) (Nat.le_of_ble_eq_true rfl) ?_
  intro zp ze zs zm za zb zt zc Q C hret
  refine at_eq (lv' := [(0, .ref (G.1 (258))), (1, .int (sI ((i : Int))))]) (st' := []) (M' := M) (L' := L) ?_ rfl rfl rfl rfl
  have hqn := qn_r hT
  refine at_iconst C dX7_nearest_0 ?_
  refine at_istore_n C [(2, .int (sI (-1))), (0, .ref (G.1 (258))), (1, .int (sI ((i : Int))))] dX7_nearest_1 (by decide) rfl ?_
  refine at_iconst C dX7_nearest_2 ?_
  refine at_istore_n C [(3, .int (sI (0))), (2, .int (sI (-1))), (0, .ref (G.1 (258))), (1, .int (sI ((i : Int))))] dX7_nearest_3 (by decide) rfl ?_
  have H4 : ∀ (fu : Nat) (k : Nat), qn M - k < fu → (k ≤ qn M) → sAt zp l ze (sRm 5 109) zs zm za zb zt zc D G 4 0 0 Q 4 [(0, .ref (G.1 (258))), (1, .int (sI ((i : Int)))), (2, .int (sI (nea (fun s => M 263 s = -1) (fun s => qDst M s i) k))), (3, .int (sI ((k : Int))))] [] M L := by
    intro fu
    induction fu with
    | zero => intro k hd hk; exact absurd hd (Nat.not_lt_zero _)
    | succ fu ih4 =>
      intro k hd4 hk
      have hnr := nea_r (fun s => M 263 s = -1) (fun s => qDst M s i) k
      refine at_iload_n C 3 dX7_nearest_4 rfl ?_
      refine at_aload_n C 0 dX7_nearest_5 rfl ?_
      refine at_getf (v := .int (sI (M 258 1))) C (obj_Ref G) (ci := 7) rfl inX7 (slot := 1) (by decide) qw_883 rfl rfl dX7_nearest_6 ?_
      have hb1 : _ ≤ M 258 1 ∧ M 258 1 ≤ _ := tv hT (k := 258) (j := 1) rfl
      refine at_ve (b := (((qn M) : Nat) : Int)) (hqn.2) ?_
      refine at_icmp_ge C 54 dX7_nearest_9 (by decide) (⟨by omega, by omega⟩) (⟨by omega, by omega⟩) (fun h2 => ?_) (fun h2 => ?_)
      · refine at_iload_n C 2 dX7_nearest_54 rfl ?_
        exact hret _ _ _ _ _ dX7_nearest_55 (⟨congrArg sI (by unfold qNea; rw [show qn M = k by omega]), rfl, rfl⟩)
      · refine at_aload_n C 0 dX7_nearest_12 rfl ?_
        refine at_getf (v := .ref (G.1 (263))) C (obj_Ref G) (ci := 7) rfl inX7 (slot := 11) (by decide) qw_893 rfl rfl dX7_nearest_13 ?_
        refine at_iload_n C 3 dX7_nearest_16 rfl ?_
        refine at_iald C k (ar_263 G) (rfl) (by omega) dX7_nearest_17 ?_
        have hb3 : _ ≤ M 263 k ∧ M 263 k ≤ _ := tv hT (k := 263) (j := k) rfl
        refine at_iconst C dX7_nearest_18 ?_
        refine at_icmp_ne C 46 dX7_nearest_19 (by decide) (⟨by omega, by omega⟩) (⟨by omega, by omega⟩) (fun h4 => ?_) (fun h4 => ?_)
        · refine at_iload_n C 2 dX7_nearest_46 rfl ?_
          refine at_istore_n C [(2, .int (sI (nea (fun s => M 263 s = -1) (fun s => qDst M s i) k))), (0, .ref (G.1 (258))), (1, .int (sI ((i : Int)))), (3, .int (sI ((k : Int))))] dX7_nearest_47 (by decide) rfl ?_
          refine at_iinc C 3 [(3, .int (sI ((k : Int) + 1))), (2, .int (sI (nea (fun s => M 263 s = -1) (fun s => qDst M s i) k))), (0, .ref (G.1 (258))), (1, .int (sI ((i : Int))))] dX7_nearest_48 rfl (by decide) rfl ?_
          refine at_goto C 4 dX7_nearest_51 (by decide) ?_
          refine at_lv [2, 3, 1, 0] rfl ?_
          exact at_eq (ih4 (k + 1) (by omega) (by omega)) (lvc_s (lvc_s (lvc_i ((nea_no (fun z => absurd z (by assumption))).symm) (lvc_i (by omega) rfl)))) rfl (rfl) (rfl)
        · refine at_iload_n C 2 dX7_nearest_22 rfl ?_
          refine at_iconst C dX7_nearest_23 ?_
          refine at_icmp_eq C 42 dX7_nearest_24 (by decide) (⟨by omega, by omega⟩) (⟨by omega, by omega⟩) (fun h5 => ?_) (fun h5 => ?_)
          · refine at_iload_n C 3 dX7_nearest_42 rfl ?_
            refine at_goto C 47 dX7_nearest_43 (by decide) ?_
            refine at_istore_n C [(2, .int (sI ((k : Int)))), (0, .ref (G.1 (258))), (1, .int (sI ((i : Int)))), (3, .int (sI ((k : Int))))] dX7_nearest_47 (by decide) rfl ?_
            refine at_iinc C 3 [(3, .int (sI ((k : Int) + 1))), (2, .int (sI ((k : Int)))), (0, .ref (G.1 (258))), (1, .int (sI ((i : Int))))] dX7_nearest_48 rfl (by decide) rfl ?_
            refine at_goto C 4 dX7_nearest_51 (by decide) ?_
            refine at_lv [2, 3, 1, 0] rfl ?_
            exact at_eq (ih4 (k + 1) (by omega) (by omega)) (lvc_s (lvc_s (lvc_i ((nea_yes (by assumption) (by first | exact Or.inl (by assumption) | exact Or.inr (by assumption))).symm) (lvc_i (by omega) rfl)))) rfl (rfl) (rfl)
          · refine at_aload_n C 0 dX7_nearest_27 rfl ?_
            refine at_iload_n C 3 dX7_nearest_28 rfl ?_
            refine at_iload_n C 1 dX7_nearest_29 rfl ?_
            refine at_call_i C (c_X7_off l D G k (by omega) i (by omega) hT) (As := [.int (sI ((k : Int))), .int (sI ((i : Int)))]) (obj_Ref G) (ci := 7) rfl qw_1152 qw_1149 qw_8 qw_1151 qp_61 ⟨by decide, by decide, show (parseMethodDescriptor yX7_off.desc).map (fun d => d.parameters.length) = some 2 by decide +kernel⟩ ⟨by decide, by decide⟩ ⟨Nat.zero_le _, Nat.zero_le _⟩ (Nat.le_of_ble_eq_true rfl) dX7_nearest_30 rfl (fun r M' L' hp7 => ?_)
            obtain ⟨rfl, rfl, rfl⟩ := hp7
            have hb6 := qDst_r hT k i
            refine at_aload_n C 0 dX7_nearest_33 rfl ?_
            refine at_iload_n C 2 dX7_nearest_34 rfl ?_
            refine at_ve (b := (((nea (fun s => M 263 s = -1) (fun s => qDst M s i) k).toNat : Nat) : Int)) (by omega) ?_
            refine at_iload_n C 1 dX7_nearest_35 rfl ?_
            refine at_call_i C (c_X7_off l D G ((nea (fun s => M 263 s = -1) (fun s => qDst M s i) k).toNat) (by omega) i (by omega) hT) (As := [.int (sI ((((nea (fun s => M 263 s = -1) (fun s => qDst M s i) k).toNat : Nat) : Int))), .int (sI ((i : Int)))]) (obj_Ref G) (ci := 7) rfl qw_1152 qw_1149 qw_8 qw_1151 qp_61 ⟨by decide, by decide, show (parseMethodDescriptor yX7_off.desc).map (fun d => d.parameters.length) = some 2 by decide +kernel⟩ ⟨by decide, by decide⟩ ⟨Nat.zero_le _, Nat.zero_le _⟩ (Nat.le_of_ble_eq_true rfl) dX7_nearest_36 rfl (fun r M' L' hp9 => ?_)
            obtain ⟨rfl, rfl, rfl⟩ := hp9
            have hb8 := qDst_r hT ((nea (fun s => M 263 s = -1) (fun s => qDst M s i) k).toNat) i
            refine at_icmp_ge C 46 dX7_nearest_39 (by decide) (⟨by omega, by omega⟩) (⟨by omega, by omega⟩) (fun h10 => ?_) (fun h10 => ?_)
            · refine at_iload_n C 2 dX7_nearest_46 rfl ?_
              refine at_istore_n C [(2, .int (sI (nea (fun s => M 263 s = -1) (fun s => qDst M s i) k))), (0, .ref (G.1 (258))), (1, .int (sI ((i : Int)))), (3, .int (sI ((k : Int))))] dX7_nearest_47 (by decide) rfl ?_
              refine at_iinc C 3 [(3, .int (sI ((k : Int) + 1))), (2, .int (sI (nea (fun s => M 263 s = -1) (fun s => qDst M s i) k))), (0, .ref (G.1 (258))), (1, .int (sI ((i : Int))))] dX7_nearest_48 rfl (by decide) rfl ?_
              refine at_goto C 4 dX7_nearest_51 (by decide) ?_
              refine at_lv [2, 3, 1, 0] rfl ?_
              exact at_eq (ih4 (k + 1) (by omega) (by omega)) (lvc_s (lvc_s (lvc_i ((nea_no (fun z w => by rcases w with q | q <;> omega)).symm) (lvc_i (by omega) rfl)))) rfl (rfl) (rfl)
            · refine at_iload_n C 3 dX7_nearest_42 rfl ?_
              refine at_goto C 47 dX7_nearest_43 (by decide) ?_
              refine at_istore_n C [(2, .int (sI ((k : Int)))), (0, .ref (G.1 (258))), (1, .int (sI ((i : Int)))), (3, .int (sI ((k : Int))))] dX7_nearest_47 (by decide) rfl ?_
              refine at_iinc C 3 [(3, .int (sI ((k : Int) + 1))), (2, .int (sI ((k : Int)))), (0, .ref (G.1 (258))), (1, .int (sI ((i : Int))))] dX7_nearest_48 rfl (by decide) rfl ?_
              refine at_goto C 4 dX7_nearest_51 (by decide) ?_
              refine at_lv [2, 3, 1, 0] rfl ?_
              exact at_eq (ih4 (k + 1) (by omega) (by omega)) (lvc_s (lvc_s (lvc_i ((nea_yes (by assumption) (by first | exact Or.inl (by assumption) | exact Or.inr (by assumption))).symm) (lvc_i (by omega) rfl)))) rfl (rfl) (rfl)
  refine at_lv [2, 3, 1, 0] rfl ?_
  exact at_eq (H4 _ 0 (Nat.lt_succ_self _) (by omega)) (lvc_s (lvc_s (lvc_i (rfl) (lvc_i (rfl) rfl)))) rfl (rfl) (rfl)

set_option maxHeartbeats 4000000 in
set_option maxRecDepth 100000 in
theorem c_X7_wouldTake (l : Launch) (D : va_G) (G : sG) {M : sM} {L : sL} (i : Nat) (hi : i < 6) (hT : TInv M) : sKi l D G yX7_wouldTake cX7_wouldTake 2 .int 6 132 [.ref (G.1 (258)), .int (sI ((i : Int)))] M L (fun r M' L' => r = sI (qCho M i) ∧ M = M' ∧ L = L') := by
  refine sKi_go (by decide) (Nat.le_of_ble_eq_true rfl) ?_
  intro zp ze zs zm za zb zt zc Q C hret
  refine at_eq (lv' := [(0, .ref (G.1 (258))), (1, .int (sI ((i : Int))))]) (st' := []) (M' := M) (L' := L) ?_ rfl rfl rfl rfl
  have hqn := qn_r hT
  refine at_aload_n C 0 dX7_wouldTake_0 rfl ?_
  refine at_iload_n C 1 dX7_wouldTake_1 rfl ?_
  refine at_call_i C (c_X7_heldBy l D G i (by omega) hT) (As := [.int (sI ((i : Int)))]) (obj_Ref G) (ci := 7) rfl qw_1144 qw_1141 qw_8 qw_1143 qp_59 ⟨by decide, by decide, show (parseMethodDescriptor yX7_heldBy.desc).map (fun d => d.parameters.length) = some 1 by decide +kernel⟩ ⟨by decide, by decide⟩ ⟨Nat.zero_le _, Nat.zero_le _⟩ (Nat.le_of_ble_eq_true rfl) dX7_wouldTake_2 rfl (fun r M' L' hp2 => ?_)
  obtain ⟨rfl, rfl, rfl⟩ := hp2
  have hb1 : -1 ≤ qHeld M i ∧ qHeld M i < qn M := lst_r _ _
  refine at_iconst C dX7_wouldTake_5 ?_
  refine at_icmp_ne C 17 dX7_wouldTake_6 (by decide) (⟨by omega, by omega⟩) (⟨by omega, by omega⟩) (fun h3 => ?_) (fun h3 => ?_)
  · refine at_iconst C dX7_wouldTake_17 ?_
    exact hret _ _ _ _ _ dX7_wouldTake_18 (⟨congrArg sI (if_neg (by assumption)).symm, rfl, rfl⟩)
  · refine at_aload_n C 0 dX7_wouldTake_9 rfl ?_
    refine at_iload_n C 1 dX7_wouldTake_10 rfl ?_
    refine at_call_i C (c_X7_nearest l D G i (by omega) hT) (As := [.int (sI ((i : Int)))]) (obj_Ref G) (ci := 7) rfl qw_1148 qw_1145 qw_8 qw_1147 qp_60 ⟨by decide, by decide, show (parseMethodDescriptor yX7_nearest.desc).map (fun d => d.parameters.length) = some 1 by decide +kernel⟩ ⟨by decide, by decide⟩ ⟨Nat.zero_le _, Nat.zero_le _⟩ (Nat.le_of_ble_eq_true rfl) dX7_wouldTake_11 rfl (fun r M' L' hp5 => ?_)
    obtain ⟨rfl, rfl, rfl⟩ := hp5
    have hb4 : -1 ≤ qNea M i ∧ qNea M i < qn M := nea_r _ _ _
    refine at_goto C 18 dX7_wouldTake_14 (by decide) ?_
    exact hret _ _ _ _ _ dX7_wouldTake_18 (⟨congrArg sI (if_pos (by assumption)).symm, rfl, rfl⟩)

set_option maxHeartbeats 4000000 in
set_option maxRecDepth 100000 in
theorem c_X7_countAt (l : Launch) (D : va_G) (G : sG) {M : sM} {L : sL} (w : Int) (hw : -2 ≤ w ∧ w ≤ 11) (hT : TInv M) : sKi l D G yX7_countAt cX7_countAt 4 .int 0 0 [.ref (G.1 (258)), .int (sI (w))] M L (fun r M' L' => r = sI (qCnt M w) ∧ M = M' ∧ L = L') := by
  refine sKi_go (by decide) (Nat.le_of_ble_eq_true rfl) ?_
  intro zp ze zs zm za zb zt zc Q C hret
  refine at_eq (lv' := [(0, .ref (G.1 (258))), (1, .int (sI (w)))]) (st' := []) (M' := M) (L' := L) ?_ rfl rfl rfl rfl
  have hqn := qn_r hT
  refine at_iconst C dX7_countAt_0 ?_
  refine at_istore_n C [(2, .int (sI (0))), (0, .ref (G.1 (258))), (1, .int (sI (w)))] dX7_countAt_1 (by decide) rfl ?_
  refine at_iconst C dX7_countAt_2 ?_
  refine at_istore_n C [(3, .int (sI (0))), (2, .int (sI (0))), (0, .ref (G.1 (258))), (1, .int (sI (w)))] dX7_countAt_3 (by decide) rfl ?_
  have H4 : ∀ (fu : Nat) (k : Nat), qn M - k < fu → (k ≤ qn M) → sAt zp l ze (sRm 0 0) zs zm za zb zt zc D G 4 0 0 Q 4 [(0, .ref (G.1 (258))), (1, .int (sI (w))), (2, .int (sI (cnt (fun s => M 263 s = w) k))), (3, .int (sI ((k : Int))))] [] M L := by
    intro fu
    induction fu with
    | zero => intro k hd hk; exact absurd hd (Nat.not_lt_zero _)
    | succ fu ih4 =>
      intro k hd4 hk
      have hcr := cnt_r (fun s => M 263 s = w) k
      refine at_iload_n C 3 dX7_countAt_4 rfl ?_
      refine at_aload_n C 0 dX7_countAt_5 rfl ?_
      refine at_getf (v := .int (sI (M 258 1))) C (obj_Ref G) (ci := 7) rfl inX7 (slot := 1) (by decide) qw_883 rfl rfl dX7_countAt_6 ?_
      have hb1 : _ ≤ M 258 1 ∧ M 258 1 ≤ _ := tv hT (k := 258) (j := 1) rfl
      refine at_ve (b := (((qn M) : Nat) : Int)) (hqn.2) ?_
      refine at_icmp_ge C 36 dX7_countAt_9 (by decide) (⟨by omega, by omega⟩) (⟨by omega, by omega⟩) (fun h2 => ?_) (fun h2 => ?_)
      · refine at_iload_n C 2 dX7_countAt_36 rfl ?_
        exact hret _ _ _ _ _ dX7_countAt_37 (⟨congrArg sI (by unfold qCnt; rw [show qn M = k by omega]), rfl, rfl⟩)
      · refine at_iload_n C 2 dX7_countAt_12 rfl ?_
        refine at_aload_n C 0 dX7_countAt_13 rfl ?_
        refine at_getf (v := .ref (G.1 (263))) C (obj_Ref G) (ci := 7) rfl inX7 (slot := 11) (by decide) qw_893 rfl rfl dX7_countAt_14 ?_
        refine at_iload_n C 3 dX7_countAt_17 rfl ?_
        refine at_iald C k (ar_263 G) (rfl) (by omega) dX7_countAt_18 ?_
        have hb3 : _ ≤ M 263 k ∧ M 263 k ≤ _ := tv hT (k := 263) (j := k) rfl
        refine at_iload_n C 1 dX7_countAt_19 rfl ?_
        refine at_icmp_ne C 27 dX7_countAt_20 (by decide) (⟨by omega, by omega⟩) (⟨by omega, by omega⟩) (fun h4 => ?_) (fun h4 => ?_)
        · refine at_iconst C dX7_countAt_27 ?_
          refine at_iadd C dX7_countAt_28 ?_
          refine at_istore_n C [(2, .int (sI ((cnt (fun s => M 263 s = w) k) + 0))), (0, .ref (G.1 (258))), (1, .int (sI (w))), (3, .int (sI ((k : Int))))] dX7_countAt_29 (by decide) rfl ?_
          refine at_iinc C 3 [(3, .int (sI ((k : Int) + 1))), (2, .int (sI ((cnt (fun s => M 263 s = w) k) + 0))), (0, .ref (G.1 (258))), (1, .int (sI (w)))] dX7_countAt_30 rfl (by decide) rfl ?_
          refine at_goto C 4 dX7_countAt_33 (by decide) ?_
          refine at_lv [2, 3, 1, 0] rfl ?_
          exact at_eq (ih4 (k + 1) (by omega) (by omega)) (lvc_s (lvc_s (lvc_i (by simp only [cnt]; simp [*]) (lvc_i (by omega) rfl)))) rfl (rfl) (rfl)
        · refine at_iconst C dX7_countAt_23 ?_
          refine at_goto C 28 dX7_countAt_24 (by decide) ?_
          refine at_iadd C dX7_countAt_28 ?_
          refine at_istore_n C [(2, .int (sI ((cnt (fun s => M 263 s = w) k) + 1))), (0, .ref (G.1 (258))), (1, .int (sI (w))), (3, .int (sI ((k : Int))))] dX7_countAt_29 (by decide) rfl ?_
          refine at_iinc C 3 [(3, .int (sI ((k : Int) + 1))), (2, .int (sI ((cnt (fun s => M 263 s = w) k) + 1))), (0, .ref (G.1 (258))), (1, .int (sI (w)))] dX7_countAt_30 rfl (by decide) rfl ?_
          refine at_goto C 4 dX7_countAt_33 (by decide) ?_
          refine at_lv [2, 3, 1, 0] rfl ?_
          exact at_eq (ih4 (k + 1) (by omega) (by omega)) (lvc_s (lvc_s (lvc_i (by simp only [cnt]; simp [*]) (lvc_i (by omega) rfl)))) rfl (rfl) (rfl)
  refine at_lv [2, 3, 1, 0] rfl ?_
  exact at_eq (H4 _ 0 (Nat.lt_succ_self _) (by omega)) (lvc_s (lvc_s (lvc_i (rfl) (lvc_i (rfl) rfl)))) rfl (rfl) (rfl)

set_option maxHeartbeats 4000000 in
set_option maxRecDepth 100000 in
theorem c_X7_adriftMany (l : Launch) (D : va_G) (G : sG) {M : sM} {L : sL} (hT : TInv M) : sKi l D G yX7_adriftMany cX7_adriftMany 1 .int 1 23 [.ref (G.1 (258))] M L (fun r M' L' => r = sI (qAdC M) ∧ M = M' ∧ L = L') := by
  refine sKi_go (by decide) (Nat.le_of_ble_eq_true rfl) ?_
  intro zp ze zs zm za zb zt zc Q C hret
  refine at_eq (lv' := [(0, .ref (G.1 (258)))]) (st' := []) (M' := M) (L' := L) ?_ rfl rfl rfl rfl
  have hqn := qn_r hT
  refine at_aload_n C 0 dX7_adriftMany_0 rfl ?_
  refine at_getf (v := .int (sI (M 258 1))) C (obj_Ref G) (ci := 7) rfl inX7 (slot := 1) (by decide) qw_883 rfl rfl dX7_adriftMany_1 ?_
  have hb1 : _ ≤ M 258 1 ∧ M 258 1 ≤ _ := tv hT (k := 258) (j := 1) rfl
  refine at_ve (b := (((qn M) : Nat) : Int)) (hqn.2) ?_
  refine at_aload_n C 0 dX7_adriftMany_4 rfl ?_
  refine at_iconst C dX7_adriftMany_5 ?_
  refine at_call_i C (c_X7_countAt l D G (-1) ⟨by omega, by omega⟩ hT) (As := [.int (sI (-1))]) (obj_Ref G) (ci := 7) rfl qw_1121 qw_1118 qw_8 qw_1120 qp_54 ⟨by decide, by decide, show (parseMethodDescriptor yX7_countAt.desc).map (fun d => d.parameters.length) = some 1 by decide +kernel⟩ ⟨by decide, by decide⟩ ⟨Nat.zero_le _, Nat.zero_le _⟩ (Nat.le_of_ble_eq_true rfl) dX7_adriftMany_6 rfl (fun r M' L' hp3 => ?_)
  obtain ⟨rfl, rfl, rfl⟩ := hp3
  have hb2 : 0 ≤ qCnt M (-1) ∧ qCnt M (-1) ≤ qn M := cnt_r _ _
  refine at_isub C dX7_adriftMany_9 ?_
  refine at_aload_n C 0 dX7_adriftMany_10 rfl ?_
  refine at_bipush C dX7_adriftMany_11 (by decide) (by decide) ?_
  refine at_call_i C (c_X7_countAt l D G (-2) ⟨by omega, by omega⟩ hT) (As := [.int (sI (-2))]) (obj_Ref G) (ci := 7) rfl qw_1121 qw_1118 qw_8 qw_1120 qp_54 ⟨by decide, by decide, show (parseMethodDescriptor yX7_countAt.desc).map (fun d => d.parameters.length) = some 1 by decide +kernel⟩ ⟨by decide, by decide⟩ ⟨Nat.zero_le _, Nat.zero_le _⟩ (Nat.le_of_ble_eq_true rfl) dX7_adriftMany_13 rfl (fun r M' L' hp5 => ?_)
  obtain ⟨rfl, rfl, rfl⟩ := hp5
  have hb4 : 0 ≤ qCnt M (-2) ∧ qCnt M (-2) ≤ qn M := cnt_r _ _
  refine at_isub C dX7_adriftMany_16 ?_
  exact hret _ _ _ _ _ dX7_adriftMany_17 (⟨rfl, rfl, rfl⟩)

set_option maxHeartbeats 4000000 in
set_option maxRecDepth 100000 in
theorem c_X7_drift (l : Launch) (D : va_G) (G : sG) {M : sM} {L : sL} (c : Int) (hc : 0 ≤ c ∧ c ≤ 11) (hT : TInv M) : sKi l D G yX7_drift cX7_drift 2 .int 1 20 [.ref (G.1 (258)), .int (sI (c))] M L (fun r M' L' => r = sI (dri (M 260) c) ∧ M = M' ∧ L = L') := by
  refine sKi_go (by decide) (Nat.le_of_ble_eq_true rfl) ?_
  intro zp ze zs zm za zb zt zc Q C hret
  refine at_eq (lv' := [(0, .ref (G.1 (258))), (1, .int (sI (c)))]) (st' := []) (M' := M) (L' := L) ?_ rfl rfl rfl rfl
  refine at_iload_n C 1 dX7_drift_0 rfl ?_
  refine at_aload_n C 0 dX7_drift_1 rfl ?_
  refine at_getf (v := .ref (G.1 (260))) C (obj_Ref G) (ci := 7) rfl inX7 (slot := 8) (by decide) qw_890 rfl rfl dX7_drift_2 ?_
  refine at_iload_n C 1 dX7_drift_5 rfl ?_
  refine at_iald C ((c).toNat) (ar_260 G) (by omega) (by omega) dX7_drift_6 ?_
  have hb1 : _ ≤ M 260 ((c).toNat) ∧ M 260 ((c).toNat) ≤ _ := tv hT (k := 260) (j := ((c).toNat)) rfl
  refine at_iadd C dX7_drift_7 ?_
  refine at_stat_i C (c_X7_onShore l D G (c + (M 260 ((c).toNat))) ⟨by omega, by omega⟩) (As := [.int (sI (c + (M 260 ((c).toNat))))]) qw_1117 qw_1115 qw_8 qw_1116 ⟨by decide, by decide, show (parseMethodDescriptor yX7_onShore.desc).map (fun d => d.parameters.length) = some 1 by decide +kernel⟩ ⟨by decide, by decide⟩ ⟨Nat.zero_le _, Nat.zero_le _⟩ (Nat.le_of_ble_eq_true rfl) dX7_drift_8 rfl (fun r M' L' hp2 => ?_)
  obtain ⟨rfl, rfl, rfl⟩ := hp2
  exact hret _ _ _ _ _ dX7_drift_11 (⟨rfl, rfl, rfl⟩)

set_option maxHeartbeats 4000000 in
set_option maxRecDepth 100000 in
theorem c_X7_soulTells (l : Launch) (D : va_G) (G : sG) {M : sM} {L : sL} (s : Nat) (hs : s < 6) (w : Int) (hw : 0 ≤ w ∧ w ≤ 5) (hT : TInv M) : sKi l D G yX7_soulTells cX7_soulTells 3 .int 3 65 [.ref (G.1 (258)), .int (sI ((s : Int))), .int (sI (w))] M L (fun r M' L' => r = sI (qTel M s w) ∧ M = M' ∧ L = L') := by
  refine sKi_go (by decide) (Nat.le_of_ble_eq_true rfl) ?_
  intro zp ze zs zm za zb zt zc Q C hret
  refine at_eq (lv' := [(0, .ref (G.1 (258))), (1, .int (sI ((s : Int)))), (2, .int (sI (w)))]) (st' := []) (M' := M) (L' := L) ?_ rfl rfl rfl rfl
  refine at_iload_n C 2 dX7_soulTells_0 rfl ?_
  by_cases hs1 : w = 0
  · refine at_tsw C dX7_soulTells_1 (⟨by omega, by omega⟩) 36 (Or.inr ⟨by omega, by omega, 35, by rw [hs1]; rfl, by decide⟩) ?_
    refine at_aload_n C 0 dX7_soulTells_36 rfl ?_
    refine at_getf (v := .ref (G.1 (261))) C (obj_Ref G) (ci := 7) rfl inX7 (slot := 9) (by decide) qw_891 rfl rfl dX7_soulTells_37 ?_
    refine at_iload_n C 1 dX7_soulTells_40 rfl ?_
    refine at_iald C s (ar_261 G) (rfl) (by omega) dX7_soulTells_41 ?_
    have hb2 : _ ≤ M 261 s ∧ M 261 s ≤ _ := tv hT (k := 261) (j := s) rfl
    exact hret _ _ _ _ _ dX7_soulTells_42 (⟨congrArg sI (by unfold qTel; simp [*]), rfl, rfl⟩)
  by_cases hs3 : w = 1
  · refine at_tsw C dX7_soulTells_1 (⟨by omega, by omega⟩) 43 (Or.inr ⟨by omega, by omega, 42, by rw [hs3]; rfl, by decide⟩) ?_
    refine at_aload_n C 0 dX7_soulTells_43 rfl ?_
    refine at_getf (v := .ref (G.1 (262))) C (obj_Ref G) (ci := 7) rfl inX7 (slot := 10) (by decide) qw_892 rfl rfl dX7_soulTells_44 ?_
    refine at_iload_n C 1 dX7_soulTells_47 rfl ?_
    refine at_iald C s (ar_262 G) (rfl) (by omega) dX7_soulTells_48 ?_
    have hb4 : _ ≤ M 262 s ∧ M 262 s ≤ _ := tv hT (k := 262) (j := s) rfl
    exact hret _ _ _ _ _ dX7_soulTells_49 (⟨congrArg sI (by unfold qTel; simp [*]), rfl, rfl⟩)
  by_cases hs5 : w = 2
  · refine at_tsw C dX7_soulTells_1 (⟨by omega, by omega⟩) 50 (Or.inr ⟨by omega, by omega, 49, by rw [hs5]; rfl, by decide⟩) ?_
    refine at_aload_n C 0 dX7_soulTells_50 rfl ?_
    refine at_getf (v := .ref (G.1 (263))) C (obj_Ref G) (ci := 7) rfl inX7 (slot := 11) (by decide) qw_893 rfl rfl dX7_soulTells_51 ?_
    refine at_iload_n C 1 dX7_soulTells_54 rfl ?_
    refine at_iald C s (ar_263 G) (rfl) (by omega) dX7_soulTells_55 ?_
    have hb6 : _ ≤ M 263 s ∧ M 263 s ≤ _ := tv hT (k := 263) (j := s) rfl
    refine at_if_lt C 68 dX7_soulTells_56 (by decide) (⟨by omega, by omega⟩) (fun h7 => ?_) (fun h7 => ?_)
    · refine at_iconst C dX7_soulTells_68 ?_
      exact hret _ _ _ _ _ dX7_soulTells_69 (⟨congrArg sI (by unfold qTel; rw [if_neg (by omega), if_neg (by omega), if_pos (by omega), if_neg (by omega)]), rfl, rfl⟩)
    · refine at_aload_n C 0 dX7_soulTells_59 rfl ?_
      refine at_getf (v := .ref (G.1 (263))) C (obj_Ref G) (ci := 7) rfl inX7 (slot := 11) (by decide) qw_893 rfl rfl dX7_soulTells_60 ?_
      refine at_iload_n C 1 dX7_soulTells_63 rfl ?_
      refine at_iald C s (ar_263 G) (rfl) (by omega) dX7_soulTells_64 ?_
      have hb8 : _ ≤ M 263 s ∧ M 263 s ≤ _ := tv hT (k := 263) (j := s) rfl
      refine at_goto C 69 dX7_soulTells_65 (by decide) ?_
      exact hret _ _ _ _ _ dX7_soulTells_69 (⟨congrArg sI (by unfold qTel; simp [*]), rfl, rfl⟩)
  by_cases hs9 : w = 3
  · refine at_tsw C dX7_soulTells_1 (⟨by omega, by omega⟩) 70 (Or.inr ⟨by omega, by omega, 69, by rw [hs9]; rfl, by decide⟩) ?_
    refine at_aload_n C 0 dX7_soulTells_70 rfl ?_
    refine at_getf (v := .ref (G.1 (264))) C (obj_Ref G) (ci := 7) rfl inX7 (slot := 12) (by decide) qw_894 rfl rfl dX7_soulTells_71 ?_
    refine at_iload_n C 1 dX7_soulTells_74 rfl ?_
    refine at_iald C s (ar_264 G) (rfl) (by omega) dX7_soulTells_75 ?_
    have hb10 : _ ≤ M 264 s ∧ M 264 s ≤ _ := tv hT (k := 264) (j := s) rfl
    exact hret _ _ _ _ _ dX7_soulTells_76 (⟨congrArg sI (by unfold qTel; simp [*]), rfl, rfl⟩)
  by_cases hs11 : w = 4
  · refine at_tsw C dX7_soulTells_1 (⟨by omega, by omega⟩) 77 (Or.inr ⟨by omega, by omega, 76, by rw [hs11]; rfl, by decide⟩) ?_
    refine at_aload_n C 0 dX7_soulTells_77 rfl ?_
    refine at_getf (v := .ref (G.1 (265))) C (obj_Ref G) (ci := 7) rfl inX7 (slot := 13) (by decide) qw_895 rfl rfl dX7_soulTells_78 ?_
    refine at_iload_n C 1 dX7_soulTells_81 rfl ?_
    refine at_iald C s (ar_265 G) (rfl) (by omega) dX7_soulTells_82 ?_
    have hb12 : _ ≤ M 265 s ∧ M 265 s ≤ _ := tv hT (k := 265) (j := s) rfl
    exact hret _ _ _ _ _ dX7_soulTells_83 (⟨congrArg sI (by unfold qTel; simp [*]), rfl, rfl⟩)
  refine at_tsw C dX7_soulTells_1 (⟨by omega, by omega⟩) 84 (Or.inl ⟨by omega, by decide⟩) ?_
  refine at_aload_n C 0 dX7_soulTells_84 rfl ?_
  refine at_iload_n C 1 dX7_soulTells_85 rfl ?_
  refine at_call_i C (c_X7_weighs l D G s (by omega) hT) (As := [.int (sI ((s : Int)))]) (obj_Ref G) (ci := 7) rfl qw_1160 qw_1157 qw_8 qw_1159 qp_63 ⟨by decide, by decide, show (parseMethodDescriptor yX7_weighs.desc).map (fun d => d.parameters.length) = some 1 by decide +kernel⟩ ⟨by decide, by decide⟩ ⟨Nat.zero_le _, Nat.zero_le _⟩ (Nat.le_of_ble_eq_true rfl) dX7_soulTells_86 rfl (fun r M' L' hp14 => ?_)
  obtain ⟨rfl, rfl, rfl⟩ := hp14
  have hb13 := qWei_r hT s
  exact hret _ _ _ _ _ dX7_soulTells_89 (⟨congrArg sI (by unfold qTel; simp [*]), rfl, rfl⟩)

set_option maxHeartbeats 4000000 in
set_option maxRecDepth 100000 in
theorem c_X7_driftBehind (l : Launch) (D : va_G) (G : sG) {M : sM} {L : sL} (c : Int) (hc : 0 ≤ c ∧ c ≤ 11) (n : Nat) (hn : n < 1000) (hT : TInv M) : sKi l D G yX7_driftBehind cX7_driftBehind 5 .int 2 41 [.ref (G.1 (258)), .int (sI (c)), .int (sI ((n : Int)))] M L (fun r M' L' => r = sI (driN (M 260) n c) ∧ M = M' ∧ L = L') := by
  refine sKi_go (by decide) (Nat.le_of_ble_eq_true rfl) ?_
  intro zp ze zs zm za zb zt zc Q C hret
  refine at_eq (lv' := [(0, .ref (G.1 (258))), (1, .int (sI (c))), (2, .int (sI ((n : Int))))]) (st' := []) (M' := M) (L' := L) ?_ rfl rfl rfl rfl
  refine at_iload_n C 1 dX7_driftBehind_0 rfl ?_
  refine at_istore_n C [(3, .int (sI (c))), (0, .ref (G.1 (258))), (1, .int (sI (c))), (2, .int (sI ((n : Int))))] dX7_driftBehind_1 (by decide) rfl ?_
  refine at_iconst C dX7_driftBehind_2 ?_
  refine at_istore C [(4, .int (sI (0))), (3, .int (sI (c))), (0, .ref (G.1 (258))), (1, .int (sI (c))), (2, .int (sI ((n : Int))))] dX7_driftBehind_3 (by decide) rfl ?_
  have H5 : ∀ (fu : Nat) (k : Nat), n - k < fu → (k ≤ n) → sAt zp l ze (sRm 2 41) zs zm za zb zt zc D G 5 0 0 Q 5 [(0, .ref (G.1 (258))), (1, .int (sI (c))), (2, .int (sI ((n : Int)))), (3, .int (sI (driN (M 260) k c))), (4, .int (sI ((k : Int))))] [] M L := by
    intro fu
    induction fu with
    | zero => intro k hd hk; exact absurd hd (Nat.not_lt_zero _)
    | succ fu ih5 =>
      intro k hd5 hk
      have hr := driN_r (M 260) hc k
      refine at_iload C 4 dX7_driftBehind_5 rfl ?_
      refine at_iload_n C 2 dX7_driftBehind_7 rfl ?_
      refine at_icmp_ge C 23 dX7_driftBehind_8 (by decide) (⟨by omega, by omega⟩) (⟨by omega, by omega⟩) (fun h1 => ?_) (fun h1 => ?_)
      · refine at_iload_n C 3 dX7_driftBehind_23 rfl ?_
        exact hret _ _ _ _ _ dX7_driftBehind_24 (⟨congrArg sI (by rw [show n = k by omega]), rfl, rfl⟩)
      · refine at_aload_n C 0 dX7_driftBehind_11 rfl ?_
        refine at_iload_n C 3 dX7_driftBehind_12 rfl ?_
        refine at_call_i C (c_X7_drift l D G (driN (M 260) k c) ⟨by omega, by omega⟩ hT) (As := [.int (sI (driN (M 260) k c))]) (obj_Ref G) (ci := 7) rfl qw_1129 qw_1126 qw_8 qw_1128 qp_56 ⟨by decide, by decide, show (parseMethodDescriptor yX7_drift.desc).map (fun d => d.parameters.length) = some 1 by decide +kernel⟩ ⟨by decide, by decide⟩ ⟨Nat.zero_le _, Nat.zero_le _⟩ (Nat.le_of_ble_eq_true rfl) dX7_driftBehind_13 rfl (fun r M' L' hp3 => ?_)
        obtain ⟨rfl, rfl, rfl⟩ := hp3
        have hb2 := dri_r (M 260) (driN (M 260) k c)
        refine at_istore_n C [(3, .int (sI (dri (M 260) (driN (M 260) k c)))), (0, .ref (G.1 (258))), (1, .int (sI (c))), (2, .int (sI ((n : Int)))), (4, .int (sI ((k : Int))))] dX7_driftBehind_16 (by decide) rfl ?_
        refine at_iinc C 4 [(4, .int (sI ((k : Int) + 1))), (3, .int (sI (dri (M 260) (driN (M 260) k c)))), (0, .ref (G.1 (258))), (1, .int (sI (c))), (2, .int (sI ((n : Int))))] dX7_driftBehind_17 rfl (by decide) rfl ?_
        refine at_goto C 5 dX7_driftBehind_20 (by decide) ?_
        refine at_lv [2, 3, 4, 1, 0] rfl ?_
        exact at_eq (ih5 (k + 1) (by omega) (by omega)) (lvc_s (lvc_s (lvc_s (lvc_i (rfl) (lvc_i (by omega) rfl))))) rfl (rfl) (rfl)
  refine at_lv [2, 3, 4, 1, 0] rfl ?_
  exact at_eq (H5 _ 0 (Nat.lt_succ_self _) (by omega)) (lvc_s (lvc_s (lvc_s (lvc_i (rfl) (lvc_i (rfl) rfl))))) rfl (rfl) (rfl)

set_option maxHeartbeats 4000000 in
set_option maxRecDepth 100000 in
theorem c_X7_rightMany (l : Launch) (D : va_G) (G : sG) {M : sM} {L : sL} (hT : TInv M) : sKi l D G yX7_rightMany cX7_rightMany 3 .int 2 43 [.ref (G.1 (258))] M L (fun r M' L' => r = sI (qRig M) ∧ M = M' ∧ L = L') := by
  refine sKi_go (by decide) (Nat.le_of_ble_eq_true rfl) ?_
  intro zp ze zs zm za zb zt zc Q C hret
  refine at_eq (lv' := [(0, .ref (G.1 (258)))]) (st' := []) (M' := M) (L' := L) ?_ rfl rfl rfl rfl
  have hqc := qc_r hT
  refine at_iconst C dX7_rightMany_0 ?_
  refine at_istore_n C [(1, .int (sI (0))), (0, .ref (G.1 (258)))] dX7_rightMany_1 (by decide) rfl ?_
  refine at_iconst C dX7_rightMany_2 ?_
  refine at_istore_n C [(2, .int (sI (0))), (1, .int (sI (0))), (0, .ref (G.1 (258)))] dX7_rightMany_3 (by decide) rfl ?_
  have H4 : ∀ (fu : Nat) (k : Nat), qc M - k < fu → (k ≤ qc M) → sAt zp l ze (sRm 2 43) zs zm za zb zt zc D G 3 0 0 Q 4 [(0, .ref (G.1 (258))), (1, .int (sI (cnt (fun i => (i : Int) < M 258 1 ∧ M 264 i = i) k))), (2, .int (sI ((k : Int))))] [] M L := by
    intro fu
    induction fu with
    | zero => intro k hd hk; exact absurd hd (Nat.not_lt_zero _)
    | succ fu ih4 =>
      intro k hd4 hk
      have hcr := cnt_r (fun i => (i : Int) < M 258 1 ∧ M 264 i = i) k
      refine at_iload_n C 2 dX7_rightMany_4 rfl ?_
      refine at_aload_n C 0 dX7_rightMany_5 rfl ?_
      refine at_getf (v := .int (sI (M 258 2))) C (obj_Ref G) (ci := 7) rfl inX7 (slot := 2) (by decide) qw_884 rfl rfl dX7_rightMany_6 ?_
      have hb1 : _ ≤ M 258 2 ∧ M 258 2 ≤ _ := tv hT (k := 258) (j := 2) rfl
      refine at_ve (b := (((qc M) : Nat) : Int)) (hqc.2) ?_
      refine at_icmp_ge C 44 dX7_rightMany_9 (by decide) (⟨by omega, by omega⟩) (⟨by omega, by omega⟩) (fun h2 => ?_) (fun h2 => ?_)
      · refine at_iload_n C 1 dX7_rightMany_44 rfl ?_
        exact hret _ _ _ _ _ dX7_rightMany_45 (⟨congrArg sI (by unfold qRig; rw [show qc M = k by omega]), rfl, rfl⟩)
      · refine at_iload_n C 1 dX7_rightMany_12 rfl ?_
        refine at_aload_n C 0 dX7_rightMany_13 rfl ?_
        refine at_iload_n C 2 dX7_rightMany_14 rfl ?_
        refine at_call_i C (c_X7_isSoul l D G (k : Int) ⟨by omega, by omega⟩ hT) (As := [.int (sI ((k : Int)))]) (obj_Ref G) (ci := 7) rfl qw_1177 qw_1174 qw_8 qw_1176 qp_65 ⟨by decide, by decide, show (parseMethodDescriptor yX7_isSoul.desc).map (fun d => d.parameters.length) = some 1 by decide +kernel⟩ ⟨by decide, by decide⟩ ⟨Nat.zero_le _, Nat.zero_le _⟩ (Nat.le_of_ble_eq_true rfl) dX7_rightMany_15 rfl (fun r M' L' hp3 => ?_)
        obtain ⟨rfl, rfl, rfl⟩ := hp3
        refine at_if_eqB C 35 dX7_rightMany_18 (by decide) (fun h4 => ?_) (fun h4 => ?_)
        · refine at_iconst C dX7_rightMany_35 ?_
          refine at_iadd C dX7_rightMany_36 ?_
          refine at_istore_n C [(1, .int (sI ((cnt (fun i => (i : Int) < M 258 1 ∧ M 264 i = i) k) + 0))), (0, .ref (G.1 (258))), (2, .int (sI ((k : Int))))] dX7_rightMany_37 (by decide) rfl ?_
          refine at_iinc C 2 [(2, .int (sI ((k : Int) + 1))), (1, .int (sI ((cnt (fun i => (i : Int) < M 258 1 ∧ M 264 i = i) k) + 0))), (0, .ref (G.1 (258)))] dX7_rightMany_38 rfl (by decide) rfl ?_
          refine at_goto C 4 dX7_rightMany_41 (by decide) ?_
          refine at_lv [2, 1, 0] rfl ?_
          exact at_eq (ih4 (k + 1) (by omega) (by omega)) (lvc_s (lvc_i (by rw [cnt_n (p := fun i => (i : Int) < M 258 1 ∧ M 264 i = i) (fun z => by have z1 := z.1; have z2 := z.2; omega), Int.add_zero]) (lvc_i (by omega) rfl))) rfl (rfl) (rfl)
        · refine at_aload_n C 0 dX7_rightMany_21 rfl ?_
          refine at_getf (v := .ref (G.1 (264))) C (obj_Ref G) (ci := 7) rfl inX7 (slot := 12) (by decide) qw_894 rfl rfl dX7_rightMany_22 ?_
          refine at_iload_n C 2 dX7_rightMany_25 rfl ?_
          refine at_iald C k (ar_264 G) (rfl) (by omega) dX7_rightMany_26 ?_
          have hb5 : _ ≤ M 264 k ∧ M 264 k ≤ _ := tv hT (k := 264) (j := k) rfl
          refine at_iload_n C 2 dX7_rightMany_27 rfl ?_
          refine at_icmp_ne C 35 dX7_rightMany_28 (by decide) (⟨by omega, by omega⟩) (⟨by omega, by omega⟩) (fun h6 => ?_) (fun h6 => ?_)
          · refine at_iconst C dX7_rightMany_35 ?_
            refine at_iadd C dX7_rightMany_36 ?_
            refine at_istore_n C [(1, .int (sI ((cnt (fun i => (i : Int) < M 258 1 ∧ M 264 i = i) k) + 0))), (0, .ref (G.1 (258))), (2, .int (sI ((k : Int))))] dX7_rightMany_37 (by decide) rfl ?_
            refine at_iinc C 2 [(2, .int (sI ((k : Int) + 1))), (1, .int (sI ((cnt (fun i => (i : Int) < M 258 1 ∧ M 264 i = i) k) + 0))), (0, .ref (G.1 (258)))] dX7_rightMany_38 rfl (by decide) rfl ?_
            refine at_goto C 4 dX7_rightMany_41 (by decide) ?_
            refine at_lv [2, 1, 0] rfl ?_
            exact at_eq (ih4 (k + 1) (by omega) (by omega)) (lvc_s (lvc_i (by rw [cnt_n (p := fun i => (i : Int) < M 258 1 ∧ M 264 i = i) (fun z => by have z1 := z.1; have z2 := z.2; omega), Int.add_zero]) (lvc_i (by omega) rfl))) rfl (rfl) (rfl)
          · refine at_iconst C dX7_rightMany_31 ?_
            refine at_goto C 36 dX7_rightMany_32 (by decide) ?_
            refine at_iadd C dX7_rightMany_36 ?_
            refine at_istore_n C [(1, .int (sI ((cnt (fun i => (i : Int) < M 258 1 ∧ M 264 i = i) k) + 1))), (0, .ref (G.1 (258))), (2, .int (sI ((k : Int))))] dX7_rightMany_37 (by decide) rfl ?_
            refine at_iinc C 2 [(2, .int (sI ((k : Int) + 1))), (1, .int (sI ((cnt (fun i => (i : Int) < M 258 1 ∧ M 264 i = i) k) + 1))), (0, .ref (G.1 (258)))] dX7_rightMany_38 rfl (by decide) rfl ?_
            refine at_goto C 4 dX7_rightMany_41 (by decide) ?_
            refine at_lv [2, 1, 0] rfl ?_
            exact at_eq (ih4 (k + 1) (by omega) (by omega)) (lvc_s (lvc_i (by rw [cnt_y (p := fun i => (i : Int) < M 258 1 ∧ M 264 i = i) ⟨by omega, by assumption⟩]) (lvc_i (by omega) rfl))) rfl (rfl) (rfl)
  refine at_lv [2, 1, 0] rfl ?_
  exact at_eq (H4 _ 0 (Nat.lt_succ_self _) (by omega)) (lvc_s (lvc_i (rfl) (lvc_i (rfl) rfl))) rfl (rfl) (rfl)

set_option maxHeartbeats 4000000 in
set_option maxRecDepth 100000 in
theorem c_X7_right (l : Launch) (D : va_G) (G : sG) {M : sM} {L : sL} (hT : TInv M) : sKi l D G yX7_right cX7_right 1 .int 3 65 [.ref (G.1 (258))] M L (fun r M' L' => r = sI (qRig M) ∧ M = M' ∧ L = L') := by
  refine sKi_go (by decide) (Nat.le_of_ble_eq_true rfl) ?_
  intro zp ze zs zm za zb zt zc Q C hret
  refine at_eq (lv' := [(0, .ref (G.1 (258)))]) (st' := []) (M' := M) (L' := L) ?_ rfl rfl rfl rfl
  refine at_aload_n C 0 dX7_right_0 rfl ?_
  refine at_call_i C (c_X7_rightMany l D G hT) (As := []) (obj_Ref G) (ci := 7) rfl qw_1291 qw_1288 qw_8 qw_1290 qp_80 ⟨by decide, by decide, show (parseMethodDescriptor yX7_rightMany.desc).map (fun d => d.parameters.length) = some 0 by decide +kernel⟩ ⟨by decide, by decide⟩ ⟨Nat.zero_le _, Nat.zero_le _⟩ (Nat.le_of_ble_eq_true rfl) dX7_right_1 rfl (fun r M' L' hp1 => ?_)
  obtain ⟨rfl, rfl, rfl⟩ := hp1
  exact hret _ _ _ _ _ dX7_right_4 (⟨rfl, rfl, rfl⟩)

set_option maxHeartbeats 4000000 in
set_option maxRecDepth 100000 in
theorem c_X7_goesTo (l : Launch) (D : va_G) (G : sG) {M : sM} {L : sL} (i : Nat) (hi : i < 6) (hT : TInv M) : sKi l D G yX7_goesTo cX7_goesTo 3 .int 2 43 [.ref (G.1 (258)), .int (sI ((i : Int)))] M L (fun r M' L' => r = sI (qGoe M i) ∧ M = M' ∧ L = L') := by
  refine sKi_go (by decide) (Nat.le_of_ble_eq_true rfl) ?_
  intro zp ze zs zm za zb zt zc Q C hret
  refine at_eq (lv' := [(0, .ref (G.1 (258))), (1, .int (sI ((i : Int))))]) (st' := []) (M' := M) (L' := L) ?_ rfl rfl rfl rfl
  have hqn := qn_r hT
  refine at_aload_n C 0 dX7_goesTo_0 rfl ?_
  refine at_iload_n C 1 dX7_goesTo_1 rfl ?_
  refine at_call_i C (c_X7_heldBy l D G i (by omega) hT) (As := [.int (sI ((i : Int)))]) (obj_Ref G) (ci := 7) rfl qw_1144 qw_1141 qw_8 qw_1143 qp_59 ⟨by decide, by decide, show (parseMethodDescriptor yX7_heldBy.desc).map (fun d => d.parameters.length) = some 1 by decide +kernel⟩ ⟨by decide, by decide⟩ ⟨Nat.zero_le _, Nat.zero_le _⟩ (Nat.le_of_ble_eq_true rfl) dX7_goesTo_2 rfl (fun r M' L' hp2 => ?_)
  obtain ⟨rfl, rfl, rfl⟩ := hp2
  have hb1 : -1 ≤ qHeld M i ∧ qHeld M i < qn M := lst_r _ _
  refine at_istore_n C [(2, .int (sI (qHeld M i))), (0, .ref (G.1 (258))), (1, .int (sI ((i : Int))))] dX7_goesTo_5 (by decide) rfl ?_
  refine at_iload_n C 0 dX7_goesTo_6 rfl ?_
  refine at_iconst C dX7_goesTo_7 ?_
  refine at_icmp_eq C 28 dX7_goesTo_8 (by decide) (⟨by omega, by omega⟩) (⟨by omega, by omega⟩) (fun h3 => ?_) (fun h3 => ?_)
  · refine at_iconst C dX7_goesTo_28 ?_
    exact hret _ _ _ _ _ dX7_goesTo_29 (⟨congrArg sI (if_neg (fun z => by have z1 := z.1; have z2 := z.2.1; have z3 := z.2.2; omega)).symm, rfl, rfl⟩)
  · refine at_aload_n C 1 dX7_goesTo_11 rfl ?_
    refine at_iload_n C 0 dX7_goesTo_12 rfl ?_
    refine at_call_i C (c_X7_isCaller l D G (qHeld M i) ⟨by omega, by omega⟩ hT) (As := [.int (sI (qHeld M i))]) (obj_Ref G) (ci := 7) rfl qw_1224 qw_1221 qw_8 qw_1223 qp_73 ⟨by decide, by decide, show (parseMethodDescriptor yX7_isCaller.desc).map (fun d => d.parameters.length) = some 1 by decide +kernel⟩ ⟨by decide, by decide⟩ ⟨Nat.zero_le _, Nat.zero_le _⟩ (Nat.le_of_ble_eq_true rfl) dX7_goesTo_13 rfl (fun r M' L' hp4 => ?_)
    obtain ⟨rfl, rfl, rfl⟩ := hp4
    refine at_if_eqB C 28 dX7_goesTo_16 (by decide) (fun h5 => ?_) (fun h5 => ?_)
    · refine at_iconst C dX7_goesTo_28 ?_
      exact hret _ _ _ _ _ dX7_goesTo_29 (⟨congrArg sI (if_neg (fun z => by have z1 := z.1; have z2 := z.2.1; have z3 := z.2.2; omega)).symm, rfl, rfl⟩)
    · refine at_iload_n C 0 dX7_goesTo_19 rfl ?_
      refine at_iload_n C 2 dX7_goesTo_20 rfl ?_
      refine at_icmp_eq C 28 dX7_goesTo_21 (by decide) (⟨by omega, by omega⟩) (⟨by omega, by omega⟩) (fun h6 => ?_) (fun h6 => ?_)
      · refine at_iconst C dX7_goesTo_28 ?_
        exact hret _ _ _ _ _ dX7_goesTo_29 (⟨congrArg sI (if_neg (fun z => by have z1 := z.1; have z2 := z.2.1; have z3 := z.2.2; omega)).symm, rfl, rfl⟩)
      · refine at_iload_n C 0 dX7_goesTo_24 rfl ?_
        refine at_goto C 29 dX7_goesTo_25 (by decide) ?_
        exact hret _ _ _ _ _ dX7_goesTo_29 (⟨congrArg sI (if_pos ⟨by omega, by omega, by omega⟩).symm, rfl, rfl⟩)
