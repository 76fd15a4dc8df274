theorem gF_r {i j : Nat} {w : Int} (hi : i < 1000) (hw : -1000 ≤ w ∧ w ≤ 1000) : -2000 ≤ gF i j w ∧ gF i j w ≤ 2000 := by
  unfold gF
  split <;> omega
theorem gS_r {i j : Nat} {w : Int} (hi : j < 1000) (hw : -1000 ≤ w ∧ w ≤ 1000) : -2000 ≤ gS i j w ∧ gS i j w ≤ 2000 := by
  unfold gS
  split <;> omega
theorem clmA_at {u v k : Int} {q : Nat} (hq : q < 100) (h : cR u v q) (hk : cnt (cR u v) q = k) (hf : ∀ p, p < q → ¬ (cR u v p ∧ cnt (cR u v) p = k)) (h0 : k ≠ -1) : clmA u v k = q := by
  unfold clmA
  rw [if_neg h0, fst_at (k := q) ⟨h, hk⟩ hf hq, if_neg (by omega)]
theorem clmA_no {u v k : Int} (h0 : k ≠ -1) (hf : ∀ p, p < 100 → ¬ (cR u v p ∧ cnt (cR u v) p = k)) : clmA u v k = -5 := by
  unfold clmA
  rw [if_neg h0, fst_no hf, if_pos rfl]
theorem mF_8 (M : sM) (x y : Int) : mFrac M (x, y) 0 8 = x := by unfold mFrac; rw [sSt_nj (by decide), sSt_eq]
theorem mF_9 (M : sM) (x y : Int) : mFrac M (x, y) 0 9 = y := by unfold mFrac; rw [sSt_eq]
theorem mF_div (M : sM) (x y : Int) (e : Nat) : sSt (sSt (mFrac M (x, y)) 0 8 (x / e)) 0 9 (y / e) = mFrac M (x / e, y / e) := by
  funext c j
  unfold mFrac
  rw [sSt_at, sSt_at, sSt_at, sSt_at, sSt_at, sSt_at]
  by_cases h9 : c = 0 ∧ j = 9
  · rw [if_pos h9, if_pos h9]
  · rw [if_neg h9, if_neg h9]
    by_cases h8 : c = 0 ∧ j = 8
    · rw [if_pos h8, if_neg h9, if_pos h8]
    · simp [h8, h9]
theorem kf_dx {x : Int} {e : Nat} (hx : 0 ≤ x ∧ x ≤ 2000) (he : 1 < e) : 0 ≤ x / e ∧ x / e ≤ 2000 :=
  ⟨Int.ediv_nonneg hx.1 (by omega), Int.le_trans (Int.ediv_le_self _ hx.1) hx.2⟩
theorem kf_dy {y : Int} {e : Nat} (hy : 1 ≤ y ∧ y ≤ 10) (he : 1 < e) (h : y % e = 0) : 1 ≤ y / e ∧ y / e ≤ 10 := by
  refine ⟨?_, Int.le_trans (Int.ediv_le_self _ (by omega)) hy.2⟩
  have h1 := Int.mul_ediv_add_emod y e
  rw [h] at h1
  have h2 : 0 ≤ y / (e : Int) := Int.ediv_nonneg (by omega) (by omega)
  rcases Int.lt_or_le 0 (y / (e : Int)) with q | q
  · omega
  · have : y / (e : Int) = 0 := by omega
    rw [this] at h1
    simp at h1
    omega
theorem kf_y {e : Nat} {x y : Int} (he : 1 < e) (h1 : x % e = 0) (h2 : y % e = 0) : kfr e x y = kfr (e - 1) (x / e) (y / e) := by
  obtain ⟨d, rfl⟩ : ∃ d, e = d + 1 := ⟨e - 1, by omega⟩
  show (if d = 0 then _ else if _ then _ else _) = _
  rw [if_neg (by omega), if_pos ⟨h1, h2⟩]
  rfl
theorem kf_n {e : Nat} {x y : Int} (he : 1 < e) (h : ¬ (x % e = 0 ∧ y % e = 0)) : kfr e x y = kfr (e - 1) x y := by
  obtain ⟨d, rfl⟩ : ∃ d, e = d + 1 := ⟨e - 1, by omega⟩
  show (if d = 0 then _ else if _ then _ else _) = _
  rw [if_neg (by omega), if_neg h]
  rfl
theorem kf_1 {e : Nat} {x y : Int} (he : e ≤ 1) : kfr e x y = (x, y) := by
  rcases (show e = 0 ∨ e = 1 by omega) with rfl | rfl
  · rfl
  · rfl
theorem sumW_r {M : sM} (hT : TInv M) (n : Nat) : 0 ≤ sumI (fun s => if adr M 1 s then bWei M 1 s else 0) n ∧ sumI (fun s => if adr M 1 s then bWei M 1 s else 0) n ≤ n * 22 :=
  sumI_r (fun s => by
    have := bWei_r hT (Or.inl rfl) s
    show 0 ≤ (if adr M 1 s then bWei M 1 s else 0) ∧ (if adr M 1 s then bWei M 1 s else 0) ≤ 22
    split <;> omega) n
theorem gul_b {s c : Int} (h1 : 0 ≤ s) (h2 : s ≤ 132) (h3 : 0 ≤ c) (h4 : c ≤ 10) : 0 ≤ s * (10 - c) ∧ s * (10 - c) ≤ 2000 := by
  have a : s * (10 - c) ≤ 132 * 10 := Int.mul_le_mul h2 (by omega) (by omega) (by omega)
  exact ⟨Int.mul_nonneg h1 (by omega), by omega⟩
theorem lcgN_lt {x : Nat} (h : x < 2147483648) : ∀ n, lcgN x n < 2147483648
  | 0 => h
  | _ + 1 => lcg_lt _
theorem bCpy_5 (M : sM) : bCpy M 49 1 (49 + 5) 4 = M 6 4 := rfl
theorem lcg_l {x n : Nat} (h : lcgN x n < 2147483648) : lN (lcgN x n) * 1103515245 + 12345 - (lN (lcgN x n) * 1103515245 + 12345) / 2147483648 * 2147483648 = lN (lcgN x (n + 1)) := by
  rw [show (1103515245 : Int64) = lN 1103515245 from by decide +kernel, show (12345 : Int64) = lN 12345 from by decide +kernel, show (2147483648 : Int64) = lN 2147483648 from by decide +kernel, lN_mul, lN_add, pk_lRem (by omega) (by decide) (by decide)]
  rfl
theorem lcg_a {x : Nat} (h : x < 2147483648) : (lN x / 65536 - lN x / 65536 / 3 * 3).toInt32 = sI ((x / 65536 % 3 : Nat) : Int) := by
  rw [show (65536 : Int64) = lN 65536 from by decide +kernel, show (3 : Int64) = lN 3 from by decide +kernel, pk_lDiv (by omega) (by decide) (by decide), pk_lRem (by omega) (by decide) (by decide), lN_i, sI_nI]
theorem lcg_b {x : Nat} (h : x < 2147483648) : (lN x / 1048576 - lN x / 1048576 / 6 * 6).toInt32 = sI ((x / 1048576 % 6 : Nat) : Int) := by
  rw [show (1048576 : Int64) = lN 1048576 from by decide +kernel, show (6 : Int64) = lN 6 from by decide +kernel, pk_lDiv (by omega) (by decide) (by decide), pk_lRem (by omega) (by decide) (by decide), lN_i, sI_nI]
theorem emod_r (x : Int) {e : Nat} (h : 0 < e) : 0 ≤ x % e ∧ x % e < e := ⟨Int.emod_nonneg _ (by omega), Int.emod_lt_of_pos _ (by omega)⟩
theorem bCho_r6 {M : sM} {o : Nat} (hT : TInv M) (ho : isB o) (i : Nat) : -1 ≤ bCho M o i ∧ bCho M o i ≤ 5 := by
  have h := bCho_r hT ho i
  have h2 := nS_r hT ho
  omega
theorem yr_y {M : sM} {o i : Nat} (h : (i : Int) < M o 10) (h2 : bCho M o i ≠ -1) : sSt M (o + 7) (bCho M o i).toNat i = yDo M o i := (if_pos ⟨h, h2⟩).symm
theorem yr_n {M : sM} {o i : Nat} (h : ¬ ((i : Int) < M o 10 ∧ bCho M o i ≠ -1)) : M = yDo M o i := (if_neg h).symm
set_option maxHeartbeats 4000000 in
set_option maxRecDepth 100000 in
theorem c_X6_gainOfFirst (l : Launch) (D : va_G) (G : sG) {M : sM} {L : sL} (i j : Nat) (w : Int) (hi : i < 1000) (hj : j < 1000) : sKi l D G yX6_gainOfFirst cX6_gainOfFirst 3 .int 0 0 [.int (sI ((i : Int))), .int (sI ((j : Int))), .int (sI (w))] M L (fun r M' L' => r = sI (gF i j w) ∧ M = M' ∧ L = L') := by
  refine sKi_go (by decide) (Nat.le_of_ble_eq_true rfl) ?_
  intro zp ze zs zm za zb zt zc Q C hret
  refine at_eq (lv' := [(0, .int (sI ((i : Int)))), (1, .int (sI ((j : Int)))), (2, .int (sI (w)))]) (st' := []) (M' := M) (L' := L) ?_ rfl rfl rfl rfl
  refine at_iload_n C 0 dX6_gainOfFirst_0 rfl ?_
  refine at_iload_n C 1 dX6_gainOfFirst_1 rfl ?_
  refine at_icmp_gt C 13 dX6_gainOfFirst_2 (by decide) (⟨by omega, by omega⟩) (⟨by omega, by omega⟩) (fun h1 => ?_) (fun h1 => ?_)
  · refine at_iconst C dX6_gainOfFirst_13 ?_
    exact hret _ _ _ _ _ dX6_gainOfFirst_14 (⟨congrArg sI (by unfold gF; split <;> omega), rfl, rfl⟩)
  · refine at_iload_n C 2 dX6_gainOfFirst_5 rfl ?_
    refine at_iload_n C 0 dX6_gainOfFirst_6 rfl ?_
    refine at_iconst C dX6_gainOfFirst_7 ?_
    refine at_idiv C dX6_gainOfFirst_8 (by omega) (by omega) (by omega) (by omega) ?_
    refine at_iadd C dX6_gainOfFirst_9 ?_
    refine at_goto C 14 dX6_gainOfFirst_10 (by decide) ?_
    exact hret _ _ _ _ _ dX6_gainOfFirst_14 (⟨congrArg sI (by unfold gF; split <;> omega), rfl, rfl⟩)

set_option maxHeartbeats 4000000 in
set_option maxRecDepth 100000 in
theorem c_X6_gainOfSecond (l : Launch) (D : va_G) (G : sG) {M : sM} {L : sL} (i j : Nat) (w : Int) (hi : i < 1000) (hj : j < 1000) : sKi l D G yX6_gainOfSecond cX6_gainOfSecond 3 .int 0 0 [.int (sI ((i : Int))), .int (sI ((j : Int))), .int (sI (w))] M L (fun r M' L' => r = sI (gS i j w) ∧ M = M' ∧ L = L') := by
  refine sKi_go (by decide) (Nat.le_of_ble_eq_true rfl) ?_
  intro zp ze zs zm za zb zt zc Q C hret
  refine at_eq (lv' := [(0, .int (sI ((i : Int)))), (1, .int (sI ((j : Int)))), (2, .int (sI (w)))]) (st' := []) (M' := M) (L' := L) ?_ rfl rfl rfl rfl
  refine at_iload_n C 1 dX6_gainOfSecond_0 rfl ?_
  refine at_iload_n C 0 dX6_gainOfSecond_1 rfl ?_
  refine at_icmp_ge C 13 dX6_gainOfSecond_2 (by decide) (⟨by omega, by omega⟩) (⟨by omega, by omega⟩) (fun h1 => ?_) (fun h1 => ?_)
  · refine at_iconst C dX6_gainOfSecond_13 ?_
    exact hret _ _ _ _ _ dX6_gainOfSecond_14 (⟨congrArg sI (by unfold gS; split <;> omega), rfl, rfl⟩)
  · refine at_iload_n C 2 dX6_gainOfSecond_5 rfl ?_
    refine at_iload_n C 1 dX6_gainOfSecond_6 rfl ?_
    refine at_iconst C dX6_gainOfSecond_7 ?_
    refine at_idiv C dX6_gainOfSecond_8 (by omega) (by omega) (by omega) (by omega) ?_
    refine at_iadd C dX6_gainOfSecond_9 ?_
    refine at_goto C 14 dX6_gainOfSecond_10 (by decide) ?_
    exact hret _ _ _ _ _ dX6_gainOfSecond_14 (⟨congrArg sI (by unfold gS; split <;> omega), rfl, rfl⟩)

set_option maxHeartbeats 4000000 in
set_option maxRecDepth 100000 in
theorem c_X6_rests (l : Launch) (D : va_G) (G : sG) {M : sM} {L : sL} (i j : Nat) (u v : Int) (hi : i < 1000) (hj : j < 1000) (hu : -1000 ≤ u ∧ u ≤ 1000) (hv : -1000 ≤ v ∧ v ≤ 1000) : sKi l D G yX6_rests cX6_rests 5 .boolean 1 22 [.int (sI ((i : Int))), .int (sI ((j : Int))), .int (sI (u)), .int (sI (v))] M L (fun r M' L' => r = sB (rst i j u v 10) ∧ (M = M' ∧ L = L')) := by
  refine sKz_go (by decide) (Nat.le_of_ble_eq_true rfl) ?_
  intro zp ze zs zm za zb zt zc Q C hret
  refine at_eq (lv' := [(0, .int (sI ((i : Int)))), (1, .int (sI ((j : Int)))), (2, .int (sI (u))), (3, .int (sI (v)))]) (st' := []) (M' := M) (L' := L) ?_ rfl rfl rfl rfl
  refine at_iconst C dX6_rests_0 ?_
  refine at_istore C [(4, .int (sI (0))), (0, .int (sI ((i : Int)))), (1, .int (sI ((j : Int)))), (2, .int (sI (u))), (3, .int (sI (v)))] dX6_rests_1 (by decide) rfl ?_
  have H3 : ∀ (fu : Nat) (k : Nat), 10 - k < fu → (k ≤ 10) → (rst i j u v k) → sAt zp l ze (sRm 1 22) zs zm za zb zt zc D G 5 0 0 Q 3 [(0, .int (sI ((i : Int)))), (1, .int (sI ((j : Int)))), (2, .int (sI (u))), (3, .int (sI (v))), (4, .int (sI ((k : Int))))] [] M L := by
    intro fu
    induction fu with
    | zero => intro k hd hk hf; exact absurd hd (Nat.not_lt_zero _)
    | succ fu ih3 =>
      intro k hd3 hk hf
      refine at_iload C 4 dX6_rests_3 rfl ?_
      refine at_bipush C dX6_rests_5 (by decide) (by decide) ?_
      refine at_icmp_ge C 50 dX6_rests_7 (by decide) (⟨by omega, by omega⟩) (⟨by omega, by omega⟩) (fun h1 => ?_) (fun h1 => ?_)
      · refine at_iconst C dX6_rests_50 ?_
        exact hret _ _ _ _ _ dX6_rests_51 (sB_t (by rw [← (show k = 10 by omega)]; exact hf)) ⟨rfl, rfl⟩
      · refine at_iload C 4 dX6_rests_10 rfl ?_
        refine at_iload_n C 1 dX6_rests_12 rfl ?_
        refine at_iload_n C 2 dX6_rests_13 rfl ?_
        refine at_stat_i C (c_X6_gainOfFirst l D G k j u (by omega) (by omega)) (As := [.int (sI ((k : Int))), .int (sI ((j : Int))), .int (sI (u))]) qw_808 qw_806 qw_1 qw_807 ⟨by decide, by decide, show (parseMethodDescriptor yX6_gainOfFirst.desc).map (fun d => d.parameters.length) = some 3 by decide +kernel⟩ ⟨by decide, by decide⟩ ⟨Nat.zero_le _, Nat.zero_le _⟩ (Nat.le_of_ble_eq_true rfl) dX6_rests_14 rfl (fun r M' L' hp3 => ?_)
        obtain ⟨rfl, rfl, rfl⟩ := hp3
        have hb2 := gF_r (i := k) (j := j) (w := u) (by omega) ⟨by omega, by omega⟩
        refine at_iload_n C 0 dX6_rests_17 rfl ?_
        refine at_iload_n C 1 dX6_rests_18 rfl ?_
        refine at_iload_n C 2 dX6_rests_19 rfl ?_
        refine at_stat_i C (c_X6_gainOfFirst l D G i j u (by omega) (by omega)) (As := [.int (sI ((i : Int))), .int (sI ((j : Int))), .int (sI (u))]) qw_808 qw_806 qw_1 qw_807 ⟨by decide, by decide, show (parseMethodDescriptor yX6_gainOfFirst.desc).map (fun d => d.parameters.length) = some 3 by decide +kernel⟩ ⟨by decide, by decide⟩ ⟨Nat.zero_le _, Nat.zero_le _⟩ (Nat.le_of_ble_eq_true rfl) dX6_rests_20 rfl (fun r M' L' hp5 => ?_)
        obtain ⟨rfl, rfl, rfl⟩ := hp5
        have hb4 := gF_r (i := i) (j := j) (w := u) (by omega) ⟨by omega, by omega⟩
        refine at_icmp_gt C 42 dX6_rests_23 (by decide) (⟨by omega, by omega⟩) (⟨by omega, by omega⟩) (fun h6 => ?_) (fun h6 => ?_)
        · refine at_iconst C dX6_rests_42 ?_
          exact hret _ _ _ _ _ dX6_rests_43 (sB_f (fun z => by have z1 := z k (by omega); omega)) ⟨rfl, rfl⟩
        · refine at_iload_n C 0 dX6_rests_26 rfl ?_
          refine at_iload C 4 dX6_rests_27 rfl ?_
          refine at_iload_n C 3 dX6_rests_29 rfl ?_
          refine at_stat_i C (c_X6_gainOfSecond l D G i k v (by omega) (by omega)) (As := [.int (sI ((i : Int))), .int (sI ((k : Int))), .int (sI (v))]) qw_811 qw_809 qw_1 qw_810 ⟨by decide, by decide, show (parseMethodDescriptor yX6_gainOfSecond.desc).map (fun d => d.parameters.length) = some 3 by decide +kernel⟩ ⟨by decide, by decide⟩ ⟨Nat.zero_le _, Nat.zero_le _⟩ (Nat.le_of_ble_eq_true rfl) dX6_rests_30 rfl (fun r M' L' hp8 => ?_)
          obtain ⟨rfl, rfl, rfl⟩ := hp8
          have hb7 := gS_r (i := i) (j := k) (w := v) (by omega) ⟨by omega, by omega⟩
          refine at_iload_n C 0 dX6_rests_33 rfl ?_
          refine at_iload_n C 1 dX6_rests_34 rfl ?_
          refine at_iload_n C 3 dX6_rests_35 rfl ?_
          refine at_stat_i C (c_X6_gainOfSecond l D G i j v (by omega) (by omega)) (As := [.int (sI ((i : Int))), .int (sI ((j : Int))), .int (sI (v))]) qw_811 qw_809 qw_1 qw_810 ⟨by decide, by decide, show (parseMethodDescriptor yX6_gainOfSecond.desc).map (fun d => d.parameters.length) = some 3 by decide +kernel⟩ ⟨by decide, by decide⟩ ⟨Nat.zero_le _, Nat.zero_le _⟩ (Nat.le_of_ble_eq_true rfl) dX6_rests_36 rfl (fun r M' L' hp10 => ?_)
          obtain ⟨rfl, rfl, rfl⟩ := hp10
          have hb9 := gS_r (i := i) (j := j) (w := v) (by omega) ⟨by omega, by omega⟩
          refine at_icmp_le C 44 dX6_rests_39 (by decide) (⟨by omega, by omega⟩) (⟨by omega, by omega⟩) (fun h11 => ?_) (fun h11 => ?_)
          · refine at_iinc C 4 [(4, .int (sI ((k : Int) + 1))), (0, .int (sI ((i : Int)))), (1, .int (sI ((j : Int)))), (2, .int (sI (u))), (3, .int (sI (v)))] dX6_rests_44 rfl (by decide) rfl ?_
            refine at_goto C 3 dX6_rests_47 (by decide) ?_
            refine at_lv [1, 2, 3, 4, 0] rfl ?_
            exact at_eq (ih3 (k + 1) (by omega) (by omega) (all_s.mpr ⟨hf, by assumption, by assumption⟩)) (lvc_s (lvc_s (lvc_s (lvc_s (lvc_i (by omega) rfl))))) rfl (rfl) (rfl)
          · refine at_iconst C dX6_rests_42 ?_
            exact hret _ _ _ _ _ dX6_rests_43 (sB_f (fun z => by have z1 := z k (by omega); omega)) ⟨rfl, rfl⟩
  refine at_lv [1, 2, 3, 4, 0] rfl ?_
  exact at_eq (H3 _ 0 (Nat.lt_succ_self _) (by omega) (fun t ht => absurd ht (Nat.not_lt_zero _))) (lvc_s (lvc_s (lvc_s (lvc_s (lvc_i (rfl) rfl))))) rfl (rfl) (rfl)

set_option maxHeartbeats 4000000 in
set_option maxRecDepth 100000 in
theorem c_X6_claim (l : Launch) (D : va_G) (G : sG) {M : sM} {L : sL} (a b s k : Int) (har : InR a) (hbr : InR b) (hsr : InR s) (hkr : InR k) (hT : TInv M) (hc : sCt M) : sKi l D G yX6_claim cX6_claim 9 .int 3 68 [.ref (G.1 (0)), .int (sI (a)), .int (sI (b)), .int (sI (s)), .int (sI (k))] M L (fun r M' L' => r = sI (rClaim M a b s k) ∧ M' = mB M (okClaim M a b s k) ∧ TInv M' ∧ L = L') := by
  refine sKi_go (by decide) (Nat.le_of_ble_eq_true rfl) ?_
  intro zp ze zs zm za zb zt zc Q C hret
  refine at_eq (lv' := [(0, .ref (G.1 (0))), (1, .int (sI (a))), (2, .int (sI (b))), (3, .int (sI (s))), (4, .int (sI (k)))]) (st' := []) (M' := M) (L' := L) ?_ rfl rfl rfl rfl
  have hcc := tv_callers hT (Or.inl rfl)
  have hss := tv_souls hT (Or.inl rfl)
  refine at_aload_n C 0 dX6_claim_0 rfl ?_
  refine at_getf (v := .ref (G.1 (1))) C (obj_Sho G) (ci := 6) rfl inX6 (slot := 0) (by decide) qw_249 rfl rfl dX6_claim_1 ?_
  refine at_iload_n C 1 dX6_claim_4 rfl ?_
  refine at_call_i C (c_X0_hasCaller l D G (Or.inl rfl) hT a ⟨by omega, by omega⟩) (As := [.int (sI (a))]) (obj_Bea G (Or.inl rfl)) (ci := 0) rfl qw_579 qw_576 qw_2 qw_577 qw_578 ⟨by decide, by decide, show (parseMethodDescriptor yX0_hasCaller.desc).map (fun d => d.parameters.length) = some 1 by decide +kernel⟩ ⟨by decide, by decide⟩ ⟨Nat.zero_le _, Nat.zero_le _⟩ (Nat.le_of_ble_eq_true rfl) dX6_claim_5 rfl (fun r M' L' hp1 => ?_)
  obtain ⟨rfl, rfl, rfl⟩ := hp1
  refine at_vi (y := sB (0 ≤ a ∧ a < M 1 10)) rfl ?_
  refine at_if_eqB C 44 dX6_claim_8 (by decide) (fun h2 => ?_) (fun h2 => ?_)
  · refine at_aload_n C 0 dX6_claim_44 rfl ?_
    refine at_bipush C dX6_claim_45 (by decide) (by decide) ?_
    refine at_call_i C (c_X6_refuseBad l D G (-10) hT ⟨by omega, by omega, by omega⟩) (As := [.int (sI (-10))]) (obj_Sho G) (ci := 6) rfl qw_311 qw_308 qw_1 qw_310 qp_0 ⟨by decide, by decide, show (parseMethodDescriptor yX6_refuseBad.desc).map (fun d => d.parameters.length) = some 1 by decide +kernel⟩ ⟨by decide, by decide⟩ ⟨Nat.zero_le _, Nat.zero_le _⟩ (Nat.le_of_ble_eq_true rfl) dX6_claim_47 rfl (fun r M' L' hp4 => ?_)
    obtain ⟨rfl, rfl, hT3, rfl⟩ := hp4
    exact hret _ _ _ _ _ dX6_claim_50 (⟨congrArg sI (if_neg (by unfold okClaim; omega)).symm, (if_neg (by unfold okClaim; omega)).symm, hT3, rfl⟩)
  · refine at_aload_n C 0 dX6_claim_11 rfl ?_
    refine at_getf (v := .ref (G.1 (1))) C (obj_Sho G) (ci := 6) rfl inX6 (slot := 0) (by decide) qw_249 rfl rfl dX6_claim_12 ?_
    refine at_iload_n C 2 dX6_claim_15 rfl ?_
    refine at_call_i C (c_X0_hasCaller l D G (Or.inl rfl) hT b ⟨by omega, by omega⟩) (As := [.int (sI (b))]) (obj_Bea G (Or.inl rfl)) (ci := 0) rfl qw_579 qw_576 qw_2 qw_577 qw_578 ⟨by decide, by decide, show (parseMethodDescriptor yX0_hasCaller.desc).map (fun d => d.parameters.length) = some 1 by decide +kernel⟩ ⟨by decide, by decide⟩ ⟨Nat.zero_le _, Nat.zero_le _⟩ (Nat.le_of_ble_eq_true rfl) dX6_claim_16 rfl (fun r M' L' hp5 => ?_)
    obtain ⟨rfl, rfl, rfl⟩ := hp5
    refine at_vi (y := sB (0 ≤ b ∧ b < M 1 10)) rfl ?_
    refine at_if_eqB C 44 dX6_claim_19 (by decide) (fun h6 => ?_) (fun h6 => ?_)
    · refine at_aload_n C 0 dX6_claim_44 rfl ?_
      refine at_bipush C dX6_claim_45 (by decide) (by decide) ?_
      refine at_call_i C (c_X6_refuseBad l D G (-10) hT ⟨by omega, by omega, by omega⟩) (As := [.int (sI (-10))]) (obj_Sho G) (ci := 6) rfl qw_311 qw_308 qw_1 qw_310 qp_0 ⟨by decide, by decide, show (parseMethodDescriptor yX6_refuseBad.desc).map (fun d => d.parameters.length) = some 1 by decide +kernel⟩ ⟨by decide, by decide⟩ ⟨Nat.zero_le _, Nat.zero_le _⟩ (Nat.le_of_ble_eq_true rfl) dX6_claim_47 rfl (fun r M' L' hp8 => ?_)
      obtain ⟨rfl, rfl, hT7, rfl⟩ := hp8
      exact hret _ _ _ _ _ dX6_claim_50 (⟨congrArg sI (if_neg (by unfold okClaim; omega)).symm, (if_neg (by unfold okClaim; omega)).symm, hT7, rfl⟩)
    · refine at_iload_n C 1 dX6_claim_22 rfl ?_
      refine at_iload_n C 2 dX6_claim_23 rfl ?_
      refine at_icmp_eq C 44 dX6_claim_24 (by decide) (⟨by omega, by omega⟩) (⟨by omega, by omega⟩) (fun h9 => ?_) (fun h9 => ?_)
      · refine at_aload_n C 0 dX6_claim_44 rfl ?_
        refine at_bipush C dX6_claim_45 (by decide) (by decide) ?_
        refine at_call_i C (c_X6_refuseBad l D G (-10) hT ⟨by omega, by omega, by omega⟩) (As := [.int (sI (-10))]) (obj_Sho G) (ci := 6) rfl qw_311 qw_308 qw_1 qw_310 qp_0 ⟨by decide, by decide, show (parseMethodDescriptor yX6_refuseBad.desc).map (fun d => d.parameters.length) = some 1 by decide +kernel⟩ ⟨by decide, by decide⟩ ⟨Nat.zero_le _, Nat.zero_le _⟩ (Nat.le_of_ble_eq_true rfl) dX6_claim_47 rfl (fun r M' L' hp11 => ?_)
        obtain ⟨rfl, rfl, hT10, rfl⟩ := hp11
        exact hret _ _ _ _ _ dX6_claim_50 (⟨congrArg sI (if_neg (by unfold okClaim; omega)).symm, (if_neg (by unfold okClaim; omega)).symm, hT10, rfl⟩)
      · refine at_aload_n C 0 dX6_claim_27 rfl ?_
        refine at_getf (v := .ref (G.1 (1))) C (obj_Sho G) (ci := 6) rfl inX6 (slot := 0) (by decide) qw_249 rfl rfl dX6_claim_28 ?_
        refine at_iload_n C 3 dX6_claim_31 rfl ?_
        refine at_call_i C (c_X0_hasSoul l D G (Or.inl rfl) hT s ⟨by omega, by omega⟩) (As := [.int (sI (s))]) (obj_Bea G (Or.inl rfl)) (ci := 0) rfl qw_602 qw_599 qw_2 qw_600 qw_601 ⟨by decide, by decide, show (parseMethodDescriptor yX0_hasSoul.desc).map (fun d => d.parameters.length) = some 1 by decide +kernel⟩ ⟨by decide, by decide⟩ ⟨Nat.zero_le _, Nat.zero_le _⟩ (Nat.le_of_ble_eq_true rfl) dX6_claim_32 rfl (fun r M' L' hp12 => ?_)
        obtain ⟨rfl, rfl, rfl⟩ := hp12
        refine at_vi (y := sB (0 ≤ s ∧ s < M 1 9)) rfl ?_
        refine at_if_eqB C 44 dX6_claim_35 (by decide) (fun h13 => ?_) (fun h13 => ?_)
        · refine at_aload_n C 0 dX6_claim_44 rfl ?_
          refine at_bipush C dX6_claim_45 (by decide) (by decide) ?_
          refine at_call_i C (c_X6_refuseBad l D G (-10) hT ⟨by omega, by omega, by omega⟩) (As := [.int (sI (-10))]) (obj_Sho G) (ci := 6) rfl qw_311 qw_308 qw_1 qw_310 qp_0 ⟨by decide, by decide, show (parseMethodDescriptor yX6_refuseBad.desc).map (fun d => d.parameters.length) = some 1 by decide +kernel⟩ ⟨by decide, by decide⟩ ⟨Nat.zero_le _, Nat.zero_le _⟩ (Nat.le_of_ble_eq_true rfl) dX6_claim_47 rfl (fun r M' L' hp15 => ?_)
          obtain ⟨rfl, rfl, hT14, rfl⟩ := hp15
          exact hret _ _ _ _ _ dX6_claim_50 (⟨congrArg sI (if_neg (by unfold okClaim; omega)).symm, (if_neg (by unfold okClaim; omega)).symm, hT14, rfl⟩)
        · refine at_iload C 4 dX6_claim_38 rfl ?_
          refine at_iconst C dX6_claim_40 ?_
          refine at_icmp_ge C 51 dX6_claim_41 (by decide) (⟨by omega, by omega⟩) (⟨by omega, by omega⟩) (fun h16 => ?_) (fun h16 => ?_)
          · obtain ⟨na, rfl⟩ : ∃ na : Nat, a = (na : Int) := ⟨a.toNat, by omega⟩
            obtain ⟨nb, rfl⟩ : ∃ nb : Nat, b = (nb : Int) := ⟨b.toNat, by omega⟩
            obtain ⟨n, rfl⟩ : ∃ n : Nat, s = (n : Int) := ⟨s.toNat, by omega⟩
            have hda := bDst_r hT (Or.inl rfl) n na
            have hdb := bDst_r hT (Or.inl rfl) n nb
            refine at_bipush C dX6_claim_51 (by decide) (by decide) ?_
            refine at_aload_n C 0 dX6_claim_53 rfl ?_
            refine at_getf (v := .ref (G.1 (1))) C (obj_Sho G) (ci := 6) rfl inX6 (slot := 0) (by decide) qw_249 rfl rfl dX6_claim_54 ?_
            refine at_iload_n C 3 dX6_claim_57 rfl ?_
            refine at_iload_n C 1 dX6_claim_58 rfl ?_
            refine at_call_i C (c_X0_distance l D G (Or.inl rfl) hT n na (by omega) (by omega)) (As := [.int (sI ((n : Int))), .int (sI ((na : Int)))]) (obj_Bea G (Or.inl rfl)) (ci := 0) rfl qw_505 qw_802 qw_2 qw_503 qw_504 ⟨by decide, by decide, show (parseMethodDescriptor yX0_distance.desc).map (fun d => d.parameters.length) = some 2 by decide +kernel⟩ ⟨by decide, by decide⟩ ⟨Nat.zero_le _, Nat.zero_le _⟩ (Nat.le_of_ble_eq_true rfl) dX6_claim_59 rfl (fun r M' L' hp18 => ?_)
            obtain ⟨rfl, rfl, rfl⟩ := hp18
            refine at_ve (b := bDst M 1 n na) rfl ?_
            have hb17 := bDst_r hT (Or.inl rfl) n na
            refine at_isub C dX6_claim_62 ?_
            refine at_istore C [(5, .int (sI (9 - (bDst M 1 n na)))), (0, .ref (G.1 (0))), (1, .int (sI ((na : Int)))), (2, .int (sI ((nb : Int)))), (3, .int (sI ((n : Int)))), (4, .int (sI (k)))] dX6_claim_63 (by decide) rfl ?_
            refine at_bipush C dX6_claim_65 (by decide) (by decide) ?_
            refine at_aload_n C 1 dX6_claim_67 rfl ?_
            refine at_getf (v := .ref (G.1 (1))) C (obj_Sho G) (ci := 6) rfl inX6 (slot := 0) (by decide) qw_249 rfl rfl dX6_claim_68 ?_
            refine at_iload_n C 4 dX6_claim_71 rfl ?_
            refine at_iload_n C 3 dX6_claim_72 rfl ?_
            refine at_call_i C (c_X0_distance l D G (Or.inl rfl) hT n nb (by omega) (by omega)) (As := [.int (sI ((n : Int))), .int (sI ((nb : Int)))]) (obj_Bea G (Or.inl rfl)) (ci := 0) rfl qw_505 qw_802 qw_2 qw_503 qw_504 ⟨by decide, by decide, show (parseMethodDescriptor yX0_distance.desc).map (fun d => d.parameters.length) = some 2 by decide +kernel⟩ ⟨by decide, by decide⟩ ⟨Nat.zero_le _, Nat.zero_le _⟩ (Nat.le_of_ble_eq_true rfl) dX6_claim_73 rfl (fun r M' L' hp20 => ?_)
            obtain ⟨rfl, rfl, rfl⟩ := hp20
            refine at_ve (b := bDst M 1 n nb) rfl ?_
            have hb19 := bDst_r hT (Or.inl rfl) n nb
            refine at_isub C dX6_claim_76 ?_
            refine at_istore C [(6, .int (sI (9 - (bDst M 1 n nb)))), (5, .int (sI (9 - (bDst M 1 n na)))), (0, .ref (G.1 (0))), (1, .int (sI ((na : Int)))), (2, .int (sI ((nb : Int)))), (3, .int (sI ((n : Int)))), (4, .int (sI (k)))] dX6_claim_77 (by decide) rfl ?_
            refine at_iconst C dX6_claim_79 ?_
            refine at_istore C [(7, .int (sI (0))), (6, .int (sI (9 - (bDst M 1 n nb)))), (5, .int (sI (9 - (bDst M 1 n na)))), (0, .ref (G.1 (0))), (1, .int (sI ((na : Int)))), (2, .int (sI ((nb : Int)))), (3, .int (sI ((n : Int)))), (4, .int (sI (k)))] dX6_claim_80 (by decide) rfl ?_
            refine at_iconst C dX6_claim_82 ?_
            refine at_istore C [(8, .int (sI (0))), (7, .int (sI (0))), (6, .int (sI (9 - (bDst M 1 n nb)))), (5, .int (sI (9 - (bDst M 1 n na)))), (0, .ref (G.1 (0))), (1, .int (sI ((na : Int)))), (2, .int (sI ((nb : Int)))), (3, .int (sI ((n : Int)))), (4, .int (sI (k)))] dX6_claim_83 (by decide) rfl ?_
            have H85 : ∀ (fu : Nat) (q : Nat), 100 - q < fu → (q ≤ 100) → (∀ p, p < q → ¬ (cR (9 - bDst M 1 n na) (9 - bDst M 1 n nb) p ∧ cnt (cR (9 - bDst M 1 n na) (9 - bDst M 1 n nb)) p = k)) → sAt zp l ze (sRm 3 68) zs zm za zb zt zc D G 9 0 0 Q 85 [(0, .ref (G.1 (0))), (1, .int (sI ((na : Int)))), (2, .int (sI ((nb : Int)))), (3, .int (sI ((n : Int)))), (4, .int (sI (k))), (5, .int (sI (9 - (bDst M 1 n na)))), (6, .int (sI (9 - (bDst M 1 n nb)))), (7, .int (sI (cnt (cR (9 - bDst M 1 n na) (9 - bDst M 1 n nb)) q))), (8, .int (sI ((q : Int))))] [] M L := by
              intro fu
              induction fu with
              | zero => intro q hd hq hf; exact absurd hd (Nat.not_lt_zero _)
              | succ fu ih85 =>
                intro q hd85 hq hf
                have hcr := cnt_r (cR (9 - bDst M 1 n na) (9 - bDst M 1 n nb)) q
                refine at_iload C 8 dX6_claim_85 rfl ?_
                refine at_bipush C dX6_claim_87 (by decide) (by decide) ?_
                refine at_icmp_ge C 131 dX6_claim_89 (by decide) (⟨by omega, by omega⟩) (⟨by omega, by omega⟩) (fun h21 => ?_) (fun h21 => ?_)
                · refine at_iload C 4 dX6_claim_131 rfl ?_
                  refine at_iconst C dX6_claim_133 ?_
                  refine at_icmp_ne C 142 dX6_claim_134 (by decide) (⟨by omega, by omega⟩) (⟨by omega, by omega⟩) (fun h22 => ?_) (fun h22 => ?_)
                  · refine at_bipush C dX6_claim_142 (by decide) (by decide) ?_
                    exact hret _ _ _ _ _ dX6_claim_144 (⟨congrArg sI ((if_pos (by unfold okClaim; omega)).trans (show clmA (9 - bDst M 1 n na) (9 - bDst M 1 n nb) k = _ from by obtain rfl : q = 100 := (by omega); exact clmA_no (by omega) hf)).symm, (if_pos (by unfold okClaim; omega)).symm, hT, rfl⟩)
                  · refine at_iload C 7 dX6_claim_137 rfl ?_
                    refine at_goto C 144 dX6_claim_139 (by decide) ?_
                    exact hret _ _ _ _ _ dX6_claim_144 (⟨congrArg sI ((if_pos (by unfold okClaim; omega)).trans (show clmA (9 - bDst M 1 n na) (9 - bDst M 1 n nb) k = _ from by obtain rfl : q = 100 := (by omega); exact if_pos (by omega))).symm, (if_pos (by unfold okClaim; omega)).symm, hT, rfl⟩)
                · refine at_iload C 8 dX6_claim_92 rfl ?_
                  refine at_bipush C dX6_claim_94 (by decide) (by decide) ?_
                  refine at_idiv C dX6_claim_96 (by omega) (by omega) (by omega) (by omega) ?_
                  refine at_iload C 8 dX6_claim_97 rfl ?_
                  refine at_bipush C dX6_claim_99 (by decide) (by decide) ?_
                  refine at_irem C dX6_claim_101 (by omega) (by omega) (by omega) (by omega) ?_
                  refine at_iload C 5 dX6_claim_102 rfl ?_
                  refine at_iload C 6 dX6_claim_104 rfl ?_
                  refine at_stat_i C (c_X6_rests l D G (q / 10) (q % 10) (9 - (bDst M 1 n na)) (9 - (bDst M 1 n nb)) (by omega) (by omega) ⟨by omega, by omega⟩ ⟨by omega, by omega⟩) (As := [.int (sI ((q : Int) / 10)), .int (sI ((q : Int) % 10)), .int (sI (9 - (bDst M 1 n na))), .int (sI (9 - (bDst M 1 n nb)))]) qw_805 qw_803 qw_1 qw_804 ⟨by decide, by decide, show (parseMethodDescriptor yX6_rests.desc).map (fun d => d.parameters.length) = some 4 by decide +kernel⟩ ⟨by decide, by decide⟩ ⟨Nat.zero_le _, Nat.zero_le _⟩ (Nat.le_of_ble_eq_true rfl) dX6_claim_106 rfl (fun r M' L' hp23 => ?_)
                  obtain ⟨rfl, rfl, rfl⟩ := hp23
                  refine at_if_eqB C 125 dX6_claim_109 (by decide) (fun h24 => ?_) (fun h24 => ?_)
                  · refine at_iinc C 8 [(8, .int (sI ((q : Int) + 1))), (0, .ref (G.1 (0))), (1, .int (sI ((na : Int)))), (2, .int (sI ((nb : Int)))), (3, .int (sI ((n : Int)))), (4, .int (sI (k))), (5, .int (sI (9 - (bDst M 1 n na)))), (6, .int (sI (9 - (bDst M 1 n nb)))), (7, .int (sI (cnt (cR (9 - bDst M 1 n na) (9 - bDst M 1 n nb)) q)))] dX6_claim_125 rfl (by decide) rfl ?_
                    refine at_goto C 85 dX6_claim_128 (by decide) ?_
                    refine at_lv [1, 2, 3, 4, 5, 6, 7, 8, 0] rfl ?_
                    exact at_eq (ih85 (q + 1) (by omega) (by omega) (fun p hp => by
                rcases Nat.lt_succ_iff_lt_or_eq.mp hp with z | z
                · exact hf p z
                · rw [z]; exact fun w => by exact absurd w.1 (by assumption))) (lvc_s (lvc_s (lvc_s (lvc_s (lvc_s (lvc_s (lvc_s (lvc_i (by rw [cnt_n (by assumption)]) (lvc_i (by omega) rfl))))))))) rfl (rfl) (rfl)
                  · refine at_iload C 7 dX6_claim_112 rfl ?_
                    refine at_iload C 4 dX6_claim_114 rfl ?_
                    refine at_icmp_ne C 122 dX6_claim_116 (by decide) (⟨by omega, by omega⟩) (⟨by omega, by omega⟩) (fun h25 => ?_) (fun h25 => ?_)
                    · refine at_iinc C 7 [(7, .int (sI ((cnt (cR (9 - bDst M 1 n na) (9 - bDst M 1 n nb)) q) + 1))), (0, .ref (G.1 (0))), (1, .int (sI ((na : Int)))), (2, .int (sI ((nb : Int)))), (3, .int (sI ((n : Int)))), (4, .int (sI (k))), (5, .int (sI (9 - (bDst M 1 n na)))), (6, .int (sI (9 - (bDst M 1 n nb)))), (8, .int (sI ((q : Int))))] dX6_claim_122 rfl (by decide) rfl ?_
                      refine at_iinc C 8 [(8, .int (sI ((q : Int) + 1))), (7, .int (sI ((cnt (cR (9 - bDst M 1 n na) (9 - bDst M 1 n nb)) q) + 1))), (0, .ref (G.1 (0))), (1, .int (sI ((na : Int)))), (2, .int (sI ((nb : Int)))), (3, .int (sI ((n : Int)))), (4, .int (sI (k))), (5, .int (sI (9 - (bDst M 1 n na)))), (6, .int (sI (9 - (bDst M 1 n nb))))] dX6_claim_125 rfl (by decide) rfl ?_
                      refine at_goto C 85 dX6_claim_128 (by decide) ?_
                      refine at_lv [2, 3, 4, 5, 6, 7, 8, 1, 0] rfl ?_
                      exact at_eq (ih85 (q + 1) (by omega) (by omega) (fun p hp => by
                rcases Nat.lt_succ_iff_lt_or_eq.mp hp with z | z
                · exact hf p z
                · rw [z]; exact fun w => by have := w.2; omega)) (lvc_s (lvc_s (lvc_s (lvc_s (lvc_s (lvc_s (lvc_s (lvc_i (by rw [cnt_y (by assumption)]) (lvc_i (by omega) rfl))))))))) rfl (rfl) (rfl)
                    · refine at_iload C 8 dX6_claim_119 rfl ?_
                      exact hret _ _ _ _ _ dX6_claim_121 (⟨congrArg sI ((if_pos (by unfold okClaim; omega)).trans (show clmA (9 - bDst M 1 n na) (9 - bDst M 1 n nb) k = _ from clmA_at (by omega) (by assumption) (by omega) hf (by have := hcr.1; omega))).symm, (if_pos (by unfold okClaim; omega)).symm, hT, rfl⟩)
            refine at_lv [4, 5, 6, 7, 8, 3, 2, 1, 0] rfl ?_
            exact at_eq (H85 _ 0 (Nat.lt_succ_self _) (by omega) (fun p hp => absurd hp (Nat.not_lt_zero _))) (lvc_s (lvc_s (lvc_s (lvc_s (lvc_s (lvc_s (lvc_s (lvc_i (rfl) (lvc_i (rfl) rfl))))))))) rfl (rfl) (rfl)
          · refine at_aload_n C 0 dX6_claim_44 rfl ?_
            refine at_bipush C dX6_claim_45 (by decide) (by decide) ?_
            refine at_call_i C (c_X6_refuseBad l D G (-10) hT ⟨by omega, by omega, by omega⟩) (As := [.int (sI (-10))]) (obj_Sho G) (ci := 6) rfl qw_311 qw_308 qw_1 qw_310 qp_0 ⟨by decide, by decide, show (parseMethodDescriptor yX6_refuseBad.desc).map (fun d => d.parameters.length) = some 1 by decide +kernel⟩ ⟨by decide, by decide⟩ ⟨Nat.zero_le _, Nat.zero_le _⟩ (Nat.le_of_ble_eq_true rfl) dX6_claim_47 rfl (fun r M' L' hp27 => ?_)
            obtain ⟨rfl, rfl, hT26, rfl⟩ := hp27
            exact hret _ _ _ _ _ dX6_claim_50 (⟨congrArg sI (if_neg (by unfold okClaim; omega)).symm, (if_neg (by unfold okClaim; omega)).symm, hT26, rfl⟩)

set_option maxHeartbeats 4000000 in
set_option maxRecDepth 100000 in
theorem c_X6_keepFraction (l : Launch) (D : va_G) (G : sG) {M : sM} {L : sL} (a : Int) (ha : 0 ≤ a ∧ a ≤ 2000) (hT : TInv M) : sKv l D G yX6_keepFraction cX6_keepFraction 4 0 0 [.ref (G.1 (0)), .int (sI (a)), .int (sI (10))] M L (fun M' L' => M' = mFrac M (kfr 10 a 10) ∧ TInv M' ∧ L = L') := by
  refine sKv_go (by decide) (Nat.le_of_ble_eq_true rfl) ?_
  intro zp ze zs zm za zb zt zc Q C hret
  refine at_eq (lv' := [(0, .ref (G.1 (0))), (1, .int (sI (a))), (2, .int (sI (10)))]) (st' := []) (M' := M) (L' := L) ?_ rfl rfl rfl rfl
  refine at_aload_n C 0 dX6_keepFraction_0 rfl ?_
  refine at_iload_n C 1 dX6_keepFraction_1 rfl ?_
  refine at_putM (slot := 8) (ty := .int) C tyX6 (obj_Sho G) (ci := 6) rfl inX6 tyX6_ok nmX6 (by decide) qw_257 rfl rfl (by decide +kernel) rfl rfl (Nat.le_of_ble_eq_true rfl) rfl dX6_keepFraction_2 ?_
  have hT1 : TInv (sSt M 0 8 a) := tv_st hT (k := 0) (j := 8) rfl (⟨by omega, by omega⟩)
  refine at_aload_n C 0 dX6_keepFraction_5 rfl ?_
  refine at_iload_n C 2 dX6_keepFraction_6 rfl ?_
  refine at_putM (slot := 9) (ty := .int) C tyX6 (obj_Sho G) (ci := 6) rfl inX6 tyX6_ok nmX6 (by decide) qw_258 rfl rfl (by decide +kernel) rfl rfl (Nat.le_of_ble_eq_true rfl) rfl dX6_keepFraction_7 ?_
  have hT2 : TInv (sSt (sSt M 0 8 a) 0 9 10) := tv_st hT1 (k := 0) (j := 9) rfl (⟨by omega, by omega⟩)
  refine at_iload_n C 2 dX6_keepFraction_10 rfl ?_
  refine at_istore_n C [(3, .int (sI (10))), (0, .ref (G.1 (0))), (1, .int (sI (a))), (2, .int (sI (10)))] dX6_keepFraction_11 (by decide) rfl ?_
  have H12 : ∀ (fu : Nat) (e : Nat) (x : Int) (y : Int), e < fu → (e ≤ 10) → (0 ≤ x ∧ x ≤ 2000) → (1 ≤ y ∧ y ≤ 10) → (TInv (mFrac M (x, y))) → (kfr e x y = kfr 10 a 10) → sAt zp l ze (sRm 0 0) zs zm za zb zt zc D G 4 0 0 Q 12 [(0, .ref (G.1 (0))), (1, .int (sI (a))), (2, .int (sI (10))), (3, .int (sI ((e : Int))))] [] (mFrac M (x, y)) L := by
    intro fu
    induction fu with
    | zero => intro e x y hd he hx hy hTk hk; exact absurd hd (Nat.not_lt_zero _)
    | succ fu ih12 =>
      intro e x y hd12 he hx hy hTk hk
      have g8 : mFrac M (x, y) 0 8 = x := mF_8 M x y
      have g9 : mFrac M (x, y) 0 9 = y := mF_9 M x y
      refine at_iload_n C 3 dX6_keepFraction_12 rfl ?_
      refine at_iconst C dX6_keepFraction_13 ?_
      refine at_icmp_le C 61 dX6_keepFraction_14 (by decide) (⟨by omega, by omega⟩) (⟨by omega, by omega⟩) (fun h3 => ?_) (fun h3 => ?_)
      · exact hret _ _ _ _ dX6_keepFraction_61 (⟨by rw [← hk, kf_1 (by omega)], hTk, rfl⟩)
      · refine at_aload_n C 0 dX6_keepFraction_17 rfl ?_
        refine at_getf (v := .int (sI ((mFrac M (x, y)) 0 8))) C (obj_Sho G) (ci := 6) rfl inX6 (slot := 8) (by decide) qw_257 rfl rfl dX6_keepFraction_18 ?_
        have hb4 := tv hTk (k := 0) (j := 8) rfl
        refine at_ve (b := x) (g8) ?_
        refine at_iload_n C 3 dX6_keepFraction_21 rfl ?_
        refine at_irem C dX6_keepFraction_22 (by omega) (by omega) (by omega) (by omega) ?_
        have hm1 := emod_r x (e := e) (by omega)
        refine at_if_ne C 55 dX6_keepFraction_23 (by decide) (⟨by omega, by omega⟩) (fun h5 => ?_) (fun h5 => ?_)
        · refine at_iinc C 3 [(3, .int (sI ((e : Int) + (-1)))), (0, .ref (G.1 (0))), (1, .int (sI (a))), (2, .int (sI (10)))] dX6_keepFraction_55 rfl (by decide) rfl ?_
          refine at_goto C 12 dX6_keepFraction_58 (by decide) ?_
          refine at_lv [1, 2, 3, 0] rfl ?_
          exact at_eq (ih12 (e - 1) x y (by omega) (by omega) (hx) (hy) (hTk) (by rw [← hk]; exact (kf_n (by omega) (fun z => by have z1 := z.1; have z2 := z.2; omega)).symm)) (lvc_s (lvc_s (lvc_s (lvc_i (by omega) rfl)))) rfl (rfl) (rfl)
        · refine at_aload_n C 0 dX6_keepFraction_26 rfl ?_
          refine at_getf (v := .int (sI ((mFrac M (x, y)) 0 9))) C (obj_Sho G) (ci := 6) rfl inX6 (slot := 9) (by decide) qw_258 rfl rfl dX6_keepFraction_27 ?_
          have hb6 := tv hTk (k := 0) (j := 9) rfl
          refine at_ve (b := y) (g9) ?_
          refine at_iload_n C 3 dX6_keepFraction_30 rfl ?_
          refine at_irem C dX6_keepFraction_31 (by omega) (by omega) (by omega) (by omega) ?_
          have hm2 := emod_r y (e := e) (by omega)
          refine at_if_ne C 55 dX6_keepFraction_32 (by decide) (⟨by omega, by omega⟩) (fun h7 => ?_) (fun h7 => ?_)
          · refine at_iinc C 3 [(3, .int (sI ((e : Int) + (-1)))), (0, .ref (G.1 (0))), (1, .int (sI (a))), (2, .int (sI (10)))] dX6_keepFraction_55 rfl (by decide) rfl ?_
            refine at_goto C 12 dX6_keepFraction_58 (by decide) ?_
            refine at_lv [1, 2, 3, 0] rfl ?_
            exact at_eq (ih12 (e - 1) x y (by omega) (by omega) (hx) (hy) (hTk) (by rw [← hk]; exact (kf_n (by omega) (fun z => by have z1 := z.1; have z2 := z.2; omega)).symm)) (lvc_s (lvc_s (lvc_s (lvc_i (by omega) rfl)))) rfl (rfl) (rfl)
          · refine at_aload_n C 0 dX6_keepFraction_35 rfl ?_
            refine at_dup C dX6_keepFraction_36 rfl ?_
            refine at_getf (v := .int (sI ((mFrac M (x, y)) 0 8))) C (obj_Sho G) (ci := 6) rfl inX6 (slot := 8) (by decide) qw_257 rfl rfl dX6_keepFraction_37 ?_
            have hb8 := tv hTk (k := 0) (j := 8) rfl
            refine at_ve (b := x) (g8) ?_
            refine at_iload_n C 3 dX6_keepFraction_40 rfl ?_
            refine at_idiv C dX6_keepFraction_41 (by omega) (by omega) (by omega) (by omega) ?_
            refine at_putM (slot := 8) (ty := .int) C tyX6 (obj_Sho G) (ci := 6) rfl inX6 tyX6_ok nmX6 (by decide) qw_257 rfl rfl (by decide +kernel) rfl rfl (Nat.le_of_ble_eq_true rfl) rfl dX6_keepFraction_42 ?_
            have hT9 : TInv (sSt (mFrac M (x, y)) 0 8 (x / (e : Int))) := tv_st hTk (k := 0) (j := 8) rfl (kf_dx hx (by omega))
            refine at_aload_n C 0 dX6_keepFraction_45 rfl ?_
            refine at_dup C dX6_keepFraction_46 rfl ?_
            refine at_getf (v := .int (sI ((sSt (mFrac M (x, y)) 0 8 (x / (e : Int))) 0 9))) C (obj_Sho G) (ci := 6) rfl inX6 (slot := 9) (by decide) qw_258 rfl rfl dX6_keepFraction_47 ?_
            have hb10 := tv hT9 (k := 0) (j := 9) rfl
            refine at_ve (b := y) (by rw [sSt_nj (by decide)]; exact g9) ?_
            refine at_iload_n C 3 dX6_keepFraction_50 rfl ?_
            refine at_idiv C dX6_keepFraction_51 (by omega) (by omega) (by omega) (by omega) ?_
            refine at_putM (slot := 9) (ty := .int) C tyX6 (obj_Sho G) (ci := 6) rfl inX6 tyX6_ok nmX6 (by decide) qw_258 rfl rfl (by decide +kernel) rfl rfl (Nat.le_of_ble_eq_true rfl) rfl dX6_keepFraction_52 ?_
            have hT11 : TInv (sSt (sSt (mFrac M (x, y)) 0 8 (x / (e : Int))) 0 9 (y / (e : Int))) := tv_st hT9 (k := 0) (j := 9) rfl (kf_dy hy (by omega) (by assumption))
            refine at_iinc C 3 [(3, .int (sI ((e : Int) + (-1)))), (0, .ref (G.1 (0))), (1, .int (sI (a))), (2, .int (sI (10)))] dX6_keepFraction_55 rfl (by decide) rfl ?_
            refine at_goto C 12 dX6_keepFraction_58 (by decide) ?_
            refine at_lv [1, 2, 3, 0] rfl ?_
            exact at_eq (ih12 (e - 1) (x / e) (y / e) (by omega) (by omega) (kf_dx hx (by omega)) (kf_dy hy (by omega) (by rw [g9] at *; assumption)) ((mF_div M x y e) ▸ hT11) (by rw [← hk]; exact (kf_y (by omega) (by assumption) (by assumption)).symm)) (lvc_s (lvc_s (lvc_s (lvc_i (by omega) rfl)))) rfl (mF_div M x y e) (rfl)
  refine at_lv [1, 2, 3, 0] rfl ?_
  exact at_eq (H12 _ 10 a 10 (Nat.lt_succ_self _) (by omega) (ha) (⟨by omega, by omega⟩) (hT2) (rfl)) (lvc_s (lvc_s (lvc_s (lvc_i (rfl) rfl)))) rfl (rfl) (rfl)

set_option maxHeartbeats 4000000 in
set_option maxRecDepth 100000 in
theorem c_X6_gulls (l : Launch) (D : va_G) (G : sG) {M : sM} {L : sL} (c : Int) (hcr : InR c) (hT : TInv M) (hc : sCt M) : sKi l D G yX6_gulls cX6_gulls 4 .int 2 45 [.ref (G.1 (0)), .int (sI (c))] M L (fun r M' L' => r = sI (rGulls c) ∧ M' = mGulls M c ∧ TInv M' ∧ L = L') := by
  refine sKi_go (by decide) (Nat.le_of_ble_eq_true rfl) ?_
  intro zp ze zs zm za zb zt zc Q C hret
  refine at_eq (lv' := [(0, .ref (G.1 (0))), (1, .int (sI (c)))]) (st' := []) (M' := M) (L' := L) ?_ rfl rfl rfl rfl
  refine at_iload_n C 1 dX6_gulls_0 rfl ?_
  refine at_iconst C dX6_gulls_1 ?_
  refine at_bipush C dX6_gulls_2 (by decide) (by decide) ?_
  refine at_stat_i C (c_X6_within l D G c 0 10 ⟨by omega, by omega⟩ ⟨by omega, by omega⟩ ⟨by omega, by omega⟩) (As := [.int (sI (c)), .int (sI (0)), .int (sI (10))]) qw_307 qw_305 qw_1 qw_306 ⟨by decide, by decide, show (parseMethodDescriptor yX6_within.desc).map (fun d => d.parameters.length) = some 3 by decide +kernel⟩ ⟨by decide, by decide⟩ ⟨Nat.zero_le _, Nat.zero_le _⟩ (Nat.le_of_ble_eq_true rfl) dX6_gulls_4 rfl (fun r M' L' hp1 => ?_)
  obtain ⟨rfl, rfl, rfl⟩ := hp1
  refine at_if_neB C 17 dX6_gulls_7 (by decide) (fun h2 => ?_) (fun h2 => ?_)
  · refine at_iconst C dX6_gulls_17 ?_
    refine at_istore_n C [(2, .int (sI (0))), (0, .ref (G.1 (0))), (1, .int (sI (c)))] dX6_gulls_18 (by decide) rfl ?_
    refine at_iconst C dX6_gulls_19 ?_
    refine at_istore_n C [(3, .int (sI (0))), (2, .int (sI (0))), (0, .ref (G.1 (0))), (1, .int (sI (c)))] dX6_gulls_20 (by decide) rfl ?_
    have H21 : ∀ (fu : Nat) (k : Nat), nS M 1 - k < fu → (k ≤ nS M 1) → sAt zp l ze (sRm 2 45) zs zm za zb zt zc D G 4 0 0 Q 21 [(0, .ref (G.1 (0))), (1, .int (sI (c))), (2, .int (sI (sumI (fun s => if adr M 1 s then bWei M 1 s else 0) k))), (3, .int (sI ((k : Int))))] [] M L := by
      intro fu
      induction fu with
      | zero => intro k hd hk; exact absurd hd (Nat.not_lt_zero _)
      | succ fu ih21 =>
        intro k hd21 hk
        have hn := nS_r hT (Or.inl rfl)
        have hsr := sumW_r hT k
        refine at_iload_n C 3 dX6_gulls_21 rfl ?_
        refine at_aload_n C 0 dX6_gulls_22 rfl ?_
        refine at_getf (v := .ref (G.1 (1))) C (obj_Sho G) (ci := 6) rfl inX6 (slot := 0) (by decide) qw_249 rfl rfl dX6_gulls_23 ?_
        refine at_getf (v := .int (sI (M 1 9))) C (obj_Bea G (Or.inl rfl)) (ci := 0) rfl inX0 (slot := 9) (by decide) qw_104 rfl rfl dX6_gulls_26 ?_
        have hb3 : _ ≤ M 1 9 ∧ M 1 9 ≤ _ := tv_souls hT (Or.inl rfl)
        refine at_icmp_ge C 60 dX6_gulls_29 (by decide) (⟨by omega, by omega⟩) (⟨by omega, by omega⟩) (fun h4 => ?_) (fun h4 => ?_)
        · have hgs := gulS_r hT
          have hgk : sumI (fun s => if adr M 1 s then bWei M 1 s else 0) k = gulS M := by unfold gulS; rw [show nS M 1 = k by omega]
          refine at_aload_n C 0 dX6_gulls_60 rfl ?_
          refine at_iload_n C 2 dX6_gulls_61 rfl ?_
          refine at_bipush C dX6_gulls_62 (by decide) (by decide) ?_
          refine at_iload_n C 1 dX6_gulls_64 rfl ?_
          refine at_isub C dX6_gulls_65 ?_
          refine at_imul C dX6_gulls_66 ?_
          refine at_bipush C dX6_gulls_67 (by decide) (by decide) ?_
          have hb1 : 0 ≤ sumI (fun s => if adr M 1 s then bWei M 1 s else 0) k * (10 - c) ∧ sumI (fun s => if adr M 1 s then bWei M 1 s else 0) k * (10 - c) ≤ 2000 := gul_b (by omega) (by omega) (by omega) (by omega)
          refine at_ve (b := 10) (rfl) ?_
          refine at_call_v C (c_X6_keepFraction l D G ((sumI (fun s => if adr M 1 s then bWei M 1 s else 0) k) * (10 - c)) ⟨by omega, by omega⟩ hT) (As := [.int (sI ((sumI (fun s => if adr M 1 s then bWei M 1 s else 0) k) * (10 - c))), .int (sI (10))]) (obj_Sho G) (ci := 6) rfl qw_820 qw_817 qw_1 qw_819 qp_30 ⟨by decide, by decide, show (parseMethodDescriptor yX6_keepFraction.desc).map (fun d => d.parameters.length) = some 2 by decide +kernel⟩ ⟨by decide, by decide⟩ ⟨Nat.zero_le _, Nat.zero_le _⟩ (Nat.le_of_ble_eq_true rfl) dX6_gulls_69 rfl (fun M' L' hp6 => ?_)
          obtain ⟨rfl, hT5, rfl⟩ := hp6
          refine at_iconst C dX6_gulls_72 ?_
          exact hret _ _ _ _ _ dX6_gulls_73 (⟨congrArg sI (if_pos (by omega)).symm, (by rw [hgk]; exact (if_pos (by omega)).symm), hT5, rfl⟩)
        · refine at_aload_n C 0 dX6_gulls_32 rfl ?_
          refine at_getf (v := .ref (G.1 (1))) C (obj_Sho G) (ci := 6) rfl inX6 (slot := 0) (by decide) qw_249 rfl rfl dX6_gulls_33 ?_
          refine at_iload_n C 3 dX6_gulls_36 rfl ?_
          refine at_call_i C (c_X0_adrift l D G (Or.inl rfl) hT k (by omega)) (As := [.int (sI ((k : Int)))]) (obj_Bea G (Or.inl rfl)) (ci := 0) rfl qw_481 qw_739 qw_2 qw_479 qw_480 ⟨by decide, by decide, show (parseMethodDescriptor yX0_adrift.desc).map (fun d => d.parameters.length) = some 1 by decide +kernel⟩ ⟨by decide, by decide⟩ ⟨Nat.zero_le _, Nat.zero_le _⟩ (Nat.le_of_ble_eq_true rfl) dX6_gulls_37 rfl (fun r M' L' hp7 => ?_)
          obtain ⟨rfl, rfl, rfl⟩ := hp7
          refine at_vi (y := sB (adr M 1 k)) rfl ?_
          refine at_if_eqB C 54 dX6_gulls_40 (by decide) (fun h8 => ?_) (fun h8 => ?_)
          · refine at_iinc C 3 [(3, .int (sI ((k : Int) + 1))), (0, .ref (G.1 (0))), (1, .int (sI (c))), (2, .int (sI (sumI (fun s => if adr M 1 s then bWei M 1 s else 0) k)))] dX6_gulls_54 rfl (by decide) rfl ?_
            refine at_goto C 21 dX6_gulls_57 (by decide) ?_
            refine at_lv [1, 2, 3, 0] rfl ?_
            exact at_eq (ih21 (k + 1) (by omega) (by omega)) (lvc_s (lvc_s (lvc_i (by show _ = sumI _ k + (if adr M 1 k then bWei M 1 k else 0); rw [if_neg (by assumption), Int.add_zero]) (lvc_i (by omega) rfl)))) rfl (rfl) (rfl)
          · refine at_iload_n C 2 dX6_gulls_43 rfl ?_
            refine at_aload_n C 0 dX6_gulls_44 rfl ?_
            refine at_getf (v := .ref (G.1 (1))) C (obj_Sho G) (ci := 6) rfl inX6 (slot := 0) (by decide) qw_249 rfl rfl dX6_gulls_45 ?_
            refine at_iload_n C 3 dX6_gulls_48 rfl ?_
            refine at_call_i C (c_X0_weighs l D G (Or.inl rfl) hT k (by omega)) (As := [.int (sI ((k : Int)))]) (obj_Bea G (Or.inl rfl)) (ci := 0) rfl qw_610 qw_816 qw_2 qw_608 qw_609 ⟨by decide, by decide, show (parseMethodDescriptor yX0_weighs.desc).map (fun d => d.parameters.length) = some 1 by decide +kernel⟩ ⟨by decide, by decide⟩ ⟨Nat.zero_le _, Nat.zero_le _⟩ (Nat.le_of_ble_eq_true rfl) dX6_gulls_49 rfl (fun r M' L' hp10 => ?_)
            obtain ⟨rfl, rfl, rfl⟩ := hp10
            refine at_ve (b := bWei M 1 k) rfl ?_
            have hb9 := bWei_r hT (Or.inl rfl) k
            refine at_iadd C dX6_gulls_52 ?_
            refine at_istore_n C [(2, .int (sI ((sumI (fun s => if adr M 1 s then bWei M 1 s else 0) k) + (bWei M 1 k)))), (0, .ref (G.1 (0))), (1, .int (sI (c))), (3, .int (sI ((k : Int))))] dX6_gulls_53 (by decide) rfl ?_
            refine at_iinc C 3 [(3, .int (sI ((k : Int) + 1))), (2, .int (sI ((sumI (fun s => if adr M 1 s then bWei M 1 s else 0) k) + (bWei M 1 k)))), (0, .ref (G.1 (0))), (1, .int (sI (c)))] dX6_gulls_54 rfl (by decide) rfl ?_
            refine at_goto C 21 dX6_gulls_57 (by decide) ?_
            refine at_lv [2, 3, 1, 0] rfl ?_
            exact at_eq (ih21 (k + 1) (by omega) (by omega)) (lvc_s (lvc_s (lvc_i (by show _ = sumI _ k + (if adr M 1 k then bWei M 1 k else 0); rw [if_pos (by assumption)]) (lvc_i (by omega) rfl)))) rfl (rfl) (rfl)
    refine at_lv [2, 3, 1, 0] rfl ?_
    exact at_eq (H21 _ 0 (Nat.lt_succ_self _) (by omega)) (lvc_s (lvc_s (lvc_i (rfl) (lvc_i (rfl) rfl)))) rfl (rfl) (rfl)
  · refine at_aload_n C 0 dX6_gulls_10 rfl ?_
    refine at_bipush C dX6_gulls_11 (by decide) (by decide) ?_
    refine at_call_i C (c_X6_refuseBad l D G (-2) hT ⟨by omega, by omega, by omega⟩) (As := [.int (sI (-2))]) (obj_Sho G) (ci := 6) rfl qw_311 qw_308 qw_1 qw_310 qp_0 ⟨by decide, by decide, show (parseMethodDescriptor yX6_refuseBad.desc).map (fun d => d.parameters.length) = some 1 by decide +kernel⟩ ⟨by decide, by decide⟩ ⟨Nat.zero_le _, Nat.zero_le _⟩ (Nat.le_of_ble_eq_true rfl) dX6_gulls_13 rfl (fun r M' L' hp12 => ?_)
    obtain ⟨rfl, rfl, hT11, rfl⟩ := hp12
    exact hret _ _ _ _ _ dX6_gulls_16 (⟨congrArg sI (if_neg (by first | omega | (simp only [Int.toNat_natCast]; omega))).symm, (if_neg (by first | omega | (simp only [Int.toNat_natCast]; omega))).symm, hT11, rfl⟩)

set_option maxHeartbeats 4000000 in
set_option maxRecDepth 100000 in
theorem c_X6_years (l : Launch) (D : va_G) (G : sG) {M : sM} {L : sL} (x n : Int) (hxr : InR x) (hnr : InR n) (ht : M 6 4 ≤ 999) (hT : TInv M) (hc : sCt M) : sKi l D G yX6_years cX6_years 8 .int 4 92 [.ref (G.1 (0)), .int (sI (x)), .int (sI (n))] M L (fun r M' L' => r = sI (rYears M x n) ∧ M' = mYears M x n ∧ TInv M' ∧ L = L') := by
  refine sKi_go (by decide) (Nat.le_of_ble_eq_true rfl) ?_
  intro zp ze zs zm za zb zt zc Q C hret
  refine at_eq (lv' := [(0, .ref (G.1 (0))), (1, .int (sI (x))), (2, .int (sI (n)))]) (st' := []) (M' := M) (L' := L) ?_ rfl rfl rfl rfl
  refine at_iload_n C 1 dX6_years_0 rfl ?_
  refine at_iconst C dX6_years_1 ?_
  refine at_ldcw (n := 999999) C qw_825 dX6_years_2 (by decide +kernel) ?_
  refine at_stat_i C (c_X6_within l D G x 0 999999 ⟨by omega, by omega⟩ ⟨by omega, by omega⟩ ⟨by omega, by omega⟩) (As := [.int (sI (x)), .int (sI (0)), .int (sI (999999))]) qw_307 qw_305 qw_1 qw_306 ⟨by decide, by decide, show (parseMethodDescriptor yX6_within.desc).map (fun d => d.parameters.length) = some 3 by decide +kernel⟩ ⟨by decide, by decide⟩ ⟨Nat.zero_le _, Nat.zero_le _⟩ (Nat.le_of_ble_eq_true rfl) dX6_years_5 rfl (fun r M' L' hp1 => ?_)
  obtain ⟨rfl, rfl, rfl⟩ := hp1
  refine at_if_eqB C 21 dX6_years_8 (by decide) (fun h2 => ?_) (fun h2 => ?_)
  · refine at_aload_n C 0 dX6_years_21 rfl ?_
    refine at_bipush C dX6_years_22 (by decide) (by decide) ?_
    refine at_call_i C (c_X6_refuseBad l D G (-2) hT ⟨by omega, by omega, by omega⟩) (As := [.int (sI (-2))]) (obj_Sho G) (ci := 6) rfl qw_311 qw_308 qw_1 qw_310 qp_0 ⟨by decide, by decide, show (parseMethodDescriptor yX6_refuseBad.desc).map (fun d => d.parameters.length) = some 1 by decide +kernel⟩ ⟨by decide, by decide⟩ ⟨Nat.zero_le _, Nat.zero_le _⟩ (Nat.le_of_ble_eq_true rfl) dX6_years_24 rfl (fun r M' L' hp4 => ?_)
    obtain ⟨rfl, rfl, hT3, rfl⟩ := hp4
    exact hret _ _ _ _ _ dX6_years_27 (⟨congrArg sI (if_neg (by first | omega | (simp only [Int.toNat_natCast]; omega))).symm, (if_neg (by first | omega | (simp only [Int.toNat_natCast]; omega))).symm, hT3, rfl⟩)
  · refine at_iload_n C 2 dX6_years_11 rfl ?_
    refine at_iconst C dX6_years_12 ?_
    refine at_bipush C dX6_years_13 (by decide) (by decide) ?_
    refine at_stat_i C (c_X6_within l D G n 0 60 ⟨by omega, by omega⟩ ⟨by omega, by omega⟩ ⟨by omega, by omega⟩) (As := [.int (sI (n)), .int (sI (0)), .int (sI (60))]) qw_307 qw_305 qw_1 qw_306 ⟨by decide, by decide, show (parseMethodDescriptor yX6_within.desc).map (fun d => d.parameters.length) = some 3 by decide +kernel⟩ ⟨by decide, by decide⟩ ⟨Nat.zero_le _, Nat.zero_le _⟩ (Nat.le_of_ble_eq_true rfl) dX6_years_15 rfl (fun r M' L' hp5 => ?_)
    obtain ⟨rfl, rfl, rfl⟩ := hp5
    refine at_if_neB C 28 dX6_years_18 (by decide) (fun h6 => ?_) (fun h6 => ?_)
    · obtain ⟨xx, rfl⟩ : ∃ xx : Nat, x = (xx : Int) := ⟨x.toNat, by omega⟩
      obtain ⟨nn, rfl⟩ : ∃ nn : Nat, n = (nn : Int) := ⟨n.toNat, by omega⟩
      refine at_aload_n C 0 dX6_years_28 rfl ?_
      refine at_getf (v := .ref (G.1 (49))) C (obj_Sho G) (ci := 6) rfl inX6 (slot := 1) (by decide) qw_250 rfl rfl dX6_years_29 ?_
      refine at_aload_n C 0 dX6_years_32 rfl ?_
      refine at_getf (v := .ref (G.1 (1))) C (obj_Sho G) (ci := 6) rfl inX6 (slot := 0) (by decide) qw_249 rfl rfl dX6_years_33 ?_
      refine at_call_v C (c_X0_copy l D G (Or.inr (Or.inl rfl)) (Or.inl rfl) (by omega) hT) (As := [.ref (G.1 (1))]) (obj_Bea G (Or.inr (Or.inl rfl))) (ci := 0) rfl qw_534 qw_531 qw_2 qw_532 qw_533 ⟨by decide, by decide, show (parseMethodDescriptor yX0_copy.desc).map (fun d => d.parameters.length) = some 1 by decide +kernel⟩ ⟨by decide, by decide⟩ ⟨Nat.zero_le _, Nat.zero_le _⟩ (Nat.le_of_ble_eq_true rfl) dX6_years_36 rfl (fun M' L' hp8 => ?_)
      obtain ⟨rfl, hT7, rfl⟩ := hp8
      refine at_iload_n C 1 dX6_years_39 rfl ?_
      refine at_i2l C dX6_years_40 ?_
      refine at_lstore_n C [(3, .long (((sI ((xx : Int)))).toInt64)), (0, .ref (G.1 (0))), (1, .int (sI ((xx : Int)))), (2, .int (sI ((nn : Int))))] dX6_years_41 (by decide) rfl ?_
      refine at_iconst C dX6_years_42 ?_
      refine at_istore C [(5, .int (sI (0))), (3, .long (((sI ((xx : Int)))).toInt64)), (0, .ref (G.1 (0))), (1, .int (sI ((xx : Int)))), (2, .int (sI ((nn : Int))))] dX6_years_43 (by decide) rfl ?_
      have H45 : ∀ (fu : Nat) (k : Nat), nn - k < fu → (k ≤ nn) → (TInv (yIt (bCpy M 49 1) 49 xx k)) → sAt zp l ze (sRm 4 92) zs zm za zb zt zc D G 8 0 0 Q 45 [(0, .ref (G.1 (0))), (1, .int (sI ((xx : Int)))), (2, .int (sI ((nn : Int)))), (3, .long (lN (lcgN xx k))), (5, .int (sI ((k : Int))))] [] (yIt (bCpy M 49 1) 49 xx k) L := by
        intro fu
        induction fu with
        | zero => intro k hd hk hTk; exact absurd hd (Nat.not_lt_zero _)
        | succ fu ih45 =>
          intro k hd45 hk hTk
          have g4 := yIt_t (bCpy M 49 1) 49 xx k
          have g5 : bCpy M 49 1 (49 + 5) 4 = M 6 4 := bCpy_5 M
          have hlx := lcgN_lt (show xx < 2147483648 by omega) k
          refine at_iload C 4 dX6_years_45 rfl ?_
          refine at_iload_n C 2 dX6_years_47 rfl ?_
          refine at_icmp_ge C 158 dX6_years_48 (by decide) (⟨by omega, by omega⟩) (⟨by omega, by omega⟩) (fun h9 => ?_) (fun h9 => ?_)
          · refine at_aload_n C 0 dX6_years_158 rfl ?_
            refine at_getf (v := .ref (G.1 (49))) C (obj_Sho G) (ci := 6) rfl inX6 (slot := 1) (by decide) qw_250 rfl rfl dX6_years_159 ?_
            refine at_call_i C (c_X0_rightCount l D G (Or.inr (Or.inl rfl)) hTk) (As := []) (obj_Bea G (Or.inr (Or.inl rfl))) (ci := 0) rfl qw_674 qw_671 qw_2 qw_672 qw_673 ⟨by decide, by decide, show (parseMethodDescriptor yX0_rightCount.desc).map (fun d => d.parameters.length) = some 0 by decide +kernel⟩ ⟨by decide, by decide⟩ ⟨Nat.zero_le _, Nat.zero_le _⟩ (Nat.le_of_ble_eq_true rfl) dX6_years_162 rfl (fun r M' L' hp10 => ?_)
            obtain ⟨rfl, rfl, rfl⟩ := hp10
            refine at_ve (b := bRig (yIt (bCpy M 49 1) 49 xx k) 49) rfl ?_
            exact hret _ _ _ _ _ dX6_years_165 (⟨congrArg sI ((if_pos (by unfold okYears; omega)).trans (by rw [show k = nn by omega]; rfl)).symm, ((if_pos (by unfold okYears; omega)).trans (by rw [show k = nn by omega]; rfl)).symm, hTk, rfl⟩)
          · refine at_lload_n C 3 dX6_years_51 rfl ?_
            refine at_ldc2 C qw_826 dX6_years_52 ?_
            refine at_lmul C dX6_years_55 ?_
            refine at_ldc2 C qw_827 dX6_years_56 ?_
            refine at_ladd C dX6_years_59 ?_
            refine at_ldc2 C qw_828 dX6_years_60 ?_
            refine at_lrem C dX6_years_63 (by decide) ?_
            have hl2 := lcgN_lt (show xx < 2147483648 by omega) (k + 1)
            refine at_vl (y := lN (lcgN xx (k + 1))) (lcg_l hlx) ?_
            refine at_lstore_n C [(3, .long (lN (lcgN xx (k + 1)))), (0, .ref (G.1 (0))), (1, .int (sI ((xx : Int)))), (2, .int (sI ((nn : Int)))), (5, .int (sI ((k : Int))))] dX6_years_64 (by decide) rfl ?_
            refine at_aload_n C 1 dX6_years_65 rfl ?_
            refine at_getf (v := .ref (G.1 (49))) C (obj_Sho G) (ci := 6) rfl inX6 (slot := 1) (by decide) qw_250 rfl rfl dX6_years_66 ?_
            refine at_lload_n C 0 dX6_years_69 rfl ?_
            refine at_ldc2 C qw_829 dX6_years_70 ?_
            refine at_ldiv C dX6_years_73 (by decide) ?_
            refine at_ldc2 C qw_830 dX6_years_74 ?_
            refine at_lrem C dX6_years_77 (by decide) ?_
            refine at_l2i C ((((lcgN xx (k + 1) / 65536 % 3) : Nat) : Int)) dX6_years_78 (lcg_a hl2) ?_
            refine at_iconst C dX6_years_79 ?_
            refine at_isub C dX6_years_80 ?_
            refine at_call_i C (c_X0_gather l D G (Or.inr (Or.inl rfl)) hTk ((((lcgN xx (k + 1) / 65536 % 3) : Nat) : Int) - 1) ⟨by omega, by omega⟩) (As := [.int (sI ((((lcgN xx (k + 1) / 65536 % 3) : Nat) : Int) - 1))]) (obj_Bea G (Or.inr (Or.inl rfl))) (ci := 0) rfl qw_463 qw_570 qw_2 qw_461 qw_462 ⟨by decide, by decide, show (parseMethodDescriptor yX0_gather.desc).map (fun d => d.parameters.length) = some 1 by decide +kernel⟩ ⟨by decide, by decide⟩ ⟨Nat.zero_le _, Nat.zero_le _⟩ (Nat.le_of_ble_eq_true rfl) dX6_years_81 rfl (fun r M' L' hp12 => ?_)
            obtain ⟨rfl, rfl, hT11, rfl⟩ := hp12
            refine at_ve (b := bGaC (yIt (bCpy M 49 1) 49 xx k) 49 ((((lcgN xx (k + 1) / 65536 % 3) : Nat) : Int) - 1)) rfl ?_
            have hgt2 : bGat (yIt (bCpy M 49 1) 49 xx k) 49 ((lcgN xx (k + 1) / 65536 % 3 : Nat) - 1) 54 4 = M 6 4 + k := (bGat_tide (o := 49) _ _).trans (by rw [g4, g5])
            refine at_pop C dX6_years_84 rfl ?_
            refine at_aload_n C 1 dX6_years_85 rfl ?_
            refine at_getf (v := .ref (G.1 (49))) C (obj_Sho G) (ci := 6) rfl inX6 (slot := 1) (by decide) qw_250 rfl rfl dX6_years_86 ?_
            refine at_call_v C (c_X0_flow l D G (Or.inr (Or.inl rfl)) hT11 (by first | omega | (show (bGat (yIt (bCpy M 49 1) 49 xx k) 49 ((((lcgN xx (k + 1) / 65536 % 3) : Nat) : Int) - 1)) 54 4 < 2000; omega))) (As := []) (obj_Bea G (Or.inr (Or.inl rfl))) (ci := 0) rfl qw_477 qw_571 qw_2 qw_475 qw_476 ⟨by decide, by decide, show (parseMethodDescriptor yX0_flow.desc).map (fun d => d.parameters.length) = some 0 by decide +kernel⟩ ⟨by decide, by decide⟩ ⟨Nat.zero_le _, Nat.zero_le _⟩ (Nat.le_of_ble_eq_true rfl) dX6_years_89 rfl (fun M' L' hp14 => ?_)
            obtain ⟨rfl, hT13, rfl⟩ := hp14
            refine at_lload_n C 0 dX6_years_92 rfl ?_
            refine at_ldc2 C qw_831 dX6_years_93 ?_
            refine at_ldiv C dX6_years_96 (by decide) ?_
            refine at_ldc2 C qw_832 dX6_years_97 ?_
            refine at_lrem C dX6_years_100 (by decide) ?_
            refine at_l2i C ((((lcgN xx (k + 1) / 1048576 % 6) : Nat) : Int)) dX6_years_101 (lcg_b hl2) ?_
            refine at_istore C [(6, .int (sI ((((lcgN xx (k + 1) / 1048576 % 6) : Nat) : Int)))), (3, .long (lN (lcgN xx (k + 1)))), (0, .ref (G.1 (0))), (1, .int (sI ((xx : Int)))), (2, .int (sI ((nn : Int)))), (5, .int (sI ((k : Int))))] dX6_years_102 (by decide) rfl ?_
            refine at_aload_n C 2 dX6_years_104 rfl ?_
            refine at_getf (v := .ref (G.1 (49))) C (obj_Sho G) (ci := 6) rfl inX6 (slot := 1) (by decide) qw_250 rfl rfl dX6_years_105 ?_
            refine at_iload C 0 dX6_years_108 rfl ?_
            refine at_call_i C (c_X0_hasCaller l D G (Or.inr (Or.inl rfl)) hT13 (((lcgN xx (k + 1) / 1048576 % 6) : Nat) : Int) ⟨by omega, by omega⟩) (As := [.int (sI ((((lcgN xx (k + 1) / 1048576 % 6) : Nat) : Int)))]) (obj_Bea G (Or.inr (Or.inl rfl))) (ci := 0) rfl qw_579 qw_576 qw_2 qw_577 qw_578 ⟨by decide, by decide, show (parseMethodDescriptor yX0_hasCaller.desc).map (fun d => d.parameters.length) = some 1 by decide +kernel⟩ ⟨by decide, by decide⟩ ⟨Nat.zero_le _, Nat.zero_le _⟩ (Nat.le_of_ble_eq_true rfl) dX6_years_110 rfl (fun r M' L' hp15 => ?_)
            obtain ⟨rfl, rfl, rfl⟩ := hp15
            refine at_vi (y := sB (0 ≤ (((lcgN xx (k + 1) / 1048576 % 6) : Nat) : Int) ∧ (((lcgN xx (k + 1) / 1048576 % 6) : Nat) : Int) < (bFlo (bGat (yIt (bCpy M 49 1) 49 xx k) 49 ((((lcgN xx (k + 1) / 65536 % 3) : Nat) : Int) - 1)) 49) 49 10)) rfl ?_
            refine at_if_eqB C 128 dX6_years_113 (by decide) (fun h16 => ?_) (fun h16 => ?_)
            · refine at_iconst C dX6_years_128 ?_
              refine at_istore C [(7, .int (sI (-1))), (6, .int (sI ((((lcgN xx (k + 1) / 1048576 % 6) : Nat) : Int)))), (3, .long (lN (lcgN xx (k + 1)))), (0, .ref (G.1 (0))), (1, .int (sI ((xx : Int)))), (2, .int (sI ((nn : Int)))), (5, .int (sI ((k : Int))))] dX6_years_129 (by decide) rfl ?_
              refine at_iload C 0 dX6_years_131 rfl ?_
              refine at_iconst C dX6_years_133 ?_
              refine at_icmp_eq C 152 dX6_years_134 (by decide) (⟨by omega, by omega⟩) (⟨by omega, by omega⟩) (fun h17 => ?_) (fun h17 => absurd h17 (by omega))
              refine at_iinc C 6 [(5, .int (sI ((k : Int) + 1))), (7, .int (sI (-1))), (6, .int (sI ((((lcgN xx (k + 1) / 1048576 % 6) : Nat) : Int)))), (3, .long (lN (lcgN xx (k + 1)))), (0, .ref (G.1 (0))), (1, .int (sI ((xx : Int)))), (2, .int (sI ((nn : Int))))] dX6_years_152 rfl (by decide) rfl ?_
              refine at_goto C 45 dX6_years_155 (by decide) ?_
              refine at_lv [4, 5, 6, 3, 0] rfl ?_
              exact at_eq (ih45 (k + 1) (by omega) (by omega) ((show (bFlo (bGat (yIt (bCpy M 49 1) 49 xx k) 49 ((((lcgN xx (k + 1) / 65536 % 3) : Nat) : Int) - 1)) 49) = yIt (bCpy M 49 1) 49 xx (k + 1) from yr_n (fun z => by have z1 := z.1; have z2 := z.2; omega)) ▸ hT13)) (lvc_s (lvc_s (lvc_s (lvc_s (lvc_i (by omega) rfl))))) rfl (yr_n (fun z => by have z1 := z.1; have z2 := z.2; omega)) (rfl)
            · refine at_aload_n C 2 dX6_years_116 rfl ?_
              refine at_getf (v := .ref (G.1 (49))) C (obj_Sho G) (ci := 6) rfl inX6 (slot := 1) (by decide) qw_250 rfl rfl dX6_years_117 ?_
              refine at_iload C 0 dX6_years_120 rfl ?_
              refine at_call_i C (c_X0_choice l D G (Or.inr (Or.inl rfl)) hT13 (lcgN xx (k + 1) / 1048576 % 6) (by omega)) (As := [.int (sI ((((lcgN xx (k + 1) / 1048576 % 6) : Nat) : Int)))]) (obj_Bea G (Or.inr (Or.inl rfl))) (ci := 0) rfl qw_497 qw_581 qw_2 qw_495 qw_496 ⟨by decide, by decide, show (parseMethodDescriptor yX0_choice.desc).map (fun d => d.parameters.length) = some 1 by decide +kernel⟩ ⟨by decide, by decide⟩ ⟨Nat.zero_le _, Nat.zero_le _⟩ (Nat.le_of_ble_eq_true rfl) dX6_years_122 rfl (fun r M' L' hp19 => ?_)
              obtain ⟨rfl, rfl, rfl⟩ := hp19
              refine at_ve (b := bCho (bFlo (bGat (yIt (bCpy M 49 1) 49 xx k) 49 ((((lcgN xx (k + 1) / 65536 % 3) : Nat) : Int) - 1)) 49) 49 (lcgN xx (k + 1) / 1048576 % 6)) rfl ?_
              have hb18 := bCho_r hT13 (Or.inr (Or.inl rfl)) (lcgN xx (k + 1) / 1048576 % 6)
              have hch := bCho_r6 hT13 (Or.inr (Or.inl rfl)) (lcgN xx (k + 1) / 1048576 % 6)
              refine at_goto C 129 dX6_years_125 (by decide) ?_
              refine at_istore C [(7, .int (sI (bCho (bFlo (bGat (yIt (bCpy M 49 1) 49 xx k) 49 ((((lcgN xx (k + 1) / 65536 % 3) : Nat) : Int) - 1)) 49) 49 (lcgN xx (k + 1) / 1048576 % 6)))), (6, .int (sI ((((lcgN xx (k + 1) / 1048576 % 6) : Nat) : Int)))), (3, .long (lN (lcgN xx (k + 1)))), (0, .ref (G.1 (0))), (1, .int (sI ((xx : Int)))), (2, .int (sI ((nn : Int)))), (5, .int (sI ((k : Int))))] dX6_years_129 (by decide) rfl ?_
              refine at_iload C 0 dX6_years_131 rfl ?_
              refine at_iconst C dX6_years_133 ?_
              refine at_icmp_eq C 152 dX6_years_134 (by decide) (⟨by omega, by omega⟩) (⟨by omega, by omega⟩) (fun h20 => ?_) (fun h20 => ?_)
              · refine at_iinc C 6 [(5, .int (sI ((k : Int) + 1))), (7, .int (sI (bCho (bFlo (bGat (yIt (bCpy M 49 1) 49 xx k) 49 ((((lcgN xx (k + 1) / 65536 % 3) : Nat) : Int) - 1)) 49) 49 (lcgN xx (k + 1) / 1048576 % 6)))), (6, .int (sI ((((lcgN xx (k + 1) / 1048576 % 6) : Nat) : Int)))), (3, .long (lN (lcgN xx (k + 1)))), (0, .ref (G.1 (0))), (1, .int (sI ((xx : Int)))), (2, .int (sI ((nn : Int))))] dX6_years_152 rfl (by decide) rfl ?_
                refine at_goto C 45 dX6_years_155 (by decide) ?_
                refine at_lv [4, 5, 6, 3, 0] rfl ?_
                exact at_eq (ih45 (k + 1) (by omega) (by omega) ((show (bFlo (bGat (yIt (bCpy M 49 1) 49 xx k) 49 ((((lcgN xx (k + 1) / 65536 % 3) : Nat) : Int) - 1)) 49) = yIt (bCpy M 49 1) 49 xx (k + 1) from yr_n (fun z => by have z1 := z.1; have z2 := z.2; omega)) ▸ hT13)) (lvc_s (lvc_s (lvc_s (lvc_s (lvc_i (by omega) rfl))))) rfl (yr_n (fun z => by have z1 := z.1; have z2 := z.2; omega)) (rfl)
              · refine at_aload_n C 3 dX6_years_137 rfl ?_
                refine at_getf (v := .ref (G.1 (49))) C (obj_Sho G) (ci := 6) rfl inX6 (slot := 1) (by decide) qw_250 rfl rfl dX6_years_138 ?_
                refine at_getf (v := .ref (G.1 (54))) C (obj_Bea G (Or.inr (Or.inl rfl))) (ci := 0) rfl inX0 (slot := 4) (by decide) qw_95 rfl rfl dX6_years_141 ?_
                refine at_getf (v := .ref (G.1 (56))) C ((isMo_now G (Or.inr (Or.inl rfl))).1) (ci := 1) rfl inX1 (slot := 1) (by decide) qw_42 rfl rfl dX6_years_144 ?_
                refine at_iload C 0 dX6_years_147 rfl ?_
                refine at_iload C 1 dX6_years_149 rfl ?_
                refine at_iast C ((bCho (bFlo (bGat (yIt (bCpy M 49 1) 49 xx k) 49 ((((lcgN xx (k + 1) / 65536 % 3) : Nat) : Int) - 1)) 49) 49 (lcgN xx (k + 1) / 1048576 % 6)).toNat) (arI_hold G (Or.inr (Or.inl rfl))) (by omega) (by omega) dX6_years_151 ?_
                have hT21 : TInv (sSt (bFlo (bGat (yIt (bCpy M 49 1) 49 xx k) 49 ((((lcgN xx (k + 1) / 65536 % 3) : Nat) : Int) - 1)) 49) 56 ((bCho (bFlo (bGat (yIt (bCpy M 49 1) 49 xx k) 49 ((((lcgN xx (k + 1) / 65536 % 3) : Nat) : Int) - 1)) 49) 49 (lcgN xx (k + 1) / 1048576 % 6)).toNat) (((lcgN xx (k + 1) / 1048576 % 6) : Nat) : Int)) := tw_hold hT13 (Or.inr (Or.inl rfl)) (⟨by omega, by omega⟩)
                refine at_iinc C 6 [(5, .int (sI ((k : Int) + 1))), (7, .int (sI (bCho (bFlo (bGat (yIt (bCpy M 49 1) 49 xx k) 49 ((((lcgN xx (k + 1) / 65536 % 3) : Nat) : Int) - 1)) 49) 49 (lcgN xx (k + 1) / 1048576 % 6)))), (6, .int (sI ((((lcgN xx (k + 1) / 1048576 % 6) : Nat) : Int)))), (3, .long (lN (lcgN xx (k + 1)))), (0, .ref (G.1 (0))), (1, .int (sI ((xx : Int)))), (2, .int (sI ((nn : Int))))] dX6_years_152 rfl (by decide) rfl ?_
                refine at_goto C 45 dX6_years_155 (by decide) ?_
                refine at_lv [4, 5, 6, 3, 0] rfl ?_
                exact at_eq (ih45 (k + 1) (by omega) (by omega) ((show (sSt (bFlo (bGat (yIt (bCpy M 49 1) 49 xx k) 49 ((((lcgN xx (k + 1) / 65536 % 3) : Nat) : Int) - 1)) 49) 56 ((bCho (bFlo (bGat (yIt (bCpy M 49 1) 49 xx k) 49 ((((lcgN xx (k + 1) / 65536 % 3) : Nat) : Int) - 1)) 49) 49 (lcgN xx (k + 1) / 1048576 % 6)).toNat) (((lcgN xx (k + 1) / 1048576 % 6) : Nat) : Int)) = yIt (bCpy M 49 1) 49 xx (k + 1) from yr_y (by omega) (by assumption)) ▸ hT21)) (lvc_s (lvc_s (lvc_s (lvc_s (lvc_i (by omega) rfl))))) rfl (yr_y (by omega) (by assumption)) (rfl)
      refine at_lv [2, 3, 4, 1, 0] rfl ?_
      exact at_eq (H45 _ 0 (Nat.lt_succ_self _) (by omega) (hT7)) (lvc_s (lvc_s (lvc_s (lvc_l (by rw [show sI (xx : Int) = nI xx from sI_nI xx, nI_l (by omega)]; rfl) (lvc_i (rfl) rfl))))) rfl (rfl) (rfl)
    · refine at_aload_n C 0 dX6_years_21 rfl ?_
      refine at_bipush C dX6_years_22 (by decide) (by decide) ?_
      refine at_call_i C (c_X6_refuseBad l D G (-2) hT ⟨by omega, by omega, by omega⟩) (As := [.int (sI (-2))]) (obj_Sho G) (ci := 6) rfl qw_311 qw_308 qw_1 qw_310 qp_0 ⟨by decide, by decide, show (parseMethodDescriptor yX6_refuseBad.desc).map (fun d => d.parameters.length) = some 1 by decide +kernel⟩ ⟨by decide, by decide⟩ ⟨Nat.zero_le _, Nat.zero_le _⟩ (Nat.le_of_ble_eq_true rfl) dX6_years_24 rfl (fun r M' L' hp23 => ?_)
      obtain ⟨rfl, rfl, hT22, rfl⟩ := hp23
      exact hret _ _ _ _ _ dX6_years_27 (⟨congrArg sI (if_neg (by first | omega | (simp only [Int.toNat_natCast]; omega))).symm, (if_neg (by first | omega | (simp only [Int.toNat_natCast]; omega))).symm, hT22, rfl⟩)
