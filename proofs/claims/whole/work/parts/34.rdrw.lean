theorem numV_s {T : Nat → Int} {p q : Nat} (h : p ≤ q) (h2 : q - p < 2) : 10 * numV T p q + T q - 48 = numV T p (q + 1) := by
  unfold numV
  by_cases e : q = p
  · rw [if_pos (by omega), if_neg (by omega), if_pos (by omega), e]; omega
  · obtain rfl : q = p + 1 := by omega
    rw [if_neg (by omega), if_pos rfl, if_neg (by omega), if_neg (by omega)]; omega
theorem numV_k {T : Nat → Int} {p q : Nat} (h2 : 2 ≤ q - p) : numV T p q = numV T p (q + 1) := by
  unfold numV
  rw [if_neg (by omega), if_neg (by omega), if_neg (by omega), if_neg (by omega)]
theorem nx_end {M : sM} {q : Nat} (h : tS M = q) (h2 : rN M ≤ q) : mRd M q q 0 (M 195 6) = nxM M := by
  unfold nxM
  have e : tkS (M 196) (rN M) (rP M) = q := h
  have a : tA M = q := by unfold tA tkA; rw [if_pos (by omega)]; exact e
  have k : tK M = 0 := by unfold tK tkK; rw [if_pos (by omega)]
  have v : tV M = M 195 6 := by unfold tV tkV; rw [if_pos (by omega)]
  rw [h, a, k, v]
theorem nx_word {M : sM} {q : Nat} (h : tS M = q) (h2 : q < rN M) (h3 : isLet (M 196 q)) : mRd M (scan isLet (M 196) (rN M) q : Nat) q 1 (M 195 6) = nxM M := by
  unfold nxM
  have e : tkS (M 196) (rN M) (rP M) = q := h
  have a : tA M = scan isLet (M 196) (rN M) q := by unfold tA tkA; rw [e, if_neg (by omega), if_pos h3]
  have k : tK M = 1 := by unfold tK tkK; rw [e, if_neg (by omega), if_pos h3]
  have v : tV M = M 195 6 := by unfold tV tkV; rw [e, if_neg (by omega), if_pos h3]
  rw [h, a, k, v]
theorem nx_num {M : sM} {q : Nat} (h : tS M = q) (h2 : q < rN M) (h3 : ¬ isLet (M 196 q)) (h4 : isFig (M 196 q)) :
    mRd M (scan isFig (M 196) (rN M) q : Nat) q (if scan isFig (M 196) (rN M) q - q ≤ 2 then 2 else 4) (numV (M 196) q (scan isFig (M 196) (rN M) q)) = nxM M := by
  unfold nxM
  have e : tkS (M 196) (rN M) (rP M) = q := h
  have a0 : tkA (M 196) (rN M) (rP M) = scan isFig (M 196) (rN M) q := by unfold tkA; rw [e, if_neg (by omega), if_neg h3, if_pos h4]
  have a : tA M = scan isFig (M 196) (rN M) q := a0
  have k : tK M = if scan isFig (M 196) (rN M) q - q ≤ 2 then 2 else 4 := by unfold tK tkK; rw [a0, e, if_neg (by omega), if_neg h3, if_pos h4]
  have v : tV M = numV (M 196) q (scan isFig (M 196) (rN M) q) := by unfold tV tkV; rw [a0, e, if_neg (by omega), if_neg h3, if_pos h4]
  rw [h, a, k, v]
theorem nx_odd {M : sM} {q : Nat} (h : tS M = q) (h2 : q < rN M) (h3 : ¬ isLet (M 196 q)) (h4 : ¬ isFig (M 196 q)) {x : Int} (hx : x = if M 196 q = 59 then 3 else 4) : mRd M ((q : Int) + 1) q x (M 195 6) = nxM M := by
  unfold nxM
  have e : tkS (M 196) (rN M) (rP M) = q := h
  have a : tA M = q + 1 := by unfold tA tkA; rw [e, if_neg (by omega), if_neg h3, if_neg h4]
  have k : tK M = if M 196 q = 59 then 3 else 4 := by unfold tK tkK; rw [e, if_neg (by omega), if_neg h3, if_neg h4]
  have v : tV M = M 195 6 := by unfold tV tkV; rw [e, if_neg (by omega), if_neg h3, if_neg h4]
  rw [h, a, k, v, hx]; rfl
theorem mRd_N (M : sM) (a s k v : Int) : rN (mRd M a s k v) = rN M := by unfold rN; rw [mRd_o (by decide)]
/-- a word of the reader stands there -/
abbrev wMat (M : sM) (i : Nat) : Prop := M 195 3 - M 195 4 = (lenS.getD i 0 : Nat) ∧ ∀ k, k < lenS.getD i 0 → M 196 ((M 195 4).toNat + k) = bytI i k
def wNo (M : sM) : Int := if wMat M 0 then 0 else if wMat M 1 then 1 else if wMat M 2 then 2 else if wMat M 3 then 3 else if wMat M 4 then 4 else if wMat M 5 then 5 else -1
abbrev nOk (lo hi : Int) (M : sM) : Prop := tK M = 2 ∧ lo ≤ tV M ∧ tV M ≤ hi
theorem mRd_z {M : sM} {p : Nat} (hp : M 195 3 = (p : Int)) (hp4 : M 195 4 = (p : Int)) : sSt M 195 6 0 = mRd M p p (M 195 5) (numV (M 196) p p) := by
  have e := congrArg (fun X => sSt X 195 6 0) (mRd_i M)
  refine e.trans ?_
  show sSt (mRd M (M 195 3) (M 195 4) (M 195 5) (M 195 6)) 195 6 0 = _
  rw [mRd_s6, hp, hp4]
  unfold numV
  rw [if_pos (Nat.le_refl p)]
theorem nxT {M N : sM} (e : N = nxM M) (hT : TInv M) (hk : rOk M) : TInv N := e ▸ nxM_T hT hk
set_option maxHeartbeats 4000000 in
set_option maxRecDepth 100000 in
theorem c_X3_isLetter (l : Launch) (D : va_G) (G : sG) {M : sM} {L : sL} (x : Int) (hx : 0 ≤ x ∧ x ≤ 127) : sKi l D G yX3_isLetter cX3_isLetter 1 .boolean 0 0 [.int (sI (x))] M L (fun r M' L' => r = sB (isLet x) ∧ (M = M' ∧ L = L')) := by
  refine sKz_go (by decide) (Nat.le_of_ble_eq_true rfl) ?_
  intro zp ze zs zm za zb zt zc Q C hret
  refine at_eq (lv' := [(0, .int (sI (x)))]) (st' := []) (M' := M) (L' := L) ?_ rfl rfl rfl rfl
  refine at_iload_n C 0 dX3_isLetter_0 rfl ?_
  refine at_bipush C dX3_isLetter_1 (by decide) (by decide) ?_
  refine at_icmp_lt C 16 dX3_isLetter_3 (by decide) (⟨by omega, by omega⟩) (⟨by omega, by omega⟩) (fun h1 => ?_) (fun h1 => ?_)
  · refine at_iconst C dX3_isLetter_16 ?_
    exact hret _ _ _ _ _ dX3_isLetter_17 (sB_f (by unfold isLet; omega)) ⟨rfl, rfl⟩
  · refine at_iload_n C 0 dX3_isLetter_6 rfl ?_
    refine at_bipush C dX3_isLetter_7 (by decide) (by decide) ?_
    refine at_icmp_gt C 16 dX3_isLetter_9 (by decide) (⟨by omega, by omega⟩) (⟨by omega, by omega⟩) (fun h2 => ?_) (fun h2 => ?_)
    · refine at_iconst C dX3_isLetter_16 ?_
      exact hret _ _ _ _ _ dX3_isLetter_17 (sB_f (by unfold isLet; omega)) ⟨rfl, rfl⟩
    · refine at_iconst C dX3_isLetter_12 ?_
      refine at_goto C 17 dX3_isLetter_13 (by decide) ?_
      exact hret _ _ _ _ _ dX3_isLetter_17 (sB_t (by unfold isLet; omega)) ⟨rfl, rfl⟩

set_option maxHeartbeats 4000000 in
set_option maxRecDepth 100000 in
theorem c_X3_isFigure (l : Launch) (D : va_G) (G : sG) {M : sM} {L : sL} (x : Int) (hx : 0 ≤ x ∧ x ≤ 127) : sKi l D G yX3_isFigure cX3_isFigure 1 .boolean 0 0 [.int (sI (x))] M L (fun r M' L' => r = sB (isFig x) ∧ (M = M' ∧ L = L')) := by
  refine sKz_go (by decide) (Nat.le_of_ble_eq_true rfl) ?_
  intro zp ze zs zm za zb zt zc Q C hret
  refine at_eq (lv' := [(0, .int (sI (x)))]) (st' := []) (M' := M) (L' := L) ?_ rfl rfl rfl rfl
  refine at_iload_n C 0 dX3_isFigure_0 rfl ?_
  refine at_bipush C dX3_isFigure_1 (by decide) (by decide) ?_
  refine at_icmp_lt C 16 dX3_isFigure_3 (by decide) (⟨by omega, by omega⟩) (⟨by omega, by omega⟩) (fun h1 => ?_) (fun h1 => ?_)
  · refine at_iconst C dX3_isFigure_16 ?_
    exact hret _ _ _ _ _ dX3_isFigure_17 (sB_f (by unfold isFig; omega)) ⟨rfl, rfl⟩
  · refine at_iload_n C 0 dX3_isFigure_6 rfl ?_
    refine at_bipush C dX3_isFigure_7 (by decide) (by decide) ?_
    refine at_icmp_gt C 16 dX3_isFigure_9 (by decide) (⟨by omega, by omega⟩) (⟨by omega, by omega⟩) (fun h2 => ?_) (fun h2 => ?_)
    · refine at_iconst C dX3_isFigure_16 ?_
      exact hret _ _ _ _ _ dX3_isFigure_17 (sB_f (by unfold isFig; omega)) ⟨rfl, rfl⟩
    · refine at_iconst C dX3_isFigure_12 ?_
      refine at_goto C 17 dX3_isFigure_13 (by decide) ?_
      exact hret _ _ _ _ _ dX3_isFigure_17 (sB_t (by unfold isFig; omega)) ⟨rfl, rfl⟩

set_option maxHeartbeats 4000000 in
set_option maxRecDepth 100000 in
theorem c_X3_takeWord (l : Launch) (D : va_G) (G : sG) {M : sM} {L : sL} (p : Nat) (hp : M 195 3 = (p : Int)) (hpn : p ≤ rN M) (hT : TInv M) : sKv l D G yX3_takeWord cX3_takeWord 1 1 20 [.ref (G.1 (195))] M L (fun M' L' => M' = mRd M (scan isLet (M 196) (rN M) p : Nat) (M 195 4) 1 (M 195 6) ∧ TInv M' ∧ L = L') := by
  refine sKv_go (by decide) (Nat.le_of_ble_eq_true rfl) ?_
  intro zp ze zs zm za zb zt zc Q C hret
  refine at_eq (lv' := [(0, .ref (G.1 (195)))]) (st' := []) (M' := M) (L' := L) ?_ rfl rfl rfl rfl
  have hrn := rN_r hT
  have h4r : _ ≤ M 195 4 ∧ M 195 4 ≤ _ := tv hT (k := 195) (j := 4) (lo := 0) (hi := 150) rfl
  have h5r : _ ≤ M 195 5 ∧ M 195 5 ≤ _ := tv hT (k := 195) (j := 5) (lo := 0) (hi := 4) rfl
  have h6r : _ ≤ M 195 6 ∧ M 195 6 ≤ _ := tv hT (k := 195) (j := 6) (lo := 0) (hi := 99) rfl
  have H0 : ∀ (fu : Nat) (q : Nat), rN M - q < fu → (q ≤ rN M) → (scan isLet (M 196) (rN M) q = scan isLet (M 196) (rN M) p) → sAt zp l ze (sRm 1 20) zs zm za zb zt zc D G 1 0 0 Q 0 [(0, .ref (G.1 (195)))] [] (mRd M q (M 195 4) (M 195 5) (M 195 6)) L := by
    intro fu
    induction fu with
    | zero => intro q hd hq hs; exact absurd hd (Nat.not_lt_zero _)
    | succ fu ih0 =>
      intro q hd0 hq hs
      have hTq : TInv (mRd M q (M 195 4) (M 195 5) (M 195 6)) := tv_rd hT (by omega) h4r h5r h6r
      refine at_aload_n C 0 dX3_takeWord_0 rfl ?_
      refine at_getf (v := .int (sI ((mRd M q (M 195 4) (M 195 5) (M 195 6)) 195 3))) C (obj_Rea G) (ci := 3) rfl inX3 (slot := 3) (by decide) qw_154 rfl rfl dX3_takeWord_1 ?_
      have hb1 := tv hTq (k := 195) (j := 3) rfl
      refine at_ve (b := (q : Int)) (mRd_3 _ _ _ _ _) ?_
      refine at_aload_n C 0 dX3_takeWord_4 rfl ?_
      refine at_getf (v := .int (sI ((mRd M q (M 195 4) (M 195 5) (M 195 6)) 195 2))) C (obj_Rea G) (ci := 3) rfl inX3 (slot := 2) (by decide) qw_152 rfl rfl dX3_takeWord_5 ?_
      have hb2 := tv hTq (k := 195) (j := 2) rfl
      refine at_ve (b := (((rN M) : Nat) : Int)) (by rw [mRd_o (by decide)]; exact hrn.2) ?_
      refine at_icmp_ge C 39 dX3_takeWord_8 (by decide) (⟨by omega, by omega⟩) (⟨by omega, by omega⟩) (fun h3 => ?_) (fun h3 => ?_)
      · refine at_aload_n C 0 dX3_takeWord_39 rfl ?_
        refine at_iconst C dX3_takeWord_40 ?_
        refine at_putM (slot := 5) (ty := .int) C tyX3 (obj_Rea G) (ci := 3) rfl inX3 tyX3_ok nmX3 (by decide) qw_157 rfl rfl (by decide +kernel) rfl rfl (Nat.le_of_ble_eq_true rfl) rfl dX3_takeWord_41 ?_
        have hT4 : TInv (sSt (mRd M q (M 195 4) (M 195 5) (M 195 6)) 195 5 1) := tv_st hTq (k := 195) (j := 5) rfl (⟨by omega, by omega⟩)
        exact hret _ _ _ _ dX3_takeWord_44 (⟨by rw [mRd_s5, ← hs, scan_n (fun z => by have z1 := z.1; omega)], hT4, rfl⟩)
      · refine at_aload_n C 0 dX3_takeWord_11 rfl ?_
        refine at_getf (v := .ref (G.1 (196))) C (obj_Rea G) (ci := 3) rfl inX3 (slot := 0) (by decide) qw_149 rfl rfl dX3_takeWord_12 ?_
        refine at_aload_n C 0 dX3_takeWord_15 rfl ?_
        refine at_getf (v := .int (sI ((mRd M q (M 195 4) (M 195 5) (M 195 6)) 195 3))) C (obj_Rea G) (ci := 3) rfl inX3 (slot := 3) (by decide) qw_154 rfl rfl dX3_takeWord_16 ?_
        have hb5 := tv hTq (k := 195) (j := 3) rfl
        refine at_ve (b := (q : Int)) (mRd_3 _ _ _ _ _) ?_
        refine at_bald C q (arB_text G) (rfl) (by omega) dX3_takeWord_19 ?_
        have hb6 := tv hTq (k := 196) (j := q) rfl
        refine at_ve (b := M 196 q) (by rw [mRd_ne (by decide)]) ?_
        have htx := tv_tx hT q
        refine at_stat_i C (c_X3_isLetter l D G (M 196 q) (by omega)) (As := [.int (sI (M 196 q))]) qw_359 qw_357 qw_5 qw_358 ⟨by decide, by decide, show (parseMethodDescriptor yX3_isLetter.desc).map (fun d => d.parameters.length) = some 1 by decide +kernel⟩ ⟨by decide, by decide⟩ ⟨Nat.zero_le _, Nat.zero_le _⟩ (Nat.le_of_ble_eq_true rfl) dX3_takeWord_20 rfl (fun r M' L' hp7 => ?_)
        obtain ⟨rfl, rfl, rfl⟩ := hp7
        refine at_if_eqB C 39 dX3_takeWord_23 (by decide) (fun h8 => ?_) (fun h8 => ?_)
        · refine at_aload_n C 0 dX3_takeWord_39 rfl ?_
          refine at_iconst C dX3_takeWord_40 ?_
          refine at_putM (slot := 5) (ty := .int) C tyX3 (obj_Rea G) (ci := 3) rfl inX3 tyX3_ok nmX3 (by decide) qw_157 rfl rfl (by decide +kernel) rfl rfl (Nat.le_of_ble_eq_true rfl) rfl dX3_takeWord_41 ?_
          have hT9 : TInv (sSt (mRd M q (M 195 4) (M 195 5) (M 195 6)) 195 5 1) := tv_st hTq (k := 195) (j := 5) rfl (⟨by omega, by omega⟩)
          exact hret _ _ _ _ dX3_takeWord_44 (⟨by rw [mRd_s5, ← hs, scan_n (fun z => absurd z.2 (by assumption))], hT9, rfl⟩)
        · refine at_aload_n C 0 dX3_takeWord_26 rfl ?_
          refine at_dup C dX3_takeWord_27 rfl ?_
          refine at_getf (v := .int (sI ((mRd M q (M 195 4) (M 195 5) (M 195 6)) 195 3))) C (obj_Rea G) (ci := 3) rfl inX3 (slot := 3) (by decide) qw_154 rfl rfl dX3_takeWord_28 ?_
          have hb10 := tv hTq (k := 195) (j := 3) rfl
          refine at_ve (b := (q : Int)) (mRd_3 _ _ _ _ _) ?_
          refine at_iconst C dX3_takeWord_31 ?_
          refine at_iadd C dX3_takeWord_32 ?_
          refine at_putM (slot := 3) (ty := .int) C tyX3 (obj_Rea G) (ci := 3) rfl inX3 tyX3_ok nmX3 (by decide) qw_154 rfl rfl (by decide +kernel) rfl rfl (Nat.le_of_ble_eq_true rfl) rfl dX3_takeWord_33 ?_
          have hT11 : TInv (sSt (mRd M q (M 195 4) (M 195 5) (M 195 6)) 195 3 ((q : Int) + 1)) := tv_st hTq (k := 195) (j := 3) rfl (⟨by omega, by omega⟩)
          refine at_goto C 0 dX3_takeWord_36 (by decide) ?_
          refine at_lv [0] rfl ?_
          exact at_eq (ih0 (q + 1) (by omega) (by omega) (by rw [← hs, scan_y (p := q) (by omega) (by assumption)])) rfl rfl (by rw [mRd_s3, show ((q : Int) + 1) = ((q + 1 : Nat) : Int) by omega]) (rfl)
  refine at_lv [0] rfl ?_
  exact at_eq (H0 _ p (Nat.lt_succ_self _) (hpn) (rfl)) rfl rfl (by rw [← hp]; exact mRd_i M) (rfl)

set_option maxHeartbeats 4000000 in
set_option maxRecDepth 100000 in
theorem c_X3_takeNumber (l : Launch) (D : va_G) (G : sG) {M : sM} {L : sL} (p : Nat) (hp : M 195 3 = (p : Int)) (hp4 : M 195 4 = (p : Int)) (hpn : p ≤ rN M) (hT : TInv M) : sKv l D G yX3_takeNumber cX3_takeNumber 1 1 20 [.ref (G.1 (195))] M L (fun M' L' => M' = mRd M (scan isFig (M 196) (rN M) p : Nat) p (if scan isFig (M 196) (rN M) p - p ≤ 2 then 2 else 4) (numV (M 196) p (scan isFig (M 196) (rN M) p)) ∧ TInv M' ∧ L = L') := by
  refine sKv_go (by decide) (Nat.le_of_ble_eq_true rfl) ?_
  intro zp ze zs zm za zb zt zc Q C hret
  refine at_eq (lv' := [(0, .ref (G.1 (195)))]) (st' := []) (M' := M) (L' := L) ?_ rfl rfl rfl rfl
  have hrn := rN_r hT
  have h4r : _ ≤ M 195 4 ∧ M 195 4 ≤ _ := tv hT (k := 195) (j := 4) (lo := 0) (hi := 150) rfl
  have h5r : _ ≤ M 195 5 ∧ M 195 5 ≤ _ := tv hT (k := 195) (j := 5) (lo := 0) (hi := 4) rfl
  have h6r : _ ≤ M 195 6 ∧ M 195 6 ≤ _ := tv hT (k := 195) (j := 6) (lo := 0) (hi := 99) rfl
  refine at_aload_n C 0 dX3_takeNumber_0 rfl ?_
  refine at_iconst C dX3_takeNumber_1 ?_
  refine at_putM (slot := 6) (ty := .int) C tyX3 (obj_Rea G) (ci := 3) rfl inX3 tyX3_ok nmX3 (by decide) qw_158 rfl rfl (by decide +kernel) rfl rfl (Nat.le_of_ble_eq_true rfl) rfl dX3_takeNumber_2 ?_
  have hT1 : TInv (sSt M 195 6 0) := tv_st hT (k := 195) (j := 6) rfl (⟨by omega, by omega⟩)
  have H5 : ∀ (fu : Nat) (q : Nat), rN M - q < fu → (p ≤ q ∧ q ≤ rN M) → (∀ j, p ≤ j → j < q → isFig (M 196 j)) → (scan isFig (M 196) (rN M) q = scan isFig (M 196) (rN M) p) → sAt zp l ze (sRm 1 20) zs zm za zb zt zc D G 1 0 0 Q 5 [(0, .ref (G.1 (195)))] [] (mRd M q p (M 195 5) (numV (M 196) p q)) L := by
    intro fu
    induction fu with
    | zero => intro q hd hq hf hs; exact absurd hd (Nat.not_lt_zero _)
    | succ fu ih5 =>
      intro q hd5 hq hf hs
      have hvr : 0 ≤ numV (M 196) p q ∧ numV (M 196) p q ≤ 99 := numV_r (n := rN M) (fun j h1 h2 => hf j h1 h2)
      have hTq : TInv (mRd M q p (M 195 5) (numV (M 196) p q)) := tv_rd hT (by omega) (by omega) h5r hvr
      refine at_aload_n C 0 dX3_takeNumber_5 rfl ?_
      refine at_getf (v := .int (sI ((mRd M q p (M 195 5) (numV (M 196) p q)) 195 3))) C (obj_Rea G) (ci := 3) rfl inX3 (slot := 3) (by decide) qw_154 rfl rfl dX3_takeNumber_6 ?_
      have hb2 := tv hTq (k := 195) (j := 3) rfl
      refine at_ve (b := (q : Int)) (mRd_3 _ _ _ _ _) ?_
      refine at_aload_n C 0 dX3_takeNumber_9 rfl ?_
      refine at_getf (v := .int (sI ((mRd M q p (M 195 5) (numV (M 196) p q)) 195 2))) C (obj_Rea G) (ci := 3) rfl inX3 (slot := 2) (by decide) qw_152 rfl rfl dX3_takeNumber_10 ?_
      have hb3 := tv hTq (k := 195) (j := 2) rfl
      refine at_ve (b := (((rN M) : Nat) : Int)) (by rw [mRd_o (by decide)]; exact hrn.2) ?_
      refine at_icmp_ge C 81 dX3_takeNumber_13 (by decide) (⟨by omega, by omega⟩) (⟨by omega, by omega⟩) (fun h4 => ?_) (fun h4 => ?_)
      · refine at_aload_n C 0 dX3_takeNumber_81 rfl ?_
        refine at_aload_n C 0 dX3_takeNumber_82 rfl ?_
        refine at_getf (v := .int (sI ((mRd M q p (M 195 5) (numV (M 196) p q)) 195 3))) C (obj_Rea G) (ci := 3) rfl inX3 (slot := 3) (by decide) qw_154 rfl rfl dX3_takeNumber_83 ?_
        have hb5 := tv hTq (k := 195) (j := 3) rfl
        refine at_ve (b := (q : Int)) (mRd_3 _ _ _ _ _) ?_
        refine at_aload_n C 0 dX3_takeNumber_86 rfl ?_
        refine at_getf (v := .int (sI ((mRd M q p (M 195 5) (numV (M 196) p q)) 195 4))) C (obj_Rea G) (ci := 3) rfl inX3 (slot := 4) (by decide) qw_156 rfl rfl dX3_takeNumber_87 ?_
        have hb6 := tv hTq (k := 195) (j := 4) rfl
        refine at_ve (b := (p : Int)) (mRd_4 _ _ _ _ _) ?_
        refine at_isub C dX3_takeNumber_90 ?_
        refine at_iconst C dX3_takeNumber_91 ?_
        refine at_icmp_gt C 99 dX3_takeNumber_92 (by decide) (⟨by omega, by omega⟩) (⟨by omega, by omega⟩) (fun h7 => ?_) (fun h7 => ?_)
        · refine at_iconst C dX3_takeNumber_99 ?_
          refine at_putM (slot := 5) (ty := .int) C tyX3 (obj_Rea G) (ci := 3) rfl inX3 tyX3_ok nmX3 (by decide) qw_157 rfl rfl (by decide +kernel) rfl rfl (Nat.le_of_ble_eq_true rfl) rfl dX3_takeNumber_100 ?_
          have hT8 : TInv (sSt (mRd M q p (M 195 5) (numV (M 196) p q)) 195 5 4) := tv_st hTq (k := 195) (j := 5) rfl (⟨by omega, by omega⟩)
          exact hret _ _ _ _ dX3_takeNumber_103 (⟨by rw [mRd_s5, ← hs, scan_n (fun z => by have z1 := z.1; omega)]; rw [if_neg (by omega)], hT8, rfl⟩)
        · refine at_iconst C dX3_takeNumber_95 ?_
          refine at_goto C 100 dX3_takeNumber_96 (by decide) ?_
          refine at_putM (slot := 5) (ty := .int) C tyX3 (obj_Rea G) (ci := 3) rfl inX3 tyX3_ok nmX3 (by decide) qw_157 rfl rfl (by decide +kernel) rfl rfl (Nat.le_of_ble_eq_true rfl) rfl dX3_takeNumber_100 ?_
          have hT9 : TInv (sSt (mRd M q p (M 195 5) (numV (M 196) p q)) 195 5 2) := tv_st hTq (k := 195) (j := 5) rfl (⟨by omega, by omega⟩)
          exact hret _ _ _ _ dX3_takeNumber_103 (⟨by rw [mRd_s5, ← hs, scan_n (fun z => by have z1 := z.1; omega)]; rw [if_pos (by omega)], hT9, rfl⟩)
      · refine at_aload_n C 0 dX3_takeNumber_16 rfl ?_
        refine at_getf (v := .ref (G.1 (196))) C (obj_Rea G) (ci := 3) rfl inX3 (slot := 0) (by decide) qw_149 rfl rfl dX3_takeNumber_17 ?_
        refine at_aload_n C 0 dX3_takeNumber_20 rfl ?_
        refine at_getf (v := .int (sI ((mRd M q p (M 195 5) (numV (M 196) p q)) 195 3))) C (obj_Rea G) (ci := 3) rfl inX3 (slot := 3) (by decide) qw_154 rfl rfl dX3_takeNumber_21 ?_
        have hb10 := tv hTq (k := 195) (j := 3) rfl
        refine at_ve (b := (q : Int)) (mRd_3 _ _ _ _ _) ?_
        refine at_bald C q (arB_text G) (rfl) (by omega) dX3_takeNumber_24 ?_
        have hb11 := tv hTq (k := 196) (j := q) rfl
        refine at_ve (b := M 196 q) (by rw [mRd_ne (by decide)]) ?_
        have htx := tv_tx hT q
        refine at_stat_i C (c_X3_isFigure l D G (M 196 q) (by omega)) (As := [.int (sI (M 196 q))]) qw_366 qw_364 qw_5 qw_365 ⟨by decide, by decide, show (parseMethodDescriptor yX3_isFigure.desc).map (fun d => d.parameters.length) = some 1 by decide +kernel⟩ ⟨by decide, by decide⟩ ⟨Nat.zero_le _, Nat.zero_le _⟩ (Nat.le_of_ble_eq_true rfl) dX3_takeNumber_25 rfl (fun r M' L' hp12 => ?_)
        obtain ⟨rfl, rfl, rfl⟩ := hp12
        refine at_if_eqB C 81 dX3_takeNumber_28 (by decide) (fun h13 => ?_) (fun h13 => ?_)
        · refine at_aload_n C 0 dX3_takeNumber_81 rfl ?_
          refine at_aload_n C 0 dX3_takeNumber_82 rfl ?_
          refine at_getf (v := .int (sI ((mRd M q p (M 195 5) (numV (M 196) p q)) 195 3))) C (obj_Rea G) (ci := 3) rfl inX3 (slot := 3) (by decide) qw_154 rfl rfl dX3_takeNumber_83 ?_
          have hb14 := tv hTq (k := 195) (j := 3) rfl
          refine at_ve (b := (q : Int)) (mRd_3 _ _ _ _ _) ?_
          refine at_aload_n C 0 dX3_takeNumber_86 rfl ?_
          refine at_getf (v := .int (sI ((mRd M q p (M 195 5) (numV (M 196) p q)) 195 4))) C (obj_Rea G) (ci := 3) rfl inX3 (slot := 4) (by decide) qw_156 rfl rfl dX3_takeNumber_87 ?_
          have hb15 := tv hTq (k := 195) (j := 4) rfl
          refine at_ve (b := (p : Int)) (mRd_4 _ _ _ _ _) ?_
          refine at_isub C dX3_takeNumber_90 ?_
          refine at_iconst C dX3_takeNumber_91 ?_
          refine at_icmp_gt C 99 dX3_takeNumber_92 (by decide) (⟨by omega, by omega⟩) (⟨by omega, by omega⟩) (fun h16 => ?_) (fun h16 => ?_)
          · refine at_iconst C dX3_takeNumber_99 ?_
            refine at_putM (slot := 5) (ty := .int) C tyX3 (obj_Rea G) (ci := 3) rfl inX3 tyX3_ok nmX3 (by decide) qw_157 rfl rfl (by decide +kernel) rfl rfl (Nat.le_of_ble_eq_true rfl) rfl dX3_takeNumber_100 ?_
            have hT17 : TInv (sSt (mRd M q p (M 195 5) (numV (M 196) p q)) 195 5 4) := tv_st hTq (k := 195) (j := 5) rfl (⟨by omega, by omega⟩)
            exact hret _ _ _ _ dX3_takeNumber_103 (⟨by rw [mRd_s5, ← hs, scan_n (fun z => absurd z.2 (by assumption))]; rw [if_neg (by omega)], hT17, rfl⟩)
          · refine at_iconst C dX3_takeNumber_95 ?_
            refine at_goto C 100 dX3_takeNumber_96 (by decide) ?_
            refine at_putM (slot := 5) (ty := .int) C tyX3 (obj_Rea G) (ci := 3) rfl inX3 tyX3_ok nmX3 (by decide) qw_157 rfl rfl (by decide +kernel) rfl rfl (Nat.le_of_ble_eq_true rfl) rfl dX3_takeNumber_100 ?_
            have hT18 : TInv (sSt (mRd M q p (M 195 5) (numV (M 196) p q)) 195 5 2) := tv_st hTq (k := 195) (j := 5) rfl (⟨by omega, by omega⟩)
            exact hret _ _ _ _ dX3_takeNumber_103 (⟨by rw [mRd_s5, ← hs, scan_n (fun z => absurd z.2 (by assumption))]; rw [if_pos (by omega)], hT18, rfl⟩)
        · refine at_aload_n C 0 dX3_takeNumber_31 rfl ?_
          refine at_getf (v := .int (sI ((mRd M q p (M 195 5) (numV (M 196) p q)) 195 3))) C (obj_Rea G) (ci := 3) rfl inX3 (slot := 3) (by decide) qw_154 rfl rfl dX3_takeNumber_32 ?_
          have hb19 := tv hTq (k := 195) (j := 3) rfl
          refine at_ve (b := (q : Int)) (mRd_3 _ _ _ _ _) ?_
          refine at_aload_n C 0 dX3_takeNumber_35 rfl ?_
          refine at_getf (v := .int (sI ((mRd M q p (M 195 5) (numV (M 196) p q)) 195 4))) C (obj_Rea G) (ci := 3) rfl inX3 (slot := 4) (by decide) qw_156 rfl rfl dX3_takeNumber_36 ?_
          have hb20 := tv hTq (k := 195) (j := 4) rfl
          refine at_ve (b := (p : Int)) (mRd_4 _ _ _ _ _) ?_
          refine at_isub C dX3_takeNumber_39 ?_
          refine at_iconst C dX3_takeNumber_40 ?_
          refine at_icmp_ge C 68 dX3_takeNumber_41 (by decide) (⟨by omega, by omega⟩) (⟨by omega, by omega⟩) (fun h21 => ?_) (fun h21 => ?_)
          · refine at_aload_n C 0 dX3_takeNumber_68 rfl ?_
            refine at_dup C dX3_takeNumber_69 rfl ?_
            refine at_getf (v := .int (sI ((mRd M q p (M 195 5) (numV (M 196) p q)) 195 3))) C (obj_Rea G) (ci := 3) rfl inX3 (slot := 3) (by decide) qw_154 rfl rfl dX3_takeNumber_70 ?_
            have hb22 := tv hTq (k := 195) (j := 3) rfl
            refine at_ve (b := (q : Int)) (mRd_3 _ _ _ _ _) ?_
            refine at_iconst C dX3_takeNumber_73 ?_
            refine at_iadd C dX3_takeNumber_74 ?_
            refine at_putM (slot := 3) (ty := .int) C tyX3 (obj_Rea G) (ci := 3) rfl inX3 tyX3_ok nmX3 (by decide) qw_154 rfl rfl (by decide +kernel) rfl rfl (Nat.le_of_ble_eq_true rfl) rfl dX3_takeNumber_75 ?_
            have hT23 : TInv (sSt (mRd M q p (M 195 5) (numV (M 196) p q)) 195 3 ((q : Int) + 1)) := tv_st hTq (k := 195) (j := 3) rfl (⟨by omega, by omega⟩)
            refine at_goto C 5 dX3_takeNumber_78 (by decide) ?_
            refine at_lv [0] rfl ?_
            exact at_eq (ih5 (q + 1) (by omega) (⟨by omega, by omega⟩) (fun j h1 h2 => by
                rcases Nat.lt_succ_iff_lt_or_eq.mp h2 with z | z
                · exact hf j h1 z
                · rw [z]; assumption) (by rw [← hs, scan_y (p := q) (by omega) (by assumption)])) rfl rfl (by rw [mRd_s3, numV_k (by omega), show ((q : Int) + 1) = ((q + 1 : Nat) : Int) by omega]) (rfl)
          · refine at_aload_n C 0 dX3_takeNumber_44 rfl ?_
            refine at_bipush C dX3_takeNumber_45 (by decide) (by decide) ?_
            refine at_aload_n C 0 dX3_takeNumber_47 rfl ?_
            refine at_getf (v := .int (sI ((mRd M q p (M 195 5) (numV (M 196) p q)) 195 6))) C (obj_Rea G) (ci := 3) rfl inX3 (slot := 6) (by decide) qw_158 rfl rfl dX3_takeNumber_48 ?_
            have hb24 := tv hTq (k := 195) (j := 6) rfl
            refine at_ve (b := numV (M 196) p q) (mRd_6 _ _ _ _ _) ?_
            refine at_imul C dX3_takeNumber_51 ?_
            refine at_aload_n C 0 dX3_takeNumber_52 rfl ?_
            refine at_getf (v := .ref (G.1 (196))) C (obj_Rea G) (ci := 3) rfl inX3 (slot := 0) (by decide) qw_149 rfl rfl dX3_takeNumber_53 ?_
            refine at_aload_n C 0 dX3_takeNumber_56 rfl ?_
            refine at_getf (v := .int (sI ((mRd M q p (M 195 5) (numV (M 196) p q)) 195 3))) C (obj_Rea G) (ci := 3) rfl inX3 (slot := 3) (by decide) qw_154 rfl rfl dX3_takeNumber_57 ?_
            have hb25 := tv hTq (k := 195) (j := 3) rfl
            refine at_ve (b := (q : Int)) (mRd_3 _ _ _ _ _) ?_
            refine at_bald C q (arB_text G) (rfl) (by omega) dX3_takeNumber_60 ?_
            have hb26 := tv hTq (k := 196) (j := q) rfl
            refine at_ve (b := M 196 q) (by rw [mRd_ne (by decide)]) ?_
            have htx := tv_tx hT q
            refine at_iadd C dX3_takeNumber_61 ?_
            refine at_bipush C dX3_takeNumber_62 (by decide) (by decide) ?_
            refine at_isub C dX3_takeNumber_64 ?_
            refine at_putM (slot := 6) (ty := .int) C tyX3 (obj_Rea G) (ci := 3) rfl inX3 tyX3_ok nmX3 (by decide) qw_158 rfl rfl (by decide +kernel) rfl rfl (Nat.le_of_ble_eq_true rfl) rfl dX3_takeNumber_65 ?_
            have hT27 : TInv (sSt (mRd M q p (M 195 5) (numV (M 196) p q)) 195 6 (((10 * (numV (M 196) p q)) + (M 196 q)) - 48)) := tv_st hTq (k := 195) (j := 6) rfl (by have hb := numV_r (T := M 196) (s := p) (q := q + 1) (n := rN M) (fun j h1 h2 => by rcases Nat.lt_succ_iff_lt_or_eq.mp h2 with z | z; exact hf j h1 z; (rw [z]; assumption)); have e := numV_s (T := M 196) (p := p) (q := q) (by omega) (by omega); omega)
            refine at_aload_n C 0 dX3_takeNumber_68 rfl ?_
            refine at_dup C dX3_takeNumber_69 rfl ?_
            refine at_getf (v := .int (sI ((sSt (mRd M q p (M 195 5) (numV (M 196) p q)) 195 6 (((10 * (numV (M 196) p q)) + (M 196 q)) - 48)) 195 3))) C (obj_Rea G) (ci := 3) rfl inX3 (slot := 3) (by decide) qw_154 rfl rfl dX3_takeNumber_70 ?_
            have hb28 := tv hT27 (k := 195) (j := 3) rfl
            refine at_ve (b := (q : Int)) (by rw [sSt_nj (by decide)]; exact mRd_3 _ _ _ _ _) ?_
            refine at_iconst C dX3_takeNumber_73 ?_
            refine at_iadd C dX3_takeNumber_74 ?_
            refine at_putM (slot := 3) (ty := .int) C tyX3 (obj_Rea G) (ci := 3) rfl inX3 tyX3_ok nmX3 (by decide) qw_154 rfl rfl (by decide +kernel) rfl rfl (Nat.le_of_ble_eq_true rfl) rfl dX3_takeNumber_75 ?_
            have hT29 : TInv (sSt (sSt (mRd M q p (M 195 5) (numV (M 196) p q)) 195 6 (((10 * (numV (M 196) p q)) + (M 196 q)) - 48)) 195 3 ((q : Int) + 1)) := tv_st hT27 (k := 195) (j := 3) rfl (⟨by omega, by omega⟩)
            refine at_goto C 5 dX3_takeNumber_78 (by decide) ?_
            refine at_lv [0] rfl ?_
            exact at_eq (ih5 (q + 1) (by omega) (⟨by omega, by omega⟩) (fun j h1 h2 => by
                rcases Nat.lt_succ_iff_lt_or_eq.mp h2 with z | z
                · exact hf j h1 z
                · rw [z]; assumption) (by rw [← hs, scan_y (p := q) (by omega) (by assumption)])) rfl rfl (by rw [mRd_s6, mRd_s3, numV_s (by omega) (by omega), show ((q : Int) + 1) = ((q + 1 : Nat) : Int) by omega]) (rfl)
  refine at_lv [0] rfl ?_
  exact at_eq (H5 _ p (Nat.lt_succ_self _) (⟨Nat.le_refl p, hpn⟩) (fun j h1 h2 => by omega) (rfl)) rfl rfl (mRd_z hp hp4) (rfl)

set_option maxHeartbeats 4000000 in
set_option maxRecDepth 100000 in
theorem c_X3_nextToken (l : Launch) (D : va_G) (G : sG) {M : sM} {L : sL} (hT : TInv M) (hk : rOk M) : sKv l D G yX3_nextToken cX3_nextToken 1 2 40 [.ref (G.1 (195))] M L (fun M' L' => M' = nxM M ∧ TInv M' ∧ L = L') := by
  refine sKv_go (by decide) (Nat.le_of_ble_eq_true rfl) ?_
  intro zp ze zs zm za zb zt zc Q C hret
  refine at_eq (lv' := [(0, .ref (G.1 (195)))]) (st' := []) (M' := M) (L' := L) ?_ rfl rfl rfl rfl
  have hrn := rN_r hT
  have h4r : _ ≤ M 195 4 ∧ M 195 4 ≤ _ := tv hT (k := 195) (j := 4) (lo := 0) (hi := 150) rfl
  have h5r : _ ≤ M 195 5 ∧ M 195 5 ≤ _ := tv hT (k := 195) (j := 5) (lo := 0) (hi := 4) rfl
  have h6r : _ ≤ M 195 6 ∧ M 195 6 ≤ _ := tv hT (k := 195) (j := 6) (lo := 0) (hi := 99) rfl
  have hrp := rP_r hT
  have hkk : M 195 3 ≤ M 195 2 := hk
  have H0 : ∀ (fu : Nat) (q : Nat), rN M - q < fu → (q ≤ rN M) → (scan isSp (M 196) (rN M) q = tS M) → sAt zp l ze (sRm 2 40) zs zm za zb zt zc D G 1 0 0 Q 0 [(0, .ref (G.1 (195)))] [] (mRd M q (M 195 4) (M 195 5) (M 195 6)) L := by
    intro fu
    induction fu with
    | zero => intro q hd hq hs0; exact absurd hd (Nat.not_lt_zero _)
    | succ fu ih0 =>
      intro q hd0 hq hs0
      have hTq : TInv (mRd M q (M 195 4) (M 195 5) (M 195 6)) := tv_rd hT (by omega) h4r h5r h6r
      refine at_aload_n C 0 dX3_nextToken_0 rfl ?_
      refine at_getf (v := .int (sI ((mRd M q (M 195 4) (M 195 5) (M 195 6)) 195 3))) C (obj_Rea G) (ci := 3) rfl inX3 (slot := 3) (by decide) qw_154 rfl rfl dX3_nextToken_1 ?_
      have hb1 := tv hTq (k := 195) (j := 3) rfl
      refine at_ve (b := (q : Int)) (mRd_3 _ _ _ _ _) ?_
      refine at_aload_n C 0 dX3_nextToken_4 rfl ?_
      refine at_getf (v := .int (sI ((mRd M q (M 195 4) (M 195 5) (M 195 6)) 195 2))) C (obj_Rea G) (ci := 3) rfl inX3 (slot := 2) (by decide) qw_152 rfl rfl dX3_nextToken_5 ?_
      have hb2 := tv hTq (k := 195) (j := 2) rfl
      refine at_ve (b := (((rN M) : Nat) : Int)) (by rw [mRd_o (by decide)]; exact hrn.2) ?_
      refine at_icmp_ge C 38 dX3_nextToken_8 (by decide) (⟨by omega, by omega⟩) (⟨by omega, by omega⟩) (fun h3 => ?_) (fun h3 => ?_)
      · have hs : tS M = q := by rw [← hs0]; exact scan_n (fun z => by have z1 := z.1; omega)
        refine at_aload_n C 0 dX3_nextToken_38 rfl ?_
        refine at_aload_n C 0 dX3_nextToken_39 rfl ?_
        refine at_getf (v := .int (sI ((mRd M q (M 195 4) (M 195 5) (M 195 6)) 195 3))) C (obj_Rea G) (ci := 3) rfl inX3 (slot := 3) (by decide) qw_154 rfl rfl dX3_nextToken_40 ?_
        have hb4 := tv hTq (k := 195) (j := 3) rfl
        refine at_ve (b := (q : Int)) (mRd_3 _ _ _ _ _) ?_
        refine at_putM (slot := 4) (ty := .int) C tyX3 (obj_Rea G) (ci := 3) rfl inX3 tyX3_ok nmX3 (by decide) qw_156 rfl rfl (by decide +kernel) rfl rfl (Nat.le_of_ble_eq_true rfl) rfl dX3_nextToken_43 ?_
        have hT5 : TInv (sSt (mRd M q (M 195 4) (M 195 5) (M 195 6)) 195 4 (q : Int)) := tv_st hTq (k := 195) (j := 4) rfl (⟨by omega, by omega⟩)
        have hTs : TInv (mRd M q q (M 195 5) (M 195 6)) := tv_rd hT (by omega) (by omega) h5r h6r
        refine at_m (M' := (mRd M q q (M 195 5) (M 195 6))) (mRd_s4 _ _ _ _ _ _) ?_
        refine at_aload_n C 0 dX3_nextToken_46 rfl ?_
        refine at_getf (v := .int (sI ((mRd M q q (M 195 5) (M 195 6)) 195 3))) C (obj_Rea G) (ci := 3) rfl inX3 (slot := 3) (by decide) qw_154 rfl rfl dX3_nextToken_47 ?_
        have hb6 := tv hTs (k := 195) (j := 3) rfl
        refine at_ve (b := (q : Int)) (mRd_3 _ _ _ _ _) ?_
        refine at_aload_n C 0 dX3_nextToken_50 rfl ?_
        refine at_getf (v := .int (sI ((mRd M q q (M 195 5) (M 195 6)) 195 2))) C (obj_Rea G) (ci := 3) rfl inX3 (slot := 2) (by decide) qw_152 rfl rfl dX3_nextToken_51 ?_
        have hb7 := tv hTs (k := 195) (j := 2) rfl
        refine at_ve (b := (((rN M) : Nat) : Int)) (by rw [mRd_o (by decide)]; exact hrn.2) ?_
        refine at_icmp_lt C 65 dX3_nextToken_54 (by decide) (⟨by omega, by omega⟩) (⟨by omega, by omega⟩) (fun h8 => ?_) (fun h8 => ?_)
        · refine at_aload_n C 0 dX3_nextToken_65 rfl ?_
          refine at_getf (v := .ref (G.1 (196))) C (obj_Rea G) (ci := 3) rfl inX3 (slot := 0) (by decide) qw_149 rfl rfl dX3_nextToken_66 ?_
          refine at_aload_n C 0 dX3_nextToken_69 rfl ?_
          refine at_getf (v := .int (sI ((mRd M q q (M 195 5) (M 195 6)) 195 3))) C (obj_Rea G) (ci := 3) rfl inX3 (slot := 3) (by decide) qw_154 rfl rfl dX3_nextToken_70 ?_
          have hb9 := tv hTs (k := 195) (j := 3) rfl
          refine at_ve (b := (q : Int)) (mRd_3 _ _ _ _ _) ?_
          refine at_bald C q (arB_text G) (rfl) (by omega) dX3_nextToken_73 ?_
          have hb10 := tv hTs (k := 196) (j := q) rfl
          refine at_ve (b := M 196 q) (by rw [mRd_ne (by decide)]) ?_
          have htx := tv_tx hT q
          refine at_stat_i C (c_X3_isLetter l D G (M 196 q) (by omega)) (As := [.int (sI (M 196 q))]) qw_359 qw_357 qw_5 qw_358 ⟨by decide, by decide, show (parseMethodDescriptor yX3_isLetter.desc).map (fun d => d.parameters.length) = some 1 by decide +kernel⟩ ⟨by decide, by decide⟩ ⟨Nat.zero_le _, Nat.zero_le _⟩ (Nat.le_of_ble_eq_true rfl) dX3_nextToken_74 rfl (fun r M' L' hp11 => ?_)
          obtain ⟨rfl, rfl, rfl⟩ := hp11
          refine at_if_eqB C 87 dX3_nextToken_77 (by decide) (fun h12 => ?_) (fun h12 => ?_)
          · refine at_aload_n C 0 dX3_nextToken_87 rfl ?_
            refine at_getf (v := .ref (G.1 (196))) C (obj_Rea G) (ci := 3) rfl inX3 (slot := 0) (by decide) qw_149 rfl rfl dX3_nextToken_88 ?_
            refine at_aload_n C 0 dX3_nextToken_91 rfl ?_
            refine at_getf (v := .int (sI ((mRd M q q (M 195 5) (M 195 6)) 195 3))) C (obj_Rea G) (ci := 3) rfl inX3 (slot := 3) (by decide) qw_154 rfl rfl dX3_nextToken_92 ?_
            have hb13 := tv hTs (k := 195) (j := 3) rfl
            refine at_ve (b := (q : Int)) (mRd_3 _ _ _ _ _) ?_
            refine at_bald C q (arB_text G) (rfl) (by omega) dX3_nextToken_95 ?_
            have hb14 := tv hTs (k := 196) (j := q) rfl
            refine at_ve (b := M 196 q) (by rw [mRd_ne (by decide)]) ?_
            have htx := tv_tx hT q
            refine at_stat_i C (c_X3_isFigure l D G (M 196 q) (by omega)) (As := [.int (sI (M 196 q))]) qw_366 qw_364 qw_5 qw_365 ⟨by decide, by decide, show (parseMethodDescriptor yX3_isFigure.desc).map (fun d => d.parameters.length) = some 1 by decide +kernel⟩ ⟨by decide, by decide⟩ ⟨Nat.zero_le _, Nat.zero_le _⟩ (Nat.le_of_ble_eq_true rfl) dX3_nextToken_96 rfl (fun r M' L' hp15 => ?_)
            obtain ⟨rfl, rfl, rfl⟩ := hp15
            refine at_if_eqB C 109 dX3_nextToken_99 (by decide) (fun h16 => ?_) (fun h16 => ?_)
            · refine at_aload_n C 0 dX3_nextToken_109 rfl ?_
              refine at_aload_n C 0 dX3_nextToken_110 rfl ?_
              refine at_getf (v := .ref (G.1 (196))) C (obj_Rea G) (ci := 3) rfl inX3 (slot := 0) (by decide) qw_149 rfl rfl dX3_nextToken_111 ?_
              refine at_aload_n C 0 dX3_nextToken_114 rfl ?_
              refine at_getf (v := .int (sI ((mRd M q q (M 195 5) (M 195 6)) 195 3))) C (obj_Rea G) (ci := 3) rfl inX3 (slot := 3) (by decide) qw_154 rfl rfl dX3_nextToken_115 ?_
              have hb17 := tv hTs (k := 195) (j := 3) rfl
              refine at_ve (b := (q : Int)) (mRd_3 _ _ _ _ _) ?_
              refine at_bald C q (arB_text G) (rfl) (by omega) dX3_nextToken_118 ?_
              have hb18 := tv hTs (k := 196) (j := q) rfl
              refine at_ve (b := M 196 q) (by rw [mRd_ne (by decide)]) ?_
              have htx := tv_tx hT q
              refine at_bipush C dX3_nextToken_119 (by decide) (by decide) ?_
              refine at_icmp_ne C 128 dX3_nextToken_121 (by decide) (⟨by omega, by omega⟩) (⟨by omega, by omega⟩) (fun h19 => ?_) (fun h19 => ?_)
              · refine at_iconst C dX3_nextToken_128 ?_
                refine at_putM (slot := 5) (ty := .int) C tyX3 (obj_Rea G) (ci := 3) rfl inX3 tyX3_ok nmX3 (by decide) qw_157 rfl rfl (by decide +kernel) rfl rfl (Nat.le_of_ble_eq_true rfl) rfl dX3_nextToken_129 ?_
                have hT20 : TInv (sSt (mRd M q q (M 195 5) (M 195 6)) 195 5 4) := tv_st hTs (k := 195) (j := 5) rfl (⟨by omega, by omega⟩)
                refine at_aload_n C 0 dX3_nextToken_132 rfl ?_
                refine at_dup C dX3_nextToken_133 rfl ?_
                refine at_getf (v := .int (sI ((sSt (mRd M q q (M 195 5) (M 195 6)) 195 5 4) 195 3))) C (obj_Rea G) (ci := 3) rfl inX3 (slot := 3) (by decide) qw_154 rfl rfl dX3_nextToken_134 ?_
                have hb21 := tv hT20 (k := 195) (j := 3) rfl
                refine at_ve (b := (q : Int)) (by rw [sSt_nj (by decide)]; exact mRd_3 _ _ _ _ _) ?_
                refine at_iconst C dX3_nextToken_137 ?_
                refine at_iadd C dX3_nextToken_138 ?_
                refine at_putM (slot := 3) (ty := .int) C tyX3 (obj_Rea G) (ci := 3) rfl inX3 tyX3_ok nmX3 (by decide) qw_154 rfl rfl (by decide +kernel) rfl rfl (Nat.le_of_ble_eq_true rfl) rfl dX3_nextToken_139 ?_
                have hT22 : TInv (sSt (sSt (mRd M q q (M 195 5) (M 195 6)) 195 5 4) 195 3 ((q : Int) + 1)) := tv_st hT20 (k := 195) (j := 3) rfl (⟨by omega, by omega⟩)
                exact hret _ _ _ _ dX3_nextToken_142 (⟨(by rw [mRd_s5, mRd_s3]; exact nx_odd hs (by omega) (by assumption) (by assumption) (by rw [if_neg (by omega)])), nxT (by rw [mRd_s5, mRd_s3]; exact nx_odd hs (by omega) (by assumption) (by assumption) (by rw [if_neg (by omega)])) hT hk, rfl⟩)
              · refine at_iconst C dX3_nextToken_124 ?_
                refine at_goto C 129 dX3_nextToken_125 (by decide) ?_
                refine at_putM (slot := 5) (ty := .int) C tyX3 (obj_Rea G) (ci := 3) rfl inX3 tyX3_ok nmX3 (by decide) qw_157 rfl rfl (by decide +kernel) rfl rfl (Nat.le_of_ble_eq_true rfl) rfl dX3_nextToken_129 ?_
                have hT23 : TInv (sSt (mRd M q q (M 195 5) (M 195 6)) 195 5 3) := tv_st hTs (k := 195) (j := 5) rfl (⟨by omega, by omega⟩)
                refine at_aload_n C 0 dX3_nextToken_132 rfl ?_
                refine at_dup C dX3_nextToken_133 rfl ?_
                refine at_getf (v := .int (sI ((sSt (mRd M q q (M 195 5) (M 195 6)) 195 5 3) 195 3))) C (obj_Rea G) (ci := 3) rfl inX3 (slot := 3) (by decide) qw_154 rfl rfl dX3_nextToken_134 ?_
                have hb24 := tv hT23 (k := 195) (j := 3) rfl
                refine at_ve (b := (q : Int)) (by rw [sSt_nj (by decide)]; exact mRd_3 _ _ _ _ _) ?_
                refine at_iconst C dX3_nextToken_137 ?_
                refine at_iadd C dX3_nextToken_138 ?_
                refine at_putM (slot := 3) (ty := .int) C tyX3 (obj_Rea G) (ci := 3) rfl inX3 tyX3_ok nmX3 (by decide) qw_154 rfl rfl (by decide +kernel) rfl rfl (Nat.le_of_ble_eq_true rfl) rfl dX3_nextToken_139 ?_
                have hT25 : TInv (sSt (sSt (mRd M q q (M 195 5) (M 195 6)) 195 5 3) 195 3 ((q : Int) + 1)) := tv_st hT23 (k := 195) (j := 3) rfl (⟨by omega, by omega⟩)
                exact hret _ _ _ _ dX3_nextToken_142 (⟨(by rw [mRd_s5, mRd_s3]; exact nx_odd hs (by omega) (by assumption) (by assumption) (by rw [if_pos (by omega)])), nxT (by rw [mRd_s5, mRd_s3]; exact nx_odd hs (by omega) (by assumption) (by assumption) (by rw [if_pos (by omega)])) hT hk, rfl⟩)
            · refine at_aload_n C 0 dX3_nextToken_102 rfl ?_
              refine at_call_v C (c_X3_takeNumber l D G q (mRd_3 _ _ _ _ _) (mRd_4 _ _ _ _ _) (by rw [mRd_N]; omega) hTs) (As := []) (obj_Rea G) (ci := 3) rfl qw_370 qw_367 qw_5 qw_369 qp_4 ⟨by decide, by decide, show (parseMethodDescriptor yX3_takeNumber.desc).map (fun d => d.parameters.length) = some 0 by decide +kernel⟩ ⟨by decide, by decide⟩ ⟨Nat.zero_le _, Nat.zero_le _⟩ (Nat.le_of_ble_eq_true rfl) dX3_nextToken_103 rfl (fun M' L' hp27 => ?_)
              obtain ⟨rfl, hT26, rfl⟩ := hp27
              refine at_goto C 142 dX3_nextToken_106 (by decide) ?_
              exact hret _ _ _ _ dX3_nextToken_142 (⟨(by rw [mRd_m, mRd_ne (by decide), mRd_N]; exact nx_num hs (by omega) (by assumption) (by assumption)), nxT (by rw [mRd_m, mRd_ne (by decide), mRd_N]; exact nx_num hs (by omega) (by assumption) (by assumption)) hT hk, rfl⟩)
          · refine at_aload_n C 0 dX3_nextToken_80 rfl ?_
            refine at_call_v C (c_X3_takeWord l D G q (mRd_3 _ _ _ _ _) (by rw [mRd_N]; omega) hTs) (As := []) (obj_Rea G) (ci := 3) rfl qw_363 qw_360 qw_5 qw_362 qp_3 ⟨by decide, by decide, show (parseMethodDescriptor yX3_takeWord.desc).map (fun d => d.parameters.length) = some 0 by decide +kernel⟩ ⟨by decide, by decide⟩ ⟨Nat.zero_le _, Nat.zero_le _⟩ (Nat.le_of_ble_eq_true rfl) dX3_nextToken_81 rfl (fun M' L' hp29 => ?_)
            obtain ⟨rfl, hT28, rfl⟩ := hp29
            refine at_goto C 142 dX3_nextToken_84 (by decide) ?_
            exact hret _ _ _ _ dX3_nextToken_142 (⟨(by rw [mRd_m, mRd_ne (by decide), mRd_N, mRd_4, mRd_6]; exact nx_word hs (by omega) (by assumption)), nxT (by rw [mRd_m, mRd_ne (by decide), mRd_N, mRd_4, mRd_6]; exact nx_word hs (by omega) (by assumption)) hT hk, rfl⟩)
        · refine at_aload_n C 0 dX3_nextToken_57 rfl ?_
          refine at_iconst C dX3_nextToken_58 ?_
          refine at_putM (slot := 5) (ty := .int) C tyX3 (obj_Rea G) (ci := 3) rfl inX3 tyX3_ok nmX3 (by decide) qw_157 rfl rfl (by decide +kernel) rfl rfl (Nat.le_of_ble_eq_true rfl) rfl dX3_nextToken_59 ?_
          have hT30 : TInv (sSt (mRd M q q (M 195 5) (M 195 6)) 195 5 0) := tv_st hTs (k := 195) (j := 5) rfl (⟨by omega, by omega⟩)
          refine at_goto C 142 dX3_nextToken_62 (by decide) ?_
          exact hret _ _ _ _ dX3_nextToken_142 (⟨(by rw [mRd_s5]; exact nx_end hs (by omega)), nxT (by rw [mRd_s5]; exact nx_end hs (by omega)) hT hk, rfl⟩)
      · refine at_aload_n C 0 dX3_nextToken_11 rfl ?_
        refine at_getf (v := .ref (G.1 (196))) C (obj_Rea G) (ci := 3) rfl inX3 (slot := 0) (by decide) qw_149 rfl rfl dX3_nextToken_12 ?_
        refine at_aload_n C 0 dX3_nextToken_15 rfl ?_
        refine at_getf (v := .int (sI ((mRd M q (M 195 4) (M 195 5) (M 195 6)) 195 3))) C (obj_Rea G) (ci := 3) rfl inX3 (slot := 3) (by decide) qw_154 rfl rfl dX3_nextToken_16 ?_
        have hb31 := tv hTq (k := 195) (j := 3) rfl
        refine at_ve (b := (q : Int)) (mRd_3 _ _ _ _ _) ?_
        refine at_bald C q (arB_text G) (rfl) (by omega) dX3_nextToken_19 ?_
        have hb32 := tv hTq (k := 196) (j := q) rfl
        refine at_ve (b := M 196 q) (by rw [mRd_ne (by decide)]) ?_
        have htx := tv_tx hT q
        refine at_bipush C dX3_nextToken_20 (by decide) (by decide) ?_
        refine at_icmp_ne C 38 dX3_nextToken_22 (by decide) (⟨by omega, by omega⟩) (⟨by omega, by omega⟩) (fun h33 => ?_) (fun h33 => ?_)
        · have hs : tS M = q := by rw [← hs0]; exact scan_n (fun z => absurd z.2 (by assumption))
          refine at_aload_n C 0 dX3_nextToken_38 rfl ?_
          refine at_aload_n C 0 dX3_nextToken_39 rfl ?_
          refine at_getf (v := .int (sI ((mRd M q (M 195 4) (M 195 5) (M 195 6)) 195 3))) C (obj_Rea G) (ci := 3) rfl inX3 (slot := 3) (by decide) qw_154 rfl rfl dX3_nextToken_40 ?_
          have hb34 := tv hTq (k := 195) (j := 3) rfl
          refine at_ve (b := (q : Int)) (mRd_3 _ _ _ _ _) ?_
          refine at_putM (slot := 4) (ty := .int) C tyX3 (obj_Rea G) (ci := 3) rfl inX3 tyX3_ok nmX3 (by decide) qw_156 rfl rfl (by decide +kernel) rfl rfl (Nat.le_of_ble_eq_true rfl) rfl dX3_nextToken_43 ?_
          have hT35 : TInv (sSt (mRd M q (M 195 4) (M 195 5) (M 195 6)) 195 4 (q : Int)) := tv_st hTq (k := 195) (j := 4) rfl (⟨by omega, by omega⟩)
          have hTs : TInv (mRd M q q (M 195 5) (M 195 6)) := tv_rd hT (by omega) (by omega) h5r h6r
          refine at_m (M' := (mRd M q q (M 195 5) (M 195 6))) (mRd_s4 _ _ _ _ _ _) ?_
          refine at_aload_n C 0 dX3_nextToken_46 rfl ?_
          refine at_getf (v := .int (sI ((mRd M q q (M 195 5) (M 195 6)) 195 3))) C (obj_Rea G) (ci := 3) rfl inX3 (slot := 3) (by decide) qw_154 rfl rfl dX3_nextToken_47 ?_
          have hb36 := tv hTs (k := 195) (j := 3) rfl
          refine at_ve (b := (q : Int)) (mRd_3 _ _ _ _ _) ?_
          refine at_aload_n C 0 dX3_nextToken_50 rfl ?_
          refine at_getf (v := .int (sI ((mRd M q q (M 195 5) (M 195 6)) 195 2))) C (obj_Rea G) (ci := 3) rfl inX3 (slot := 2) (by decide) qw_152 rfl rfl dX3_nextToken_51 ?_
          have hb37 := tv hTs (k := 195) (j := 2) rfl
          refine at_ve (b := (((rN M) : Nat) : Int)) (by rw [mRd_o (by decide)]; exact hrn.2) ?_
          refine at_icmp_lt C 65 dX3_nextToken_54 (by decide) (⟨by omega, by omega⟩) (⟨by omega, by omega⟩) (fun h38 => ?_) (fun h38 => ?_)
          · refine at_aload_n C 0 dX3_nextToken_65 rfl ?_
            refine at_getf (v := .ref (G.1 (196))) C (obj_Rea G) (ci := 3) rfl inX3 (slot := 0) (by decide) qw_149 rfl rfl dX3_nextToken_66 ?_
            refine at_aload_n C 0 dX3_nextToken_69 rfl ?_
            refine at_getf (v := .int (sI ((mRd M q q (M 195 5) (M 195 6)) 195 3))) C (obj_Rea G) (ci := 3) rfl inX3 (slot := 3) (by decide) qw_154 rfl rfl dX3_nextToken_70 ?_
            have hb39 := tv hTs (k := 195) (j := 3) rfl
            refine at_ve (b := (q : Int)) (mRd_3 _ _ _ _ _) ?_
            refine at_bald C q (arB_text G) (rfl) (by omega) dX3_nextToken_73 ?_
            have hb40 := tv hTs (k := 196) (j := q) rfl
            refine at_ve (b := M 196 q) (by rw [mRd_ne (by decide)]) ?_
            have htx := tv_tx hT q
            refine at_stat_i C (c_X3_isLetter l D G (M 196 q) (by omega)) (As := [.int (sI (M 196 q))]) qw_359 qw_357 qw_5 qw_358 ⟨by decide, by decide, show (parseMethodDescriptor yX3_isLetter.desc).map (fun d => d.parameters.length) = some 1 by decide +kernel⟩ ⟨by decide, by decide⟩ ⟨Nat.zero_le _, Nat.zero_le _⟩ (Nat.le_of_ble_eq_true rfl) dX3_nextToken_74 rfl (fun r M' L' hp41 => ?_)
            obtain ⟨rfl, rfl, rfl⟩ := hp41
            refine at_if_eqB C 87 dX3_nextToken_77 (by decide) (fun h42 => ?_) (fun h42 => ?_)
            · refine at_aload_n C 0 dX3_nextToken_87 rfl ?_
              refine at_getf (v := .ref (G.1 (196))) C (obj_Rea G) (ci := 3) rfl inX3 (slot := 0) (by decide) qw_149 rfl rfl dX3_nextToken_88 ?_
              refine at_aload_n C 0 dX3_nextToken_91 rfl ?_
              refine at_getf (v := .int (sI ((mRd M q q (M 195 5) (M 195 6)) 195 3))) C (obj_Rea G) (ci := 3) rfl inX3 (slot := 3) (by decide) qw_154 rfl rfl dX3_nextToken_92 ?_
              have hb43 := tv hTs (k := 195) (j := 3) rfl
              refine at_ve (b := (q : Int)) (mRd_3 _ _ _ _ _) ?_
              refine at_bald C q (arB_text G) (rfl) (by omega) dX3_nextToken_95 ?_
              have hb44 := tv hTs (k := 196) (j := q) rfl
              refine at_ve (b := M 196 q) (by rw [mRd_ne (by decide)]) ?_
              have htx := tv_tx hT q
              refine at_stat_i C (c_X3_isFigure l D G (M 196 q) (by omega)) (As := [.int (sI (M 196 q))]) qw_366 qw_364 qw_5 qw_365 ⟨by decide, by decide, show (parseMethodDescriptor yX3_isFigure.desc).map (fun d => d.parameters.length) = some 1 by decide +kernel⟩ ⟨by decide, by decide⟩ ⟨Nat.zero_le _, Nat.zero_le _⟩ (Nat.le_of_ble_eq_true rfl) dX3_nextToken_96 rfl (fun r M' L' hp45 => ?_)
              obtain ⟨rfl, rfl, rfl⟩ := hp45
              refine at_if_eqB C 109 dX3_nextToken_99 (by decide) (fun h46 => ?_) (fun h46 => ?_)
              · refine at_aload_n C 0 dX3_nextToken_109 rfl ?_
                refine at_aload_n C 0 dX3_nextToken_110 rfl ?_
                refine at_getf (v := .ref (G.1 (196))) C (obj_Rea G) (ci := 3) rfl inX3 (slot := 0) (by decide) qw_149 rfl rfl dX3_nextToken_111 ?_
                refine at_aload_n C 0 dX3_nextToken_114 rfl ?_
                refine at_getf (v := .int (sI ((mRd M q q (M 195 5) (M 195 6)) 195 3))) C (obj_Rea G) (ci := 3) rfl inX3 (slot := 3) (by decide) qw_154 rfl rfl dX3_nextToken_115 ?_
                have hb47 := tv hTs (k := 195) (j := 3) rfl
                refine at_ve (b := (q : Int)) (mRd_3 _ _ _ _ _) ?_
                refine at_bald C q (arB_text G) (rfl) (by omega) dX3_nextToken_118 ?_
                have hb48 := tv hTs (k := 196) (j := q) rfl
                refine at_ve (b := M 196 q) (by rw [mRd_ne (by decide)]) ?_
                have htx := tv_tx hT q
                refine at_bipush C dX3_nextToken_119 (by decide) (by decide) ?_
                refine at_icmp_ne C 128 dX3_nextToken_121 (by decide) (⟨by omega, by omega⟩) (⟨by omega, by omega⟩) (fun h49 => ?_) (fun h49 => ?_)
                · refine at_iconst C dX3_nextToken_128 ?_
                  refine at_putM (slot := 5) (ty := .int) C tyX3 (obj_Rea G) (ci := 3) rfl inX3 tyX3_ok nmX3 (by decide) qw_157 rfl rfl (by decide +kernel) rfl rfl (Nat.le_of_ble_eq_true rfl) rfl dX3_nextToken_129 ?_
                  have hT50 : TInv (sSt (mRd M q q (M 195 5) (M 195 6)) 195 5 4) := tv_st hTs (k := 195) (j := 5) rfl (⟨by omega, by omega⟩)
                  refine at_aload_n C 0 dX3_nextToken_132 rfl ?_
                  refine at_dup C dX3_nextToken_133 rfl ?_
                  refine at_getf (v := .int (sI ((sSt (mRd M q q (M 195 5) (M 195 6)) 195 5 4) 195 3))) C (obj_Rea G) (ci := 3) rfl inX3 (slot := 3) (by decide) qw_154 rfl rfl dX3_nextToken_134 ?_
                  have hb51 := tv hT50 (k := 195) (j := 3) rfl
                  refine at_ve (b := (q : Int)) (by rw [sSt_nj (by decide)]; exact mRd_3 _ _ _ _ _) ?_
                  refine at_iconst C dX3_nextToken_137 ?_
                  refine at_iadd C dX3_nextToken_138 ?_
                  refine at_putM (slot := 3) (ty := .int) C tyX3 (obj_Rea G) (ci := 3) rfl inX3 tyX3_ok nmX3 (by decide) qw_154 rfl rfl (by decide +kernel) rfl rfl (Nat.le_of_ble_eq_true rfl) rfl dX3_nextToken_139 ?_
                  have hT52 : TInv (sSt (sSt (mRd M q q (M 195 5) (M 195 6)) 195 5 4) 195 3 ((q : Int) + 1)) := tv_st hT50 (k := 195) (j := 3) rfl (⟨by omega, by omega⟩)
                  exact hret _ _ _ _ dX3_nextToken_142 (⟨(by rw [mRd_s5, mRd_s3]; exact nx_odd hs (by omega) (by assumption) (by assumption) (by rw [if_neg (by omega)])), nxT (by rw [mRd_s5, mRd_s3]; exact nx_odd hs (by omega) (by assumption) (by assumption) (by rw [if_neg (by omega)])) hT hk, rfl⟩)
                · refine at_iconst C dX3_nextToken_124 ?_
                  refine at_goto C 129 dX3_nextToken_125 (by decide) ?_
                  refine at_putM (slot := 5) (ty := .int) C tyX3 (obj_Rea G) (ci := 3) rfl inX3 tyX3_ok nmX3 (by decide) qw_157 rfl rfl (by decide +kernel) rfl rfl (Nat.le_of_ble_eq_true rfl) rfl dX3_nextToken_129 ?_
                  have hT53 : TInv (sSt (mRd M q q (M 195 5) (M 195 6)) 195 5 3) := tv_st hTs (k := 195) (j := 5) rfl (⟨by omega, by omega⟩)
                  refine at_aload_n C 0 dX3_nextToken_132 rfl ?_
                  refine at_dup C dX3_nextToken_133 rfl ?_
                  refine at_getf (v := .int (sI ((sSt (mRd M q q (M 195 5) (M 195 6)) 195 5 3) 195 3))) C (obj_Rea G) (ci := 3) rfl inX3 (slot := 3) (by decide) qw_154 rfl rfl dX3_nextToken_134 ?_
                  have hb54 := tv hT53 (k := 195) (j := 3) rfl
                  refine at_ve (b := (q : Int)) (by rw [sSt_nj (by decide)]; exact mRd_3 _ _ _ _ _) ?_
                  refine at_iconst C dX3_nextToken_137 ?_
                  refine at_iadd C dX3_nextToken_138 ?_
                  refine at_putM (slot := 3) (ty := .int) C tyX3 (obj_Rea G) (ci := 3) rfl inX3 tyX3_ok nmX3 (by decide) qw_154 rfl rfl (by decide +kernel) rfl rfl (Nat.le_of_ble_eq_true rfl) rfl dX3_nextToken_139 ?_
                  have hT55 : TInv (sSt (sSt (mRd M q q (M 195 5) (M 195 6)) 195 5 3) 195 3 ((q : Int) + 1)) := tv_st hT53 (k := 195) (j := 3) rfl (⟨by omega, by omega⟩)
                  exact hret _ _ _ _ dX3_nextToken_142 (⟨(by rw [mRd_s5, mRd_s3]; exact nx_odd hs (by omega) (by assumption) (by assumption) (by rw [if_pos (by omega)])), nxT (by rw [mRd_s5, mRd_s3]; exact nx_odd hs (by omega) (by assumption) (by assumption) (by rw [if_pos (by omega)])) hT hk, rfl⟩)
              · refine at_aload_n C 0 dX3_nextToken_102 rfl ?_
                refine at_call_v C (c_X3_takeNumber l D G q (mRd_3 _ _ _ _ _) (mRd_4 _ _ _ _ _) (by rw [mRd_N]; omega) hTs) (As := []) (obj_Rea G) (ci := 3) rfl qw_370 qw_367 qw_5 qw_369 qp_4 ⟨by decide, by decide, show (parseMethodDescriptor yX3_takeNumber.desc).map (fun d => d.parameters.length) = some 0 by decide +kernel⟩ ⟨by decide, by decide⟩ ⟨Nat.zero_le _, Nat.zero_le _⟩ (Nat.le_of_ble_eq_true rfl) dX3_nextToken_103 rfl (fun M' L' hp57 => ?_)
                obtain ⟨rfl, hT56, rfl⟩ := hp57
                refine at_goto C 142 dX3_nextToken_106 (by decide) ?_
                exact hret _ _ _ _ dX3_nextToken_142 (⟨(by rw [mRd_m, mRd_ne (by decide), mRd_N]; exact nx_num hs (by omega) (by assumption) (by assumption)), nxT (by rw [mRd_m, mRd_ne (by decide), mRd_N]; exact nx_num hs (by omega) (by assumption) (by assumption)) hT hk, rfl⟩)
            · refine at_aload_n C 0 dX3_nextToken_80 rfl ?_
              refine at_call_v C (c_X3_takeWord l D G q (mRd_3 _ _ _ _ _) (by rw [mRd_N]; omega) hTs) (As := []) (obj_Rea G) (ci := 3) rfl qw_363 qw_360 qw_5 qw_362 qp_3 ⟨by decide, by decide, show (parseMethodDescriptor yX3_takeWord.desc).map (fun d => d.parameters.length) = some 0 by decide +kernel⟩ ⟨by decide, by decide⟩ ⟨Nat.zero_le _, Nat.zero_le _⟩ (Nat.le_of_ble_eq_true rfl) dX3_nextToken_81 rfl (fun M' L' hp59 => ?_)
              obtain ⟨rfl, hT58, rfl⟩ := hp59
              refine at_goto C 142 dX3_nextToken_84 (by decide) ?_
              exact hret _ _ _ _ dX3_nextToken_142 (⟨(by rw [mRd_m, mRd_ne (by decide), mRd_N, mRd_4, mRd_6]; exact nx_word hs (by omega) (by assumption)), nxT (by rw [mRd_m, mRd_ne (by decide), mRd_N, mRd_4, mRd_6]; exact nx_word hs (by omega) (by assumption)) hT hk, rfl⟩)
          · refine at_aload_n C 0 dX3_nextToken_57 rfl ?_
            refine at_iconst C dX3_nextToken_58 ?_
            refine at_putM (slot := 5) (ty := .int) C tyX3 (obj_Rea G) (ci := 3) rfl inX3 tyX3_ok nmX3 (by decide) qw_157 rfl rfl (by decide +kernel) rfl rfl (Nat.le_of_ble_eq_true rfl) rfl dX3_nextToken_59 ?_
            have hT60 : TInv (sSt (mRd M q q (M 195 5) (M 195 6)) 195 5 0) := tv_st hTs (k := 195) (j := 5) rfl (⟨by omega, by omega⟩)
            refine at_goto C 142 dX3_nextToken_62 (by decide) ?_
            exact hret _ _ _ _ dX3_nextToken_142 (⟨(by rw [mRd_s5]; exact nx_end hs (by omega)), nxT (by rw [mRd_s5]; exact nx_end hs (by omega)) hT hk, rfl⟩)
        · refine at_aload_n C 0 dX3_nextToken_25 rfl ?_
          refine at_dup C dX3_nextToken_26 rfl ?_
          refine at_getf (v := .int (sI ((mRd M q (M 195 4) (M 195 5) (M 195 6)) 195 3))) C (obj_Rea G) (ci := 3) rfl inX3 (slot := 3) (by decide) qw_154 rfl rfl dX3_nextToken_27 ?_
          have hb61 := tv hTq (k := 195) (j := 3) rfl
          refine at_ve (b := (q : Int)) (mRd_3 _ _ _ _ _) ?_
          refine at_iconst C dX3_nextToken_30 ?_
          refine at_iadd C dX3_nextToken_31 ?_
          refine at_putM (slot := 3) (ty := .int) C tyX3 (obj_Rea G) (ci := 3) rfl inX3 tyX3_ok nmX3 (by decide) qw_154 rfl rfl (by decide +kernel) rfl rfl (Nat.le_of_ble_eq_true rfl) rfl dX3_nextToken_32 ?_
          have hT62 : TInv (sSt (mRd M q (M 195 4) (M 195 5) (M 195 6)) 195 3 ((q : Int) + 1)) := tv_st hTq (k := 195) (j := 3) rfl (⟨by omega, by omega⟩)
          refine at_goto C 0 dX3_nextToken_35 (by decide) ?_
          refine at_lv [0] rfl ?_
          exact at_eq (ih0 (q + 1) (by omega) (by omega) (by rw [← hs0, scan_y (p := q) (by omega) (by assumption)])) rfl rfl (by rw [mRd_s3, show ((q : Int) + 1) = ((q + 1 : Nat) : Int) by omega]) (rfl)
  refine at_lv [0] rfl ?_
  exact at_eq (H0 _ (rP M) (Nat.lt_succ_self _) (by omega) (rfl)) rfl rfl (by rw [← hrp]; exact mRd_i M) (rfl)
