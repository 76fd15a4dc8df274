theorem at_lsw {p : Program} {l : Launch} {e : Env} {R : Room} {s : State} {m : MethodId} {args : Array Value} {below : List Frame} {meth : Method} {c : Code} {D : va_G} {G : sG} {nL cs sl : Nat} {Q : State → Prop} {cc : ByteArray} {own : String} {pc : Nat} {lv : List (Nat × Value)} {st : List Value} {M : sM} {L : sL} (C : sCx p s m args c cc own nL D G) {dflt : Int} {ps : Array (Int × Int)} {len : Nat} {a off : Int} (hd : decode cc pc = .ok (.lookupswitch dflt ps, len)) (ha : InR a) (tgt : Nat) (hp : (ps.toList.zip (ps.toList.drop 1)).all (fun (a, next) => a.1 < next.1) = true) (ho : Op.lookupswitch.offset ps.toList dflt a = off) (ht : (pc : Int) + off = (tgt : Int)) (k : sAt p l e R s m args below meth c D G nL cs sl Q tgt lv st M L) : sAt p l e R s m args below meth c D G nL cs sl Q pc lv (.int (sI a) :: st) M L := fun H locs ls hP hS hl =>
  lv_lookup C.1 C.2.1 hd hp (by rw [sI_t ha]; exact ho) ht (k H locs ls hP hS hl)
theorem bAhe_r {M : sM} {o : Nat} (hT : TInv M) (ho : isB o) (s m : Nat) : -1 ≤ bAhe M o s m ∧ bAhe M o s m ≤ 11 := by
  have h := tv_cell hT ho s
  unfold bAhe
  split
  · rename_i h2
    have := driN_r (M (o + 1)) (c := M (o + 6) s) ⟨by unfold adr at h2; omega, by omega⟩ m
    omega
  · omega
theorem cnt_y {p : Nat → Prop} [DecidablePred p] {n : Nat} (h : p n) : cnt p (n + 1) = cnt p n + 1 := by
  show cnt p n + (if p n then 1 else 0) = _
  rw [if_pos h]
theorem cnt_n {p : Nat → Prop} [DecidablePred p] {n : Nat} (h : ¬ p n) : cnt p (n + 1) = cnt p n := by
  show cnt p n + (if p n then 1 else 0) = _
  rw [if_neg h, Int.add_zero]
set_option maxHeartbeats 4000000 in
set_option maxRecDepth 100000 in
theorem c_X6_weighed2 (l : Launch) (D : va_G) (G : sG) {M : sM} {L : sL} (k w d : Int) (hk : 0 ≤ k ∧ k ≤ 5) (hw : 0 ≤ w ∧ w ≤ 99) (hd : 0 ≤ d ∧ d ≤ 99) : sKi l D G yX6_weighed cX6_weighed 5 .int 0 0 [.int (sI (k)), .int (sI (w)), .int (sI (d))] M L (fun r M' L' => r = sI (wgh k w d) ∧ M = M' ∧ L = L') := by
  refine sKi_go (by decide) (Nat.le_of_ble_eq_true rfl) ?_
  intro zp ze zs zm za zb zt zc Q C hret
  refine at_eq (lv' := [(0, .int (sI (k))), (1, .int (sI (w))), (2, .int (sI (d)))]) (st' := []) (M' := M) (L' := L) ?_ rfl rfl rfl rfl
  refine at_iload_n C 1 dX6_weighed_0 rfl ?_
  refine at_iconst C dX6_weighed_1 ?_
  refine at_iadd C dX6_weighed_2 ?_
  refine at_istore_n C [(3, .int (sI (w + 2))), (0, .int (sI (k))), (1, .int (sI (w))), (2, .int (sI (d)))] dX6_weighed_3 (by decide) rfl ?_
  refine at_iload_n C 2 dX6_weighed_4 rfl ?_
  refine at_iconst C dX6_weighed_5 ?_
  refine at_iadd C dX6_weighed_6 ?_
  refine at_iconst C dX6_weighed_7 ?_
  refine at_idiv C dX6_weighed_8 (by omega) (by omega) (by omega) (by omega) ?_
  refine at_istore C [(4, .int (sI ((w + 1) / 2))), (3, .int (sI (w + 2))), (0, .int (sI (k))), (1, .int (sI (w))), (2, .int (sI (d)))] dX6_weighed_9 (by decide) rfl ?_
  refine at_iload_n C 2 dX6_weighed_11 rfl ?_
  by_cases hs1 : k = 1
  · refine at_tsw C dX6_weighed_12 (⟨by omega, by omega⟩) 48 (Or.inr ⟨by omega, by omega, 36, by rw [hs1]; rfl, by decide⟩) ?_
    refine at_iload_n C 1 dX6_weighed_48 rfl ?_
    exact hret _ _ _ _ _ dX6_weighed_49 (⟨congrArg sI (by unfold wgh; repeat' split; all_goals omega), rfl, rfl⟩)
  by_cases hs2 : k = 2
  · refine at_tsw C dX6_weighed_12 (⟨by omega, by omega⟩) 50 (Or.inr ⟨by omega, by omega, 38, by rw [hs2]; rfl, by decide⟩) ?_
    refine at_iload C 0 dX6_weighed_50 rfl ?_
    exact hret _ _ _ _ _ dX6_weighed_52 (⟨congrArg sI (by unfold wgh; repeat' split; all_goals omega), rfl, rfl⟩)
  by_cases hs3 : k = 3
  · refine at_tsw C dX6_weighed_12 (⟨by omega, by omega⟩) 53 (Or.inr ⟨by omega, by omega, 41, by rw [hs3]; rfl, by decide⟩) ?_
    refine at_iload_n C 4 dX6_weighed_53 rfl ?_
    refine at_iconst C dX6_weighed_54 ?_
    refine at_icmp_lt C 64 dX6_weighed_55 (by decide) (⟨by omega, by omega⟩) (⟨by omega, by omega⟩) (fun h4 => ?_) (fun h4 => ?_)
    · refine at_iload_n C 1 dX6_weighed_64 rfl ?_
      exact hret _ _ _ _ _ dX6_weighed_65 (⟨congrArg sI (by unfold wgh; repeat' split; all_goals omega), rfl, rfl⟩)
    · refine at_iconst C dX6_weighed_58 ?_
      refine at_iload_n C 1 dX6_weighed_59 rfl ?_
      refine at_imul C dX6_weighed_60 ?_
      refine at_goto C 65 dX6_weighed_61 (by decide) ?_
      exact hret _ _ _ _ _ dX6_weighed_65 (⟨congrArg sI (by unfold wgh; repeat' split; all_goals omega), rfl, rfl⟩)
  by_cases hs5 : k = 4
  · refine at_tsw C dX6_weighed_12 (⟨by omega, by omega⟩) 66 (Or.inr ⟨by omega, by omega, 54, by rw [hs5]; rfl, by decide⟩) ?_
    refine at_iload_n C 4 dX6_weighed_66 rfl ?_
    refine at_iconst C dX6_weighed_67 ?_
    refine at_icmp_lt C 75 dX6_weighed_68 (by decide) (⟨by omega, by omega⟩) (⟨by omega, by omega⟩) (fun h6 => ?_) (fun h6 => ?_)
    · refine at_iload C 0 dX6_weighed_75 rfl ?_
      exact hret _ _ _ _ _ dX6_weighed_77 (⟨congrArg sI (by unfold wgh; repeat' split; all_goals omega), rfl, rfl⟩)
    · refine at_iconst C dX6_weighed_71 ?_
      refine at_goto C 77 dX6_weighed_72 (by decide) ?_
      exact hret _ _ _ _ _ dX6_weighed_77 (⟨congrArg sI (by unfold wgh; repeat' split; all_goals omega), rfl, rfl⟩)
  by_cases hs7 : k = 5
  · refine at_tsw C dX6_weighed_12 (⟨by omega, by omega⟩) 78 (Or.inr ⟨by omega, by omega, 66, by rw [hs7]; rfl, by decide⟩) ?_
    refine at_iload_n C 4 dX6_weighed_78 rfl ?_
    refine at_iconst C dX6_weighed_79 ?_
    refine at_icmp_lt C 87 dX6_weighed_80 (by decide) (⟨by omega, by omega⟩) (⟨by omega, by omega⟩) (fun h8 => ?_) (fun h8 => ?_)
    · refine at_iload_n C 3 dX6_weighed_87 rfl ?_
      refine at_iconst C dX6_weighed_88 ?_
      refine at_iadd C dX6_weighed_89 ?_
      refine at_iload_n C 4 dX6_weighed_90 rfl ?_
      refine at_isub C dX6_weighed_91 ?_
      exact hret _ _ _ _ _ dX6_weighed_92 (⟨congrArg sI (by unfold wgh; repeat' split; all_goals omega), rfl, rfl⟩)
    · refine at_iload_n C 3 dX6_weighed_83 rfl ?_
      refine at_goto C 92 dX6_weighed_84 (by decide) ?_
      exact hret _ _ _ _ _ dX6_weighed_92 (⟨congrArg sI (by unfold wgh; repeat' split; all_goals omega), rfl, rfl⟩)
  refine at_tsw C dX6_weighed_12 (⟨by omega, by omega⟩) 93 (Or.inl ⟨by omega, by decide⟩) ?_
  refine at_iload_n C 3 dX6_weighed_93 rfl ?_
  exact hret _ _ _ _ _ dX6_weighed_94 (⟨congrArg sI (by unfold wgh; repeat' split; all_goals omega), rfl, rfl⟩)

set_option maxHeartbeats 4000000 in
set_option maxRecDepth 100000 in
theorem c_X6_heaviness2 (l : Launch) (D : va_G) (G : sG) {M : sM} {L : sL} (k x : Int) (hk : 0 ≤ k ∧ k ≤ 5) (hx : 0 ≤ x ∧ x ≤ 99) : sKi l D G yX6_heaviness cX6_heaviness 4 .int 0 0 [.int (sI (k)), .int (sI (x))] M L (fun r M' L' => r = sI (hvy k x) ∧ M = M' ∧ L = L') := by
  refine sKi_go (by decide) (Nat.le_of_ble_eq_true rfl) ?_
  intro zp ze zs zm za zb zt zc Q C hret
  refine at_eq (lv' := [(0, .int (sI (k))), (1, .int (sI (x)))]) (st' := []) (M' := M) (L' := L) ?_ rfl rfl rfl rfl
  refine at_iload_n C 1 dX6_heaviness_0 rfl ?_
  refine at_iload_n C 1 dX6_heaviness_1 rfl ?_
  refine at_iconst C dX6_heaviness_2 ?_
  refine at_irem C dX6_heaviness_3 (by omega) (by omega) (by omega) (by omega) ?_
  refine at_isub C dX6_heaviness_4 ?_
  refine at_istore_n C [(2, .int (sI (x - (x % 2)))), (0, .int (sI (k))), (1, .int (sI (x)))] dX6_heaviness_5 (by decide) rfl ?_
  refine at_iload_n C 2 dX6_heaviness_6 rfl ?_
  refine at_iconst C dX6_heaviness_7 ?_
  refine at_icmp_le C 15 dX6_heaviness_8 (by decide) (⟨by omega, by omega⟩) (⟨by omega, by omega⟩) (fun h1 => ?_) (fun h1 => ?_)
  · refine at_iload_n C 2 dX6_heaviness_15 rfl ?_
    refine at_istore_n C [(3, .int (sI (x))), (2, .int (sI (x - (x % 2)))), (0, .int (sI (k))), (1, .int (sI (x)))] dX6_heaviness_16 (by decide) rfl ?_
    refine at_iload_n C 2 dX6_heaviness_17 rfl ?_
    by_cases hs2 : k = 1
    · refine at_tsw C dX6_heaviness_18 (⟨by omega, by omega⟩) 52 (Or.inr ⟨by omega, by omega, 34, by rw [hs2]; rfl, by decide⟩) ?_
      refine at_iload_n C 1 dX6_heaviness_52 rfl ?_
      exact hret _ _ _ _ _ dX6_heaviness_53 (⟨congrArg sI (by unfold hvy; repeat' split; all_goals omega), rfl, rfl⟩)
    by_cases hs3 : k = 2
    · refine at_tsw C dX6_heaviness_18 (⟨by omega, by omega⟩) 54 (Or.inr ⟨by omega, by omega, 36, by rw [hs3]; rfl, by decide⟩) ?_
      refine at_iload_n C 0 dX6_heaviness_54 rfl ?_
      exact hret _ _ _ _ _ dX6_heaviness_55 (⟨congrArg sI (by unfold hvy; repeat' split; all_goals omega), rfl, rfl⟩)
    by_cases hs4 : k = 3
    · refine at_tsw C dX6_heaviness_18 (⟨by omega, by omega⟩) 56 (Or.inr ⟨by omega, by omega, 38, by rw [hs4]; rfl, by decide⟩) ?_
      refine at_iload_n C 1 dX6_heaviness_56 rfl ?_
      refine at_iconst C dX6_heaviness_57 ?_
      refine at_iadd C dX6_heaviness_58 ?_
      exact hret _ _ _ _ _ dX6_heaviness_59 (⟨congrArg sI (by unfold hvy; repeat' split; all_goals omega), rfl, rfl⟩)
    by_cases hs5 : k = 4
    · refine at_tsw C dX6_heaviness_18 (⟨by omega, by omega⟩) 60 (Or.inr ⟨by omega, by omega, 42, by rw [hs5]; rfl, by decide⟩) ?_
      refine at_iconst C dX6_heaviness_60 ?_
      refine at_iload_n C 3 dX6_heaviness_61 rfl ?_
      refine at_imul C dX6_heaviness_62 ?_
      exact hret _ _ _ _ _ dX6_heaviness_63 (⟨congrArg sI (by unfold hvy; repeat' split; all_goals omega), rfl, rfl⟩)
    by_cases hs6 : k = 5
    · refine at_tsw C dX6_heaviness_18 (⟨by omega, by omega⟩) 64 (Or.inr ⟨by omega, by omega, 46, by rw [hs6]; rfl, by decide⟩) ?_
      refine at_iload_n C 0 dX6_heaviness_64 rfl ?_
      refine at_if_le C 74 dX6_heaviness_65 (by decide) (⟨by omega, by omega⟩) (fun h7 => ?_) (fun h7 => ?_)
      · refine at_iconst C dX6_heaviness_74 ?_
        exact hret _ _ _ _ _ dX6_heaviness_75 (⟨congrArg sI (by unfold hvy; repeat' split; all_goals omega), rfl, rfl⟩)
      · refine at_iload_n C 0 dX6_heaviness_68 rfl ?_
        refine at_iconst C dX6_heaviness_69 ?_
        refine at_isub C dX6_heaviness_70 ?_
        refine at_goto C 75 dX6_heaviness_71 (by decide) ?_
        exact hret _ _ _ _ _ dX6_heaviness_75 (⟨congrArg sI (by unfold hvy; repeat' split; all_goals omega), rfl, rfl⟩)
    refine at_tsw C dX6_heaviness_18 (⟨by omega, by omega⟩) 76 (Or.inl ⟨by omega, by decide⟩) ?_
    refine at_iload_n C 3 dX6_heaviness_76 rfl ?_
    exact hret _ _ _ _ _ dX6_heaviness_77 (⟨congrArg sI (by unfold hvy; repeat' split; all_goals omega), rfl, rfl⟩)
  · refine at_iconst C dX6_heaviness_11 ?_
    refine at_goto C 16 dX6_heaviness_12 (by decide) ?_
    refine at_istore_n C [(3, .int (sI (5))), (2, .int (sI (x - (x % 2)))), (0, .int (sI (k))), (1, .int (sI (x)))] dX6_heaviness_16 (by decide) rfl ?_
    refine at_iload_n C 2 dX6_heaviness_17 rfl ?_
    by_cases hs8 : k = 1
    · refine at_tsw C dX6_heaviness_18 (⟨by omega, by omega⟩) 52 (Or.inr ⟨by omega, by omega, 34, by rw [hs8]; rfl, by decide⟩) ?_
      refine at_iload_n C 1 dX6_heaviness_52 rfl ?_
      exact hret _ _ _ _ _ dX6_heaviness_53 (⟨congrArg sI (by unfold hvy; repeat' split; all_goals omega), rfl, rfl⟩)
    by_cases hs9 : k = 2
    · refine at_tsw C dX6_heaviness_18 (⟨by omega, by omega⟩) 54 (Or.inr ⟨by omega, by omega, 36, by rw [hs9]; rfl, by decide⟩) ?_
      refine at_iload_n C 0 dX6_heaviness_54 rfl ?_
      exact hret _ _ _ _ _ dX6_heaviness_55 (⟨congrArg sI (by unfold hvy; repeat' split; all_goals omega), rfl, rfl⟩)
    by_cases hs10 : k = 3
    · refine at_tsw C dX6_heaviness_18 (⟨by omega, by omega⟩) 56 (Or.inr ⟨by omega, by omega, 38, by rw [hs10]; rfl, by decide⟩) ?_
      refine at_iload_n C 1 dX6_heaviness_56 rfl ?_
      refine at_iconst C dX6_heaviness_57 ?_
      refine at_iadd C dX6_heaviness_58 ?_
      exact hret _ _ _ _ _ dX6_heaviness_59 (⟨congrArg sI (by unfold hvy; repeat' split; all_goals omega), rfl, rfl⟩)
    by_cases hs11 : k = 4
    · refine at_tsw C dX6_heaviness_18 (⟨by omega, by omega⟩) 60 (Or.inr ⟨by omega, by omega, 42, by rw [hs11]; rfl, by decide⟩) ?_
      refine at_iconst C dX6_heaviness_60 ?_
      refine at_iload_n C 3 dX6_heaviness_61 rfl ?_
      refine at_imul C dX6_heaviness_62 ?_
      exact hret _ _ _ _ _ dX6_heaviness_63 (⟨congrArg sI (by unfold hvy; repeat' split; all_goals omega), rfl, rfl⟩)
    by_cases hs12 : k = 5
    · refine at_tsw C dX6_heaviness_18 (⟨by omega, by omega⟩) 64 (Or.inr ⟨by omega, by omega, 46, by rw [hs12]; rfl, by decide⟩) ?_
      refine at_iload_n C 0 dX6_heaviness_64 rfl ?_
      refine at_if_le C 74 dX6_heaviness_65 (by decide) (⟨by omega, by omega⟩) (fun h13 => absurd h13 (by omega)) (fun h13 => ?_)
      refine at_iload_n C 0 dX6_heaviness_68 rfl ?_
      refine at_iconst C dX6_heaviness_69 ?_
      refine at_isub C dX6_heaviness_70 ?_
      refine at_goto C 75 dX6_heaviness_71 (by decide) ?_
      exact hret _ _ _ _ _ dX6_heaviness_75 (⟨congrArg sI (by unfold hvy; repeat' split; all_goals omega), rfl, rfl⟩)
    refine at_tsw C dX6_heaviness_18 (⟨by omega, by omega⟩) 76 (Or.inl ⟨by omega, by decide⟩) ?_
    refine at_iload_n C 3 dX6_heaviness_76 rfl ?_
    exact hret _ _ _ _ _ dX6_heaviness_77 (⟨congrArg sI (by unfold hvy; repeat' split; all_goals omega), rfl, rfl⟩)

set_option maxHeartbeats 4000000 in
set_option maxRecDepth 100000 in
theorem c_X6_comes (l : Launch) (D : va_G) (G : sG) {M : sM} {L : sL} (c m : Int) (hcr : InR c) (hmr : InR m) (hT : TInv M) (hc : sCt M) : sKi l D G yX6_comes cX6_comes 5 .int 2 45 [.ref (G.1 (0)), .int (sI (c)), .int (sI (m))] M L (fun r M' L' => r = sI (rComes M c m) ∧ M' = mB M ((0 ≤ c ∧ c ≤ 11) ∧ (0 ≤ m ∧ m ≤ 60)) ∧ TInv M' ∧ L = L') := by
  refine sKi_go (by decide) (Nat.le_of_ble_eq_true rfl) ?_
  intro zp ze zs zm za zb zt zc Q C hret
  refine at_eq (lv' := [(0, .ref (G.1 (0))), (1, .int (sI (c))), (2, .int (sI (m)))]) (st' := []) (M' := M) (L' := L) ?_ rfl rfl rfl rfl
  refine at_iload_n C 1 dX6_comes_0 rfl ?_
  refine at_iconst C dX6_comes_1 ?_
  refine at_bipush C dX6_comes_2 (by decide) (by decide) ?_
  refine at_stat_i C (c_X6_within l D G c 0 11 ⟨by omega, by omega⟩ ⟨by omega, by omega⟩ ⟨by omega, by omega⟩) (As := [.int (sI (c)), .int (sI (0)), .int (sI (11))]) qw_307 qw_305 qw_1 qw_306 ⟨by decide, by decide, show (parseMethodDescriptor yX6_within.desc).map (fun d => d.parameters.length) = some 3 by decide +kernel⟩ ⟨by decide, by decide⟩ ⟨Nat.zero_le _, Nat.zero_le _⟩ (Nat.le_of_ble_eq_true rfl) dX6_comes_4 rfl (fun r M' L' hp1 => ?_)
  obtain ⟨rfl, rfl, rfl⟩ := hp1
  refine at_if_eqB C 20 dX6_comes_7 (by decide) (fun h2 => ?_) (fun h2 => ?_)
  · refine at_aload_n C 0 dX6_comes_20 rfl ?_
    refine at_bipush C dX6_comes_21 (by decide) (by decide) ?_
    refine at_call_i C (c_X6_refuseBad l D G (-2) hT ⟨by omega, by omega, by omega⟩) (As := [.int (sI (-2))]) (obj_Sho G) (ci := 6) rfl qw_311 qw_308 qw_1 qw_310 qp_0 ⟨by decide, by decide, show (parseMethodDescriptor yX6_refuseBad.desc).map (fun d => d.parameters.length) = some 1 by decide +kernel⟩ ⟨by decide, by decide⟩ ⟨Nat.zero_le _, Nat.zero_le _⟩ (Nat.le_of_ble_eq_true rfl) dX6_comes_23 rfl (fun r M' L' hp4 => ?_)
    obtain ⟨rfl, rfl, hT3, rfl⟩ := hp4
    exact hret _ _ _ _ _ dX6_comes_26 (⟨congrArg sI (if_neg (by first | omega | (simp only [Int.toNat_natCast]; omega))).symm, (if_neg (by omega)).symm, hT3, rfl⟩)
  · refine at_iload_n C 2 dX6_comes_10 rfl ?_
    refine at_iconst C dX6_comes_11 ?_
    refine at_bipush C dX6_comes_12 (by decide) (by decide) ?_
    refine at_stat_i C (c_X6_within l D G m 0 60 ⟨by omega, by omega⟩ ⟨by omega, by omega⟩ ⟨by omega, by omega⟩) (As := [.int (sI (m)), .int (sI (0)), .int (sI (60))]) qw_307 qw_305 qw_1 qw_306 ⟨by decide, by decide, show (parseMethodDescriptor yX6_within.desc).map (fun d => d.parameters.length) = some 3 by decide +kernel⟩ ⟨by decide, by decide⟩ ⟨Nat.zero_le _, Nat.zero_le _⟩ (Nat.le_of_ble_eq_true rfl) dX6_comes_14 rfl (fun r M' L' hp5 => ?_)
    obtain ⟨rfl, rfl, rfl⟩ := hp5
    refine at_if_neB C 27 dX6_comes_17 (by decide) (fun h6 => ?_) (fun h6 => ?_)
    · obtain ⟨q, rfl⟩ : ∃ q : Nat, m = (q : Int) := ⟨m.toNat, by omega⟩
      have hcc := tv_callers hT (Or.inl rfl)
      have hss := tv_souls hT (Or.inl rfl)
      refine at_iconst C dX6_comes_27 ?_
      refine at_istore_n C [(3, .int (sI (0))), (0, .ref (G.1 (0))), (1, .int (sI (c))), (2, .int (sI ((q : Int))))] dX6_comes_28 (by decide) rfl ?_
      refine at_iconst C dX6_comes_29 ?_
      refine at_istore C [(4, .int (sI (0))), (3, .int (sI (0))), (0, .ref (G.1 (0))), (1, .int (sI (c))), (2, .int (sI ((q : Int))))] dX6_comes_30 (by decide) rfl ?_
      have H32 : ∀ (fu : Nat) (k : Nat), 12 - k < fu → (k ≤ 12) → sAt zp l ze (sRm 2 45) zs zm za zb zt zc D G 5 0 0 Q 32 [(0, .ref (G.1 (0))), (1, .int (sI (c))), (2, .int (sI ((q : Int)))), (3, .int (sI ((((bits (fun a => driN (M 2) q (a : Int) = c) k) : Nat) : Int)))), (4, .int (sI ((k : Int))))] [] M L := by
        intro fu
        induction fu with
        | zero => intro k hd hk; exact absurd hd (Nat.not_lt_zero _)
        | succ fu ih32 =>
          intro k hd32 hk
          refine at_iload C 4 dX6_comes_32 rfl ?_
          refine at_bipush C dX6_comes_34 (by decide) (by decide) ?_
          refine at_icmp_ge C 66 dX6_comes_36 (by decide) (⟨by omega, by omega⟩) (⟨by omega, by omega⟩) (fun h7 => ?_) (fun h7 => ?_)
          · refine at_iload_n C 3 dX6_comes_66 rfl ?_
            exact hret _ _ _ _ _ dX6_comes_67 (⟨congrArg sI ((if_pos (by omega)).trans (by rw [show k = 12 by omega]; rfl)).symm, (if_pos (by omega)).symm, hT, rfl⟩)
          · refine at_aload_n C 0 dX6_comes_39 rfl ?_
            refine at_getf (v := .ref (G.1 (1))) C (obj_Sho G) (ci := 6) rfl inX6 (slot := 0) (by decide) qw_249 rfl rfl dX6_comes_40 ?_
            refine at_iload C 4 dX6_comes_43 rfl ?_
            refine at_iload_n C 2 dX6_comes_45 rfl ?_
            refine at_call_i C (c_X0_drifted l D G (Or.inl rfl) hT (k : Int) q ⟨by omega, by omega⟩ (by omega)) (As := [.int (sI ((k : Int))), .int (sI ((q : Int)))]) (obj_Bea G (Or.inl rfl)) (ci := 0) rfl qw_485 qw_633 qw_2 qw_483 qw_484 ⟨by decide, by decide, show (parseMethodDescriptor yX0_drifted.desc).map (fun d => d.parameters.length) = some 2 by decide +kernel⟩ ⟨by decide, by decide⟩ ⟨Nat.zero_le _, Nat.zero_le _⟩ (Nat.le_of_ble_eq_true rfl) dX6_comes_46 rfl (fun r M' L' hp9 => ?_)
            obtain ⟨rfl, rfl, rfl⟩ := hp9
            refine at_ve (b := driN (M 2) q (k : Int)) rfl ?_
            have hb8 := driN_r (M 2) (c := (k : Int)) ⟨by omega, by omega⟩ q
            refine at_iload_n C 1 dX6_comes_49 rfl ?_
            refine at_icmp_ne C 60 dX6_comes_50 (by decide) (⟨by omega, by omega⟩) (⟨by omega, by omega⟩) (fun h10 => ?_) (fun h10 => ?_)
            · refine at_iinc C 4 [(4, .int (sI ((k : Int) + 1))), (0, .ref (G.1 (0))), (1, .int (sI (c))), (2, .int (sI ((q : Int)))), (3, .int (sI ((((bits (fun a => driN (M 2) q (a : Int) = c) k) : Nat) : Int))))] dX6_comes_60 rfl (by decide) rfl ?_
              refine at_goto C 32 dX6_comes_63 (by decide) ?_
              refine at_lv [1, 2, 3, 4, 0] rfl ?_
              exact at_eq (ih32 (k + 1) (by omega) (by omega)) (lvc_s (lvc_s (lvc_s (lvc_i (by rw [bits_n (by assumption)]) (lvc_i (by omega) rfl))))) rfl (rfl) (rfl)
            · refine at_iload_n C 3 dX6_comes_53 rfl ?_
              refine at_iconst C dX6_comes_54 ?_
              refine at_iload C 4 dX6_comes_55 rfl ?_
              refine at_ishl C ((((2 ^ k) : Nat) : Int)) dX6_comes_57 (zb_shl (by omega)) ?_
              refine at_ior C ((((bits (fun a => driN (M 2) q (a : Int) = c) k ||| 2 ^ k) : Nat) : Int)) dX6_comes_58 (zb_or _ _) ?_
              refine at_istore_n C [(3, .int (sI ((((bits (fun a => driN (M 2) q (a : Int) = c) k ||| 2 ^ k) : Nat) : Int)))), (0, .ref (G.1 (0))), (1, .int (sI (c))), (2, .int (sI ((q : Int)))), (4, .int (sI ((k : Int))))] dX6_comes_59 (by decide) rfl ?_
              refine at_iinc C 4 [(4, .int (sI ((k : Int) + 1))), (3, .int (sI ((((bits (fun a => driN (M 2) q (a : Int) = c) k ||| 2 ^ k) : Nat) : Int)))), (0, .ref (G.1 (0))), (1, .int (sI (c))), (2, .int (sI ((q : Int))))] dX6_comes_60 rfl (by decide) rfl ?_
              refine at_goto C 32 dX6_comes_63 (by decide) ?_
              refine at_lv [2, 3, 4, 1, 0] rfl ?_
              exact at_eq (ih32 (k + 1) (by omega) (by omega)) (lvc_s (lvc_s (lvc_s (lvc_i (by rw [bits_y (by assumption)]) (lvc_i (by omega) rfl))))) rfl (rfl) (rfl)
      refine at_lv [2, 3, 4, 1, 0] rfl ?_
      exact at_eq (H32 _ 0 (Nat.lt_succ_self _) (by omega)) (lvc_s (lvc_s (lvc_s (lvc_i (rfl) (lvc_i (rfl) rfl))))) rfl (rfl) (rfl)
    · refine at_aload_n C 0 dX6_comes_20 rfl ?_
      refine at_bipush C dX6_comes_21 (by decide) (by decide) ?_
      refine at_call_i C (c_X6_refuseBad l D G (-2) hT ⟨by omega, by omega, by omega⟩) (As := [.int (sI (-2))]) (obj_Sho G) (ci := 6) rfl qw_311 qw_308 qw_1 qw_310 qp_0 ⟨by decide, by decide, show (parseMethodDescriptor yX6_refuseBad.desc).map (fun d => d.parameters.length) = some 1 by decide +kernel⟩ ⟨by decide, by decide⟩ ⟨Nat.zero_le _, Nat.zero_le _⟩ (Nat.le_of_ble_eq_true rfl) dX6_comes_23 rfl (fun r M' L' hp12 => ?_)
      obtain ⟨rfl, rfl, hT11, rfl⟩ := hp12
      exact hret _ _ _ _ _ dX6_comes_26 (⟨congrArg sI (if_neg (by first | omega | (simp only [Int.toNat_natCast]; omega))).symm, (if_neg (by omega)).symm, hT11, rfl⟩)

set_option maxHeartbeats 4000000 in
set_option maxRecDepth 100000 in
theorem c_X6_soulsSeen (l : Launch) (D : va_G) (G : sG) {M : sM} {L : sL} (hT : TInv M) : sKi l D G yX6_soulsSeen cX6_soulsSeen 5 .int 3 67 [.ref (G.1 (0))] M L (fun r M' L' => r = sI ((seenB M : Int)) ∧ M = M' ∧ L = L') := by
  refine sKi_go (by decide) (Nat.le_of_ble_eq_true rfl) ?_
  intro zp ze zs zm za zb zt zc Q C hret
  refine at_eq (lv' := [(0, .ref (G.1 (0)))]) (st' := []) (M' := M) (L' := L) ?_ rfl rfl rfl rfl
  have hn := nS_r hT (Or.inl rfl)
  have hz : _ ≤ M 11 3 ∧ M 11 3 ≤ _ := tv hT (k := 11) (j := 3) (lo := 0) (hi := 5) rfl
  refine at_iconst C dX6_soulsSeen_0 ?_
  refine at_istore_n C [(1, .int (sI (0))), (0, .ref (G.1 (0)))] dX6_soulsSeen_1 (by decide) rfl ?_
  refine at_iconst C dX6_soulsSeen_2 ?_
  refine at_istore_n C [(2, .int (sI (0))), (1, .int (sI (0))), (0, .ref (G.1 (0)))] dX6_soulsSeen_3 (by decide) rfl ?_
  have H4 : ∀ (fu : Nat) (k : Nat), nS M 1 - k < fu → (k ≤ nS M 1) → sAt zp l ze (sRm 3 67) zs zm za zb zt zc D G 5 0 0 Q 4 [(0, .ref (G.1 (0))), (1, .int (sI ((((bits (fun s => seenP M s (M 11 3).toNat) k) : Nat) : Int)))), (2, .int (sI ((k : Int))))] [] M L := by
    intro fu
    induction fu with
    | zero => intro k hd hk; exact absurd hd (Nat.not_lt_zero _)
    | succ fu ih4 =>
      intro k hd4 hk
      refine at_iload_n C 2 dX6_soulsSeen_4 rfl ?_
      refine at_aload_n C 0 dX6_soulsSeen_5 rfl ?_
      refine at_getf (v := .ref (G.1 (1))) C (obj_Sho G) (ci := 6) rfl inX6 (slot := 0) (by decide) qw_249 rfl rfl dX6_soulsSeen_6 ?_
      refine at_getf (v := .int (sI (M 1 9))) C (obj_Bea G (Or.inl rfl)) (ci := 0) rfl inX0 (slot := 9) (by decide) qw_104 rfl rfl dX6_soulsSeen_9 ?_
      have hb1 : _ ≤ M 1 9 ∧ M 1 9 ≤ _ := tv_souls hT (Or.inl rfl)
      refine at_icmp_ge C 111 dX6_soulsSeen_12 (by decide) (⟨by omega, by omega⟩) (⟨by omega, by omega⟩) (fun h2 => ?_) (fun h2 => ?_)
      · refine at_iload_n C 1 dX6_soulsSeen_111 rfl ?_
        exact hret _ _ _ _ _ dX6_soulsSeen_112 (⟨congrArg sI (by unfold seenB; rw [show nS M 1 = k by omega]), rfl, rfl⟩)
      · refine at_aload_n C 0 dX6_soulsSeen_15 rfl ?_
        refine at_getf (v := .ref (G.1 (1))) C (obj_Sho G) (ci := 6) rfl inX6 (slot := 0) (by decide) qw_249 rfl rfl dX6_soulsSeen_16 ?_
        refine at_iload_n C 2 dX6_soulsSeen_19 rfl ?_
        refine at_call_i C (c_X0_adrift l D G (Or.inl rfl) hT k (by omega)) (As := [.int (sI ((k : Int)))]) (obj_Bea G (Or.inl rfl)) (ci := 0) rfl qw_481 qw_739 qw_2 qw_479 qw_480 ⟨by decide, by decide, show (parseMethodDescriptor yX0_adrift.desc).map (fun d => d.parameters.length) = some 1 by decide +kernel⟩ ⟨by decide, by decide⟩ ⟨Nat.zero_le _, Nat.zero_le _⟩ (Nat.le_of_ble_eq_true rfl) dX6_soulsSeen_20 rfl (fun r M' L' hp3 => ?_)
        obtain ⟨rfl, rfl, rfl⟩ := hp3
        refine at_vi (y := sB (adr M 1 k)) rfl ?_
        refine at_istore_n C [(3, .int (sB (adr M 1 k))), (0, .ref (G.1 (0))), (1, .int (sI ((((bits (fun s => seenP M s (M 11 3).toNat) k) : Nat) : Int)))), (2, .int (sI ((k : Int))))] dX6_soulsSeen_23 (by decide) rfl ?_
        refine at_iconst C dX6_soulsSeen_24 ?_
        refine at_istore C [(4, .int (sI (0))), (3, .int (sB (adr M 1 k))), (0, .ref (G.1 (0))), (1, .int (sI ((((bits (fun s => seenP M s (M 11 3).toNat) k) : Nat) : Int)))), (2, .int (sI ((k : Int))))] dX6_soulsSeen_25 (by decide) rfl ?_
        have H27 : ∀ (fu : Nat) (j : Nat), (M 11 3).toNat - j < fu → (j ≤ (M 11 3).toNat) → sAt zp l ze (sRm 3 67) zs zm za zb zt zc D G 5 0 0 Q 27 [(0, .ref (G.1 (0))), (1, .int (sI ((((bits (fun s => seenP M s (M 11 3).toNat) k) : Nat) : Int)))), (2, .int (sI ((k : Int)))), (3, .int (sB (seenP M k j))), (4, .int (sI ((j : Int))))] [] M L := by
          intro fu
          induction fu with
          | zero => intro j hd hj; exact absurd hd (Nat.not_lt_zero _)
          | succ fu ih27 =>
            intro j hd27 hj
            refine at_iload C 4 dX6_soulsSeen_27 rfl ?_
            refine at_aload_n C 0 dX6_soulsSeen_29 rfl ?_
            refine at_getf (v := .ref (G.1 (1))) C (obj_Sho G) (ci := 6) rfl inX6 (slot := 0) (by decide) qw_249 rfl rfl dX6_soulsSeen_30 ?_
            refine at_getf (v := .ref (G.1 (11))) C (obj_Bea G (Or.inl rfl)) (ci := 0) rfl inX0 (slot := 6) (by decide) qw_99 rfl rfl dX6_soulsSeen_33 ?_
            refine at_getf (v := .int (sI (M 11 3))) C ((isTa_sig G (Or.inl rfl)).1) (ci := 4) rfl inX4 (slot := 3) (by decide) qw_75 rfl rfl dX6_soulsSeen_36 ?_
            have hb4 : _ ≤ M 11 3 ∧ M 11 3 ≤ _ := tv hT (k := 11) (j := 3) (lo := 0) (hi := 5) (by first | rfl | (rw [rg_B (Or.inl rfl) (by omega)]; rfl))
            refine at_icmp_ge C 95 dX6_soulsSeen_39 (by decide) (⟨by omega, by omega⟩) (⟨by omega, by omega⟩) (fun h5 => ?_) (fun h5 => ?_)
            · refine at_iload_n C 3 dX6_soulsSeen_95 rfl ?_
              refine at_if_eqB C 105 dX6_soulsSeen_96 (by decide) (fun h6 => ?_) (fun h6 => ?_)
              · refine at_iinc C 2 [(2, .int (sI ((k : Int) + 1))), (0, .ref (G.1 (0))), (1, .int (sI ((((bits (fun s => seenP M s (M 11 3).toNat) k) : Nat) : Int)))), (3, .int (sB (seenP M k j))), (4, .int (sI ((j : Int))))] dX6_soulsSeen_105 rfl (by decide) rfl ?_
                refine at_goto C 4 dX6_soulsSeen_108 (by decide) ?_
                refine at_lv [1, 2, 0] rfl ?_
                exact at_eq (ih4 (k + 1) (by omega) (by omega)) (lvc_s (lvc_i (by rw [bits_n (p := fun s => seenP M s (M 11 3).toNat) (n := k) (fun z : seenP M k (M 11 3).toNat => absurd (seen_m (k := j) (by omega) z) (by assumption))]) (lvc_i (by omega) rfl))) rfl (rfl) (rfl)
              · refine at_iload_n C 1 dX6_soulsSeen_99 rfl ?_
                refine at_iconst C dX6_soulsSeen_100 ?_
                refine at_iload_n C 2 dX6_soulsSeen_101 rfl ?_
                refine at_ishl C ((((2 ^ k) : Nat) : Int)) dX6_soulsSeen_102 (zb_shl (by omega)) ?_
                refine at_ior C ((((bits (fun s => seenP M s (M 11 3).toNat) k ||| 2 ^ k) : Nat) : Int)) dX6_soulsSeen_103 (zb_or _ _) ?_
                refine at_istore_n C [(1, .int (sI ((((bits (fun s => seenP M s (M 11 3).toNat) k ||| 2 ^ k) : Nat) : Int)))), (0, .ref (G.1 (0))), (2, .int (sI ((k : Int)))), (3, .int (sB (seenP M k j))), (4, .int (sI ((j : Int))))] dX6_soulsSeen_104 (by decide) rfl ?_
                refine at_iinc C 2 [(2, .int (sI ((k : Int) + 1))), (1, .int (sI ((((bits (fun s => seenP M s (M 11 3).toNat) k ||| 2 ^ k) : Nat) : Int)))), (0, .ref (G.1 (0))), (3, .int (sB (seenP M k j))), (4, .int (sI ((j : Int))))] dX6_soulsSeen_105 rfl (by decide) rfl ?_
                refine at_goto C 4 dX6_soulsSeen_108 (by decide) ?_
                refine at_lv [2, 1, 0] rfl ?_
                exact at_eq (ih4 (k + 1) (by omega) (by omega)) (lvc_s (lvc_i (by rw [bits_y (p := fun s => seenP M s (M 11 3).toNat) (n := k) (show seenP M k (M 11 3).toNat from seen_m (n := j) (by omega) (by assumption))]) (lvc_i (by omega) rfl))) rfl (rfl) (rfl)
            · refine at_iload_n C 3 dX6_soulsSeen_42 rfl ?_
              refine at_if_eqB C 95 dX6_soulsSeen_43 (by decide) (fun h7 => ?_) (fun h7 => ?_)
              · refine at_iload_n C 3 dX6_soulsSeen_95 rfl ?_
                refine at_if_eqB C 105 dX6_soulsSeen_96 (by decide) (fun h8 => ?_) (fun h8 => absurd h8 (by assumption))
                refine at_iinc C 2 [(2, .int (sI ((k : Int) + 1))), (0, .ref (G.1 (0))), (1, .int (sI ((((bits (fun s => seenP M s (M 11 3).toNat) k) : Nat) : Int)))), (3, .int (sB (seenP M k j))), (4, .int (sI ((j : Int))))] dX6_soulsSeen_105 rfl (by decide) rfl ?_
                refine at_goto C 4 dX6_soulsSeen_108 (by decide) ?_
                refine at_lv [1, 2, 0] rfl ?_
                exact at_eq (ih4 (k + 1) (by omega) (by omega)) (lvc_s (lvc_i (by rw [bits_n (p := fun s => seenP M s (M 11 3).toNat) (n := k) (fun z : seenP M k (M 11 3).toNat => absurd (seen_m (k := j) (by omega) z) (by assumption))]) (lvc_i (by omega) rfl))) rfl (rfl) (rfl)
              · refine at_aload_n C 0 dX6_soulsSeen_46 rfl ?_
                refine at_getf (v := .ref (G.1 (1))) C (obj_Sho G) (ci := 6) rfl inX6 (slot := 0) (by decide) qw_249 rfl rfl dX6_soulsSeen_47 ?_
                refine at_iload_n C 2 dX6_soulsSeen_50 rfl ?_
                refine at_aload_n C 0 dX6_soulsSeen_51 rfl ?_
                refine at_getf (v := .ref (G.1 (1))) C (obj_Sho G) (ci := 6) rfl inX6 (slot := 0) (by decide) qw_249 rfl rfl dX6_soulsSeen_52 ?_
                refine at_getf (v := .ref (G.1 (11))) C (obj_Bea G (Or.inl rfl)) (ci := 0) rfl inX0 (slot := 6) (by decide) qw_99 rfl rfl dX6_soulsSeen_55 ?_
                refine at_iload C 4 dX6_soulsSeen_58 rfl ?_
                refine at_iconst C dX6_soulsSeen_60 ?_
                refine at_call_i C (c_X4_get_sgn l D G (Or.inl rfl) hT j 0 (by omega) (by omega)) (As := [.int (sI ((j : Int))), .int (sI (0))]) ((isTa_sig G (Or.inl rfl)).1) (ci := 4) rfl qw_743 qw_740 qw_4 qw_741 qw_742 ⟨by decide, by decide, show (parseMethodDescriptor yX4_get.desc).map (fun d => d.parameters.length) = some 2 by decide +kernel⟩ ⟨by decide, by decide⟩ ⟨Nat.zero_le _, Nat.zero_le _⟩ (Nat.le_of_ble_eq_true rfl) dX6_soulsSeen_61 rfl (fun r M' L' hp10 => ?_)
                obtain ⟨rfl, rfl, rfl⟩ := hp10
                refine at_ve (b := M 12 (j * 2 + 0)) rfl ?_
                have hb9 := tv_sgn hT (Or.inl rfl) (j * 2 + 0)
                refine at_ve (b := (((M 12 (j * 2 + 0)).toNat : Nat) : Int)) (by have h1 : _ ≤ M 12 (j * 2 + 0) ∧ M 12 (j * 2 + 0) ≤ _ := tv_sgn hT (Or.inl rfl) (j * 2 + 0); omega) ?_
                have hsr : _ ≤ M 12 (j * 2 + 0) ∧ M 12 (j * 2 + 0) ≤ _ := tv_sgn hT (Or.inl rfl) (j * 2 + 0)
                have hs60 := tv_sgn hT (Or.inl rfl) (j * 2 + 0)
                refine at_call_i C (c_X0_cellAhead l D G (Or.inl rfl) hT k ((M 12 (j * 2 + 0)).toNat) (by omega) (by omega)) (As := [.int (sI ((k : Int))), .int (sI ((((M 12 (j * 2 + 0)).toNat : Nat) : Int)))]) (obj_Bea G (Or.inl rfl)) (ci := 0) rfl qw_628 qw_625 qw_2 qw_626 qw_627 ⟨by decide, by decide, show (parseMethodDescriptor yX0_cellAhead.desc).map (fun d => d.parameters.length) = some 2 by decide +kernel⟩ ⟨by decide, by decide⟩ ⟨Nat.zero_le _, Nat.zero_le _⟩ (Nat.le_of_ble_eq_true rfl) dX6_soulsSeen_64 rfl (fun r M' L' hp11 => ?_)
                obtain ⟨rfl, rfl, rfl⟩ := hp11
                refine at_ve (b := bAhe M 1 k ((M 12 (j * 2 + 0)).toNat)) rfl ?_
                have hah : _ ≤ bAhe M 1 k (M 12 (j * 2 + 0)).toNat ∧ _ := bAhe_r hT (Or.inl rfl) k (M 12 (j * 2 + 0)).toNat
                refine at_aload_n C 0 dX6_soulsSeen_67 rfl ?_
                refine at_getf (v := .ref (G.1 (1))) C (obj_Sho G) (ci := 6) rfl inX6 (slot := 0) (by decide) qw_249 rfl rfl dX6_soulsSeen_68 ?_
                refine at_getf (v := .ref (G.1 (11))) C (obj_Bea G (Or.inl rfl)) (ci := 0) rfl inX0 (slot := 6) (by decide) qw_99 rfl rfl dX6_soulsSeen_71 ?_
                refine at_iload C 4 dX6_soulsSeen_74 rfl ?_
                refine at_iconst C dX6_soulsSeen_76 ?_
                refine at_call_i C (c_X4_get_sgn l D G (Or.inl rfl) hT j 1 (by omega) (by omega)) (As := [.int (sI ((j : Int))), .int (sI (1))]) ((isTa_sig G (Or.inl rfl)).1) (ci := 4) rfl qw_743 qw_740 qw_4 qw_741 qw_742 ⟨by decide, by decide, show (parseMethodDescriptor yX4_get.desc).map (fun d => d.parameters.length) = some 2 by decide +kernel⟩ ⟨by decide, by decide⟩ ⟨Nat.zero_le _, Nat.zero_le _⟩ (Nat.le_of_ble_eq_true rfl) dX6_soulsSeen_77 rfl (fun r M' L' hp13 => ?_)
                obtain ⟨rfl, rfl, rfl⟩ := hp13
                refine at_ve (b := M 12 (j * 2 + 1)) rfl ?_
                have hb12 := tv_sgn hT (Or.inl rfl) (j * 2 + 1)
                have hsq : _ ≤ M 12 (j * 2 + 1) ∧ M 12 (j * 2 + 1) ≤ _ := tv_sgn hT (Or.inl rfl) (j * 2 + 1)
                refine at_icmp_ne C 87 dX6_soulsSeen_80 (by decide) (⟨by omega, by omega⟩) (⟨by omega, by omega⟩) (fun h14 => ?_) (fun h14 => ?_)
                · refine at_iconst C dX6_soulsSeen_87 ?_
                  refine at_vi (y := (sB (1 = 0))) (sB_f (by decide)) ?_
                  refine at_istore_n C [(3, .int (sB (1 = 0))), (0, .ref (G.1 (0))), (1, .int (sI ((((bits (fun s => seenP M s (M 11 3).toNat) k) : Nat) : Int)))), (2, .int (sI ((k : Int)))), (4, .int (sI ((j : Int))))] dX6_soulsSeen_88 (by decide) rfl ?_
                  refine at_iinc C 4 [(4, .int (sI ((j : Int) + 1))), (3, .int (sB (1 = 0))), (0, .ref (G.1 (0))), (1, .int (sI ((((bits (fun s => seenP M s (M 11 3).toNat) k) : Nat) : Int)))), (2, .int (sI ((k : Int))))] dX6_soulsSeen_89 rfl (by decide) rfl ?_
                  refine at_goto C 27 dX6_soulsSeen_92 (by decide) ?_
                  refine at_lv [2, 3, 4, 1, 0] rfl ?_
                  exact at_eq (ih27 (j + 1) (by omega) (by omega)) (lvc_s (lvc_s (lvc_s (lvc_b (⟨fun z => absurd z (by decide), fun z => absurd (z.2 j (by omega)) (by assumption)⟩) (lvc_i (by omega) rfl))))) rfl (rfl) (rfl)
                · refine at_iconst C dX6_soulsSeen_83 ?_
                  refine at_goto C 88 dX6_soulsSeen_84 (by decide) ?_
                  refine at_vi (y := (sB (1 = 1))) (sB_t rfl) ?_
                  refine at_istore_n C [(3, .int (sB (1 = 1))), (0, .ref (G.1 (0))), (1, .int (sI ((((bits (fun s => seenP M s (M 11 3).toNat) k) : Nat) : Int)))), (2, .int (sI ((k : Int)))), (4, .int (sI ((j : Int))))] dX6_soulsSeen_88 (by decide) rfl ?_
                  refine at_iinc C 4 [(4, .int (sI ((j : Int) + 1))), (3, .int (sB (1 = 1))), (0, .ref (G.1 (0))), (1, .int (sI ((((bits (fun s => seenP M s (M 11 3).toNat) k) : Nat) : Int)))), (2, .int (sI ((k : Int))))] dX6_soulsSeen_89 rfl (by decide) rfl ?_
                  refine at_goto C 27 dX6_soulsSeen_92 (by decide) ?_
                  refine at_lv [2, 3, 4, 1, 0] rfl ?_
                  exact at_eq (ih27 (j + 1) (by omega) (by omega)) (lvc_s (lvc_s (lvc_s (lvc_b (⟨fun _ => seen_s (by assumption) (by assumption), fun _ => rfl⟩) (lvc_i (by omega) rfl))))) rfl (rfl) (rfl)
        refine at_lv [2, 3, 4, 1, 0] rfl ?_
        exact at_eq (H27 _ 0 (Nat.lt_succ_self _) (by omega)) (lvc_s (lvc_s (lvc_s (lvc_b (⟨fun z => ⟨z, fun r hr => absurd hr (Nat.not_lt_zero _)⟩, fun z => z.1⟩) (lvc_i (rfl) rfl))))) rfl (rfl) (rfl)
  refine at_lv [2, 1, 0] rfl ?_
  exact at_eq (H4 _ 0 (Nat.lt_succ_self _) (by omega)) (lvc_s (lvc_i (rfl) (lvc_i (rfl) rfl))) rfl (rfl) (rfl)

set_option maxHeartbeats 4000000 in
set_option maxRecDepth 100000 in
theorem c_X6_which (l : Launch) (D : va_G) (G : sG) {M : sM} {L : sL} (hT : TInv M) (hc : sCt M) : sKi l D G yX6_which cX6_which 1 .int 4 91 [.ref (G.1 (0))] M L (fun r M' L' => r = sI ((seenB M : Int)) ∧ M' = M ∧ TInv M' ∧ L = L') := by
  refine sKi_go (by decide) (Nat.le_of_ble_eq_true rfl) ?_
  intro zp ze zs zm za zb zt zc Q C hret
  refine at_eq (lv' := [(0, .ref (G.1 (0)))]) (st' := []) (M' := M) (L' := L) ?_ rfl rfl rfl rfl
  refine at_aload_n C 0 dX6_which_0 rfl ?_
  refine at_call_i C (c_X6_soulsSeen l D G hT) (As := []) (obj_Sho G) (ci := 6) rfl qw_738 qw_735 qw_1 qw_737 qp_27 ⟨by decide, by decide, show (parseMethodDescriptor yX6_soulsSeen.desc).map (fun d => d.parameters.length) = some 0 by decide +kernel⟩ ⟨by decide, by decide⟩ ⟨Nat.zero_le _, Nat.zero_le _⟩ (Nat.le_of_ble_eq_true rfl) dX6_which_1 rfl (fun r M' L' hp2 => ?_)
  obtain ⟨rfl, rfl, rfl⟩ := hp2
  have hb1 : seenB M < 64 := bits_lt6 _ (nS_r hT (Or.inl rfl)).1
  exact hret _ _ _ _ _ dX6_which_4 (⟨rfl, rfl, hT, rfl⟩)

set_option maxHeartbeats 4000000 in
set_option maxRecDepth 100000 in
theorem c_X6_kindsWeighing (l : Launch) (D : va_G) (G : sG) {M : sM} {L : sL} (w d x : Int) (hw : 0 ≤ w ∧ w ≤ 99) (hd : 0 ≤ d ∧ d ≤ 99) (hx : 0 ≤ x ∧ x ≤ 99) : sKi l D G yX6_kindsWeighing cX6_kindsWeighing 5 .int 1 24 [.int (sI (w)), .int (sI (d)), .int (sI (x))] M L (fun r M' L' => r = sI ((bits (fun k => wgh k w d = x) 6 : Int)) ∧ M = M' ∧ L = L') := by
  refine sKi_go (by decide) (Nat.le_of_ble_eq_true rfl) ?_
  intro zp ze zs zm za zb zt zc Q C hret
  refine at_eq (lv' := [(0, .int (sI (w))), (1, .int (sI (d))), (2, .int (sI (x)))]) (st' := []) (M' := M) (L' := L) ?_ rfl rfl rfl rfl
  refine at_iconst C dX6_kindsWeighing_0 ?_
  refine at_istore_n C [(3, .int (sI (0))), (0, .int (sI (w))), (1, .int (sI (d))), (2, .int (sI (x)))] dX6_kindsWeighing_1 (by decide) rfl ?_
  refine at_iconst C dX6_kindsWeighing_2 ?_
  refine at_istore C [(4, .int (sI (0))), (3, .int (sI (0))), (0, .int (sI (w))), (1, .int (sI (d))), (2, .int (sI (x)))] dX6_kindsWeighing_3 (by decide) rfl ?_
  have H5 : ∀ (fu : Nat) (k : Nat), 6 - k < fu → (k ≤ 6) → sAt zp l ze (sRm 1 24) zs zm za zb zt zc D G 5 0 0 Q 5 [(0, .int (sI (w))), (1, .int (sI (d))), (2, .int (sI (x))), (3, .int (sI ((((bits (fun k => wgh k w d = x) k) : Nat) : Int)))), (4, .int (sI ((k : Int))))] [] M L := by
    intro fu
    induction fu with
    | zero => intro k hd hk; exact absurd hd (Nat.not_lt_zero _)
    | succ fu ih5 =>
      intro k hd5 hk
      refine at_iload C 4 dX6_kindsWeighing_5 rfl ?_
      refine at_bipush C dX6_kindsWeighing_7 (by decide) (by decide) ?_
      refine at_icmp_ge C 36 dX6_kindsWeighing_9 (by decide) (⟨by omega, by omega⟩) (⟨by omega, by omega⟩) (fun h1 => ?_) (fun h1 => ?_)
      · refine at_iload_n C 3 dX6_kindsWeighing_36 rfl ?_
        exact hret _ _ _ _ _ dX6_kindsWeighing_37 (⟨by rw [show k = 6 by omega], rfl, rfl⟩)
      · refine at_iload C 4 dX6_kindsWeighing_12 rfl ?_
        refine at_iload_n C 0 dX6_kindsWeighing_14 rfl ?_
        refine at_iload_n C 1 dX6_kindsWeighing_15 rfl ?_
        refine at_stat_i C (c_X6_weighed2 l D G (k : Int) w d ⟨by omega, by omega⟩ ⟨by omega, by omega⟩ ⟨by omega, by omega⟩) (As := [.int (sI ((k : Int))), .int (sI (w)), .int (sI (d))]) qw_512 qw_777 qw_1 qw_511 ⟨by decide, by decide, show (parseMethodDescriptor yX6_weighed.desc).map (fun d => d.parameters.length) = some 3 by decide +kernel⟩ ⟨by decide, by decide⟩ ⟨Nat.zero_le _, Nat.zero_le _⟩ (Nat.le_of_ble_eq_true rfl) dX6_kindsWeighing_16 rfl (fun r M' L' hp3 => ?_)
        obtain ⟨rfl, rfl, rfl⟩ := hp3
        have hb2 := wgh_b (k := (k : Int)) (w := w) (d := d) (by omega) (by omega)
        refine at_iload_n C 2 dX6_kindsWeighing_19 rfl ?_
        refine at_icmp_ne C 30 dX6_kindsWeighing_20 (by decide) (⟨by omega, by omega⟩) (⟨by omega, by omega⟩) (fun h4 => ?_) (fun h4 => ?_)
        · refine at_iinc C 4 [(4, .int (sI ((k : Int) + 1))), (0, .int (sI (w))), (1, .int (sI (d))), (2, .int (sI (x))), (3, .int (sI ((((bits (fun k => wgh k w d = x) k) : Nat) : Int))))] dX6_kindsWeighing_30 rfl (by decide) rfl ?_
          refine at_goto C 5 dX6_kindsWeighing_33 (by decide) ?_
          refine at_lv [1, 2, 3, 4, 0] rfl ?_
          exact at_eq (ih5 (k + 1) (by omega) (by omega)) (lvc_s (lvc_s (lvc_s (lvc_i (by rw [bits_n (by assumption)]) (lvc_i (by omega) rfl))))) rfl (rfl) (rfl)
        · refine at_iload_n C 3 dX6_kindsWeighing_23 rfl ?_
          refine at_iconst C dX6_kindsWeighing_24 ?_
          refine at_iload C 4 dX6_kindsWeighing_25 rfl ?_
          refine at_ishl C ((((2 ^ k) : Nat) : Int)) dX6_kindsWeighing_27 (zb_shl (by omega)) ?_
          refine at_ior C ((((bits (fun k => wgh k w d = x) k ||| 2 ^ k) : Nat) : Int)) dX6_kindsWeighing_28 (zb_or _ _) ?_
          refine at_istore_n C [(3, .int (sI ((((bits (fun k => wgh k w d = x) k ||| 2 ^ k) : Nat) : Int)))), (0, .int (sI (w))), (1, .int (sI (d))), (2, .int (sI (x))), (4, .int (sI ((k : Int))))] dX6_kindsWeighing_29 (by decide) rfl ?_
          refine at_iinc C 4 [(4, .int (sI ((k : Int) + 1))), (3, .int (sI ((((bits (fun k => wgh k w d = x) k ||| 2 ^ k) : Nat) : Int)))), (0, .int (sI (w))), (1, .int (sI (d))), (2, .int (sI (x)))] dX6_kindsWeighing_30 rfl (by decide) rfl ?_
          refine at_goto C 5 dX6_kindsWeighing_33 (by decide) ?_
          refine at_lv [2, 3, 4, 1, 0] rfl ?_
          exact at_eq (ih5 (k + 1) (by omega) (by omega)) (lvc_s (lvc_s (lvc_s (lvc_i (by rw [bits_y (by assumption)]) (lvc_i (by omega) rfl))))) rfl (rfl) (rfl)
  refine at_lv [2, 3, 4, 1, 0] rfl ?_
  exact at_eq (H5 _ 0 (Nat.lt_succ_self _) (by omega)) (lvc_s (lvc_s (lvc_s (lvc_i (rfl) (lvc_i (rfl) rfl))))) rfl (rfl) (rfl)

set_option maxHeartbeats 4000000 in
set_option maxRecDepth 100000 in
theorem c_X6_kindsFeeling (l : Launch) (D : va_G) (G : sG) {M : sM} {L : sL} (x y : Int) (hx : 0 ≤ x ∧ x ≤ 99) (hy : 0 ≤ y ∧ y ≤ 99) : sKi l D G yX6_kindsFeeling cX6_kindsFeeling 4 .int 1 23 [.int (sI (x)), .int (sI (y))] M L (fun r M' L' => r = sI ((bits (fun k => hvy k x = y) 6 : Int)) ∧ M = M' ∧ L = L') := by
  refine sKi_go (by decide) (Nat.le_of_ble_eq_true rfl) ?_
  intro zp ze zs zm za zb zt zc Q C hret
  refine at_eq (lv' := [(0, .int (sI (x))), (1, .int (sI (y)))]) (st' := []) (M' := M) (L' := L) ?_ rfl rfl rfl rfl
  refine at_iconst C dX6_kindsFeeling_0 ?_
  refine at_istore_n C [(2, .int (sI (0))), (0, .int (sI (x))), (1, .int (sI (y)))] dX6_kindsFeeling_1 (by decide) rfl ?_
  refine at_iconst C dX6_kindsFeeling_2 ?_
  refine at_istore_n C [(3, .int (sI (0))), (2, .int (sI (0))), (0, .int (sI (x))), (1, .int (sI (y)))] dX6_kindsFeeling_3 (by decide) rfl ?_
  have H4 : ∀ (fu : Nat) (k : Nat), 6 - k < fu → (k ≤ 6) → sAt zp l ze (sRm 1 23) zs zm za zb zt zc D G 4 0 0 Q 4 [(0, .int (sI (x))), (1, .int (sI (y))), (2, .int (sI ((((bits (fun k => hvy k x = y) k) : Nat) : Int)))), (3, .int (sI ((k : Int))))] [] M L := by
    intro fu
    induction fu with
    | zero => intro k hd hk; exact absurd hd (Nat.not_lt_zero _)
    | succ fu ih4 =>
      intro k hd4 hk
      refine at_iload_n C 3 dX6_kindsFeeling_4 rfl ?_
      refine at_bipush C dX6_kindsFeeling_5 (by decide) (by decide) ?_
      refine at_icmp_ge C 31 dX6_kindsFeeling_7 (by decide) (⟨by omega, by omega⟩) (⟨by omega, by omega⟩) (fun h1 => ?_) (fun h1 => ?_)
      · refine at_iload_n C 2 dX6_kindsFeeling_31 rfl ?_
        exact hret _ _ _ _ _ dX6_kindsFeeling_32 (⟨by rw [show k = 6 by omega], rfl, rfl⟩)
      · refine at_iload_n C 3 dX6_kindsFeeling_10 rfl ?_
        refine at_iload_n C 0 dX6_kindsFeeling_11 rfl ?_
        refine at_stat_i C (c_X6_heaviness2 l D G (k : Int) x ⟨by omega, by omega⟩ ⟨by omega, by omega⟩) (As := [.int (sI ((k : Int))), .int (sI (x))]) qw_515 qw_793 qw_1 qw_514 ⟨by decide, by decide, show (parseMethodDescriptor yX6_heaviness.desc).map (fun d => d.parameters.length) = some 2 by decide +kernel⟩ ⟨by decide, by decide⟩ ⟨Nat.zero_le _, Nat.zero_le _⟩ (Nat.le_of_ble_eq_true rfl) dX6_kindsFeeling_12 rfl (fun r M' L' hp3 => ?_)
        obtain ⟨rfl, rfl, rfl⟩ := hp3
        have hb2 := hvy_b (k := (k : Int)) (x := x) (by omega)
        refine at_iload_n C 1 dX6_kindsFeeling_15 rfl ?_
        refine at_icmp_ne C 25 dX6_kindsFeeling_16 (by decide) (⟨by omega, by omega⟩) (⟨by omega, by omega⟩) (fun h4 => ?_) (fun h4 => ?_)
        · refine at_iinc C 3 [(3, .int (sI ((k : Int) + 1))), (0, .int (sI (x))), (1, .int (sI (y))), (2, .int (sI ((((bits (fun k => hvy k x = y) k) : Nat) : Int))))] dX6_kindsFeeling_25 rfl (by decide) rfl ?_
          refine at_goto C 4 dX6_kindsFeeling_28 (by decide) ?_
          refine at_lv [1, 2, 3, 0] rfl ?_
          exact at_eq (ih4 (k + 1) (by omega) (by omega)) (lvc_s (lvc_s (lvc_i (by rw [bits_n (by assumption)]) (lvc_i (by omega) rfl)))) rfl (rfl) (rfl)
        · refine at_iload_n C 2 dX6_kindsFeeling_19 rfl ?_
          refine at_iconst C dX6_kindsFeeling_20 ?_
          refine at_iload_n C 3 dX6_kindsFeeling_21 rfl ?_
          refine at_ishl C ((((2 ^ k) : Nat) : Int)) dX6_kindsFeeling_22 (zb_shl (by omega)) ?_
          refine at_ior C ((((bits (fun k => hvy k x = y) k ||| 2 ^ k) : Nat) : Int)) dX6_kindsFeeling_23 (zb_or _ _) ?_
          refine at_istore_n C [(2, .int (sI ((((bits (fun k => hvy k x = y) k ||| 2 ^ k) : Nat) : Int)))), (0, .int (sI (x))), (1, .int (sI (y))), (3, .int (sI ((k : Int))))] dX6_kindsFeeling_24 (by decide) rfl ?_
          refine at_iinc C 3 [(3, .int (sI ((k : Int) + 1))), (2, .int (sI ((((bits (fun k => hvy k x = y) k ||| 2 ^ k) : Nat) : Int)))), (0, .int (sI (x))), (1, .int (sI (y)))] dX6_kindsFeeling_25 rfl (by decide) rfl ?_
          refine at_goto C 4 dX6_kindsFeeling_28 (by decide) ?_
          refine at_lv [2, 3, 1, 0] rfl ?_
          exact at_eq (ih4 (k + 1) (by omega) (by omega)) (lvc_s (lvc_s (lvc_i (by rw [bits_y (by assumption)]) (lvc_i (by omega) rfl)))) rfl (rfl) (rfl)
  refine at_lv [2, 3, 1, 0] rfl ?_
  exact at_eq (H4 _ 0 (Nat.lt_succ_self _) (by omega)) (lvc_s (lvc_s (lvc_i (rfl) (lvc_i (rfl) rfl)))) rfl (rfl) (rfl)

set_option maxHeartbeats 4000000 in
set_option maxRecDepth 100000 in
theorem c_X6_soulKinds (l : Launch) (D : va_G) (G : sG) {M : sM} {L : sL} (s : Nat) (hs : s < 6) (hT : TInv M) : sKi l D G yX6_soulKinds cX6_soulKinds 4 .int 2 48 [.ref (G.1 (0)), .int (sI ((s : Int)))] M L (fun r M' L' => r = sI ((kdsB M s : Int)) ∧ M = M' ∧ L = L') := by
  refine sKi_go (by decide) (Nat.le_of_ble_eq_true rfl) ?_
  intro zp ze zs zm za zb zt zc Q C hret
  refine at_eq (lv' := [(0, .ref (G.1 (0))), (1, .int (sI ((s : Int))))]) (st' := []) (M' := M) (L' := L) ?_ rfl rfl rfl rfl
  have hz : _ ≤ M 13 3 ∧ M 13 3 ≤ _ := tv hT (k := 13) (j := 3) (lo := 0) (hi := 6) rfl
  refine at_bipush C dX6_soulKinds_0 (by decide) (by decide) ?_
  refine at_istore_n C [(2, .int (sI (63))), (0, .ref (G.1 (0))), (1, .int (sI ((s : Int))))] dX6_soulKinds_2 (by decide) rfl ?_
  refine at_iconst C dX6_soulKinds_3 ?_
  refine at_istore_n C [(3, .int (sI (0))), (2, .int (sI (63))), (0, .ref (G.1 (0))), (1, .int (sI ((s : Int))))] dX6_soulKinds_4 (by decide) rfl ?_
  have H5 : ∀ (fu : Nat) (k : Nat), (M 13 3).toNat - k < fu → (k ≤ (M 13 3).toNat) → sAt zp l ze (sRm 2 48) zs zm za zb zt zc D G 4 0 0 Q 5 [(0, .ref (G.1 (0))), (1, .int (sI ((s : Int)))), (2, .int (sI ((((bits (fun k_ => kdsP M s k k_) 6) : Nat) : Int)))), (3, .int (sI ((k : Int))))] [] M L := by
    intro fu
    induction fu with
    | zero => intro k hd hk; exact absurd hd (Nat.not_lt_zero _)
    | succ fu ih5 =>
      intro k hd5 hk
      refine at_iload_n C 3 dX6_soulKinds_5 rfl ?_
      refine at_aload_n C 0 dX6_soulKinds_6 rfl ?_
      refine at_getf (v := .ref (G.1 (1))) C (obj_Sho G) (ci := 6) rfl inX6 (slot := 0) (by decide) qw_249 rfl rfl dX6_soulKinds_7 ?_
      refine at_getf (v := .ref (G.1 (13))) C (obj_Bea G (Or.inl rfl)) (ci := 0) rfl inX0 (slot := 7) (by decide) qw_101 rfl rfl dX6_soulKinds_10 ?_
      refine at_getf (v := .int (sI (M 13 3))) C ((isTa_not G (Or.inl rfl)).1) (ci := 4) rfl inX4 (slot := 3) (by decide) qw_75 rfl rfl dX6_soulKinds_13 ?_
      have hb1 : _ ≤ M 13 3 ∧ M 13 3 ≤ _ := tv hT (k := 13) (j := 3) (lo := 0) (hi := 6) (by first | rfl | (rw [rg_B (Or.inl rfl) (by omega)]; rfl))
      refine at_icmp_ge C 83 dX6_soulKinds_16 (by decide) (⟨by omega, by omega⟩) (⟨by omega, by omega⟩) (fun h2 => ?_) (fun h2 => ?_)
      · refine at_iload_n C 2 dX6_soulKinds_83 rfl ?_
        exact hret _ _ _ _ _ dX6_soulKinds_84 (⟨congrArg sI (by unfold kdsB; rw [show (M 13 3).toNat = k by omega]), rfl, rfl⟩)
      · refine at_aload_n C 0 dX6_soulKinds_19 rfl ?_
        refine at_getf (v := .ref (G.1 (1))) C (obj_Sho G) (ci := 6) rfl inX6 (slot := 0) (by decide) qw_249 rfl rfl dX6_soulKinds_20 ?_
        refine at_getf (v := .ref (G.1 (13))) C (obj_Bea G (Or.inl rfl)) (ci := 0) rfl inX0 (slot := 7) (by decide) qw_101 rfl rfl dX6_soulKinds_23 ?_
        refine at_iload_n C 3 dX6_soulKinds_26 rfl ?_
        refine at_iconst C dX6_soulKinds_27 ?_
        refine at_call_i C (c_X4_get_ntn l D G (Or.inl rfl) hT k 0 (by omega) (by omega)) (As := [.int (sI ((k : Int))), .int (sI (0))]) ((isTa_not G (Or.inl rfl)).1) (ci := 4) rfl qw_743 qw_740 qw_4 qw_741 qw_742 ⟨by decide, by decide, show (parseMethodDescriptor yX4_get.desc).map (fun d => d.parameters.length) = some 2 by decide +kernel⟩ ⟨by decide, by decide⟩ ⟨Nat.zero_le _, Nat.zero_le _⟩ (Nat.le_of_ble_eq_true rfl) dX6_soulKinds_28 rfl (fun r M' L' hp4 => ?_)
        obtain ⟨rfl, rfl, rfl⟩ := hp4
        refine at_ve (b := M 14 (k * 4 + 0)) rfl ?_
        have hb3 := tv_ntn hT (Or.inl rfl) (k * 4 + 0)
        have hn0 : _ ≤ M 14 (k * 4 + 0) ∧ M 14 (k * 4 + 0) ≤ _ := tv_ntn hT (Or.inl rfl) (k * 4 + 0)
        refine at_iload_n C 1 dX6_soulKinds_31 rfl ?_
        refine at_icmp_ne C 77 dX6_soulKinds_32 (by decide) (⟨by omega, by omega⟩) (⟨by omega, by omega⟩) (fun h5 => ?_) (fun h5 => ?_)
        · refine at_iinc C 3 [(3, .int (sI ((k : Int) + 1))), (0, .ref (G.1 (0))), (1, .int (sI ((s : Int)))), (2, .int (sI ((((bits (fun k_ => kdsP M s k k_) 6) : Nat) : Int))))] dX6_soulKinds_77 rfl (by decide) rfl ?_
          refine at_goto C 5 dX6_soulKinds_80 (by decide) ?_
          refine at_lv [1, 2, 3, 0] rfl ?_
          exact at_eq (ih5 (k + 1) (by omega) (by omega)) (lvc_s (lvc_s (lvc_i (congrArg Int.ofNat (kds_n (by assumption))) (lvc_i (by omega) rfl)))) rfl (rfl) (rfl)
        · refine at_iload_n C 2 dX6_soulKinds_35 rfl ?_
          refine at_aload_n C 0 dX6_soulKinds_36 rfl ?_
          refine at_getf (v := .ref (G.1 (1))) C (obj_Sho G) (ci := 6) rfl inX6 (slot := 0) (by decide) qw_249 rfl rfl dX6_soulKinds_37 ?_
          refine at_getf (v := .ref (G.1 (13))) C (obj_Bea G (Or.inl rfl)) (ci := 0) rfl inX0 (slot := 7) (by decide) qw_101 rfl rfl dX6_soulKinds_40 ?_
          refine at_iload_n C 3 dX6_soulKinds_43 rfl ?_
          refine at_iconst C dX6_soulKinds_44 ?_
          refine at_call_i C (c_X4_get_ntn l D G (Or.inl rfl) hT k 1 (by omega) (by omega)) (As := [.int (sI ((k : Int))), .int (sI (1))]) ((isTa_not G (Or.inl rfl)).1) (ci := 4) rfl qw_743 qw_740 qw_4 qw_741 qw_742 ⟨by decide, by decide, show (parseMethodDescriptor yX4_get.desc).map (fun d => d.parameters.length) = some 2 by decide +kernel⟩ ⟨by decide, by decide⟩ ⟨Nat.zero_le _, Nat.zero_le _⟩ (Nat.le_of_ble_eq_true rfl) dX6_soulKinds_45 rfl (fun r M' L' hp7 => ?_)
          obtain ⟨rfl, rfl, rfl⟩ := hp7
          refine at_ve (b := M 14 (k * 4 + 1)) rfl ?_
          have hb6 := tv_ntn hT (Or.inl rfl) (k * 4 + 1)
          have hn1 : _ ≤ M 14 (k * 4 + 1) ∧ M 14 (k * 4 + 1) ≤ _ := tv_ntn hT (Or.inl rfl) (k * 4 + 1)
          refine at_aload_n C 0 dX6_soulKinds_48 rfl ?_
          refine at_getf (v := .ref (G.1 (1))) C (obj_Sho G) (ci := 6) rfl inX6 (slot := 0) (by decide) qw_249 rfl rfl dX6_soulKinds_49 ?_
          refine at_getf (v := .ref (G.1 (13))) C (obj_Bea G (Or.inl rfl)) (ci := 0) rfl inX0 (slot := 7) (by decide) qw_101 rfl rfl dX6_soulKinds_52 ?_
          refine at_iload_n C 3 dX6_soulKinds_55 rfl ?_
          refine at_iconst C dX6_soulKinds_56 ?_
          refine at_call_i C (c_X4_get_ntn l D G (Or.inl rfl) hT k 2 (by omega) (by omega)) (As := [.int (sI ((k : Int))), .int (sI (2))]) ((isTa_not G (Or.inl rfl)).1) (ci := 4) rfl qw_743 qw_740 qw_4 qw_741 qw_742 ⟨by decide, by decide, show (parseMethodDescriptor yX4_get.desc).map (fun d => d.parameters.length) = some 2 by decide +kernel⟩ ⟨by decide, by decide⟩ ⟨Nat.zero_le _, Nat.zero_le _⟩ (Nat.le_of_ble_eq_true rfl) dX6_soulKinds_57 rfl (fun r M' L' hp9 => ?_)
          obtain ⟨rfl, rfl, rfl⟩ := hp9
          refine at_ve (b := M 14 (k * 4 + 2)) rfl ?_
          have hb8 := tv_ntn hT (Or.inl rfl) (k * 4 + 2)
          have hn2 : _ ≤ M 14 (k * 4 + 2) ∧ M 14 (k * 4 + 2) ≤ _ := tv_ntn hT (Or.inl rfl) (k * 4 + 2)
          refine at_aload_n C 0 dX6_soulKinds_60 rfl ?_
          refine at_getf (v := .ref (G.1 (1))) C (obj_Sho G) (ci := 6) rfl inX6 (slot := 0) (by decide) qw_249 rfl rfl dX6_soulKinds_61 ?_
          refine at_getf (v := .ref (G.1 (13))) C (obj_Bea G (Or.inl rfl)) (ci := 0) rfl inX0 (slot := 7) (by decide) qw_101 rfl rfl dX6_soulKinds_64 ?_
          refine at_iload_n C 3 dX6_soulKinds_67 rfl ?_
          refine at_iconst C dX6_soulKinds_68 ?_
          refine at_call_i C (c_X4_get_ntn l D G (Or.inl rfl) hT k 3 (by omega) (by omega)) (As := [.int (sI ((k : Int))), .int (sI (3))]) ((isTa_not G (Or.inl rfl)).1) (ci := 4) rfl qw_743 qw_740 qw_4 qw_741 qw_742 ⟨by decide, by decide, show (parseMethodDescriptor yX4_get.desc).map (fun d => d.parameters.length) = some 2 by decide +kernel⟩ ⟨by decide, by decide⟩ ⟨Nat.zero_le _, Nat.zero_le _⟩ (Nat.le_of_ble_eq_true rfl) dX6_soulKinds_69 rfl (fun r M' L' hp11 => ?_)
          obtain ⟨rfl, rfl, rfl⟩ := hp11
          refine at_ve (b := M 14 (k * 4 + 3)) rfl ?_
          have hb10 := tv_ntn hT (Or.inl rfl) (k * 4 + 3)
          have hn3 : _ ≤ M 14 (k * 4 + 3) ∧ M 14 (k * 4 + 3) ≤ _ := tv_ntn hT (Or.inl rfl) (k * 4 + 3)
          refine at_stat_i C (c_X6_kindsWeighing l D G (M 14 (k * 4 + 1)) (M 14 (k * 4 + 2)) (M 14 (k * 4 + 3)) ⟨by omega, by omega⟩ ⟨by omega, by omega⟩ ⟨by omega, by omega⟩) (As := [.int (sI (M 14 (k * 4 + 1))), .int (sI (M 14 (k * 4 + 2))), .int (sI (M 14 (k * 4 + 3)))]) qw_776 qw_774 qw_1 qw_775 ⟨by decide, by decide, show (parseMethodDescriptor yX6_kindsWeighing.desc).map (fun d => d.parameters.length) = some 3 by decide +kernel⟩ ⟨by decide, by decide⟩ ⟨Nat.zero_le _, Nat.zero_le _⟩ (Nat.le_of_ble_eq_true rfl) dX6_soulKinds_72 rfl (fun r M' L' hp12 => ?_)
          obtain ⟨rfl, rfl, rfl⟩ := hp12
          refine at_iand C (((((bits (fun k_ => kdsP M s k k_) 6) &&& (bits (fun kx => wgh kx (M 14 (k * 4 + 1)) (M 14 (k * 4 + 2)) = (M 14 (k * 4 + 3))) 6)) : Nat) : Int)) dX6_soulKinds_75 (zb_and _ _) ?_
          refine at_istore_n C [(2, .int (sI (((((bits (fun k_ => kdsP M s k k_) 6) &&& (bits (fun kx => wgh kx (M 14 (k * 4 + 1)) (M 14 (k * 4 + 2)) = (M 14 (k * 4 + 3))) 6)) : Nat) : Int)))), (0, .ref (G.1 (0))), (1, .int (sI ((s : Int)))), (3, .int (sI ((k : Int))))] dX6_soulKinds_76 (by decide) rfl ?_
          refine at_iinc C 3 [(3, .int (sI ((k : Int) + 1))), (2, .int (sI (((((bits (fun k_ => kdsP M s k k_) 6) &&& (bits (fun kx => wgh kx (M 14 (k * 4 + 1)) (M 14 (k * 4 + 2)) = (M 14 (k * 4 + 3))) 6)) : Nat) : Int)))), (0, .ref (G.1 (0))), (1, .int (sI ((s : Int))))] dX6_soulKinds_77 rfl (by decide) rfl ?_
          refine at_goto C 5 dX6_soulKinds_80 (by decide) ?_
          refine at_lv [2, 3, 1, 0] rfl ?_
          exact at_eq (ih5 (k + 1) (by omega) (by omega)) (lvc_s (lvc_s (lvc_i (congrArg Int.ofNat (kds_y (by assumption))) (lvc_i (by omega) rfl)))) rfl (rfl) (rfl)
  refine at_lv [2, 3, 1, 0] rfl ?_
  exact at_eq (H5 _ 0 (Nat.lt_succ_self _) (by omega)) (lvc_s (lvc_s (lvc_i (congrArg Int.ofNat (bits_63 _ (fun k r hr => absurd hr (Nat.not_lt_zero _)))) (lvc_i (rfl) rfl)))) rfl (rfl) (rfl)

set_option maxHeartbeats 4000000 in
set_option maxRecDepth 100000 in
theorem c_X6_callerKinds (l : Launch) (D : va_G) (G : sG) {M : sM} {L : sL} (s : Nat) (hs : s < 6) (hT : TInv M) : sKi l D G yX6_callerKinds cX6_callerKinds 4 .int 2 46 [.ref (G.1 (0)), .int (sI ((s : Int)))] M L (fun r M' L' => r = sI ((kfsB M s : Int)) ∧ M = M' ∧ L = L') := by
  refine sKi_go (by decide) (Nat.le_of_ble_eq_true rfl) ?_
  intro zp ze zs zm za zb zt zc Q C hret
  refine at_eq (lv' := [(0, .ref (G.1 (0))), (1, .int (sI ((s : Int))))]) (st' := []) (M' := M) (L' := L) ?_ rfl rfl rfl rfl
  have hz : _ ≤ M 15 3 ∧ M 15 3 ≤ _ := tv hT (k := 15) (j := 3) (lo := 0) (hi := 6) rfl
  refine at_bipush C dX6_callerKinds_0 (by decide) (by decide) ?_
  refine at_istore_n C [(2, .int (sI (63))), (0, .ref (G.1 (0))), (1, .int (sI ((s : Int))))] dX6_callerKinds_2 (by decide) rfl ?_
  refine at_iconst C dX6_callerKinds_3 ?_
  refine at_istore_n C [(3, .int (sI (0))), (2, .int (sI (63))), (0, .ref (G.1 (0))), (1, .int (sI ((s : Int))))] dX6_callerKinds_4 (by decide) rfl ?_
  have H5 : ∀ (fu : Nat) (k : Nat), (M 15 3).toNat - k < fu → (k ≤ (M 15 3).toNat) → sAt zp l ze (sRm 2 46) zs zm za zb zt zc D G 4 0 0 Q 5 [(0, .ref (G.1 (0))), (1, .int (sI ((s : Int)))), (2, .int (sI ((((bits (fun k_ => kfsP M s k k_) 6) : Nat) : Int)))), (3, .int (sI ((k : Int))))] [] M L := by
    intro fu
    induction fu with
    | zero => intro k hd hk; exact absurd hd (Nat.not_lt_zero _)
    | succ fu ih5 =>
      intro k hd5 hk
      refine at_iload_n C 3 dX6_callerKinds_5 rfl ?_
      refine at_aload_n C 0 dX6_callerKinds_6 rfl ?_
      refine at_getf (v := .ref (G.1 (1))) C (obj_Sho G) (ci := 6) rfl inX6 (slot := 0) (by decide) qw_249 rfl rfl dX6_callerKinds_7 ?_
      refine at_getf (v := .ref (G.1 (15))) C (obj_Bea G (Or.inl rfl)) (ci := 0) rfl inX0 (slot := 8) (by decide) qw_103 rfl rfl dX6_callerKinds_10 ?_
      refine at_getf (v := .int (sI (M 15 3))) C ((isTa_mar G (Or.inl rfl)).1) (ci := 4) rfl inX4 (slot := 3) (by decide) qw_75 rfl rfl dX6_callerKinds_13 ?_
      have hb1 : _ ≤ M 15 3 ∧ M 15 3 ≤ _ := tv hT (k := 15) (j := 3) (lo := 0) (hi := 6) (by first | rfl | (rw [rg_B (Or.inl rfl) (by omega)]; rfl))
      refine at_icmp_ge C 71 dX6_callerKinds_16 (by decide) (⟨by omega, by omega⟩) (⟨by omega, by omega⟩) (fun h2 => ?_) (fun h2 => ?_)
      · refine at_iload_n C 2 dX6_callerKinds_71 rfl ?_
        exact hret _ _ _ _ _ dX6_callerKinds_72 (⟨congrArg sI (by unfold kfsB; rw [show (M 15 3).toNat = k by omega]), rfl, rfl⟩)
      · refine at_aload_n C 0 dX6_callerKinds_19 rfl ?_
        refine at_getf (v := .ref (G.1 (1))) C (obj_Sho G) (ci := 6) rfl inX6 (slot := 0) (by decide) qw_249 rfl rfl dX6_callerKinds_20 ?_
        refine at_getf (v := .ref (G.1 (15))) C (obj_Bea G (Or.inl rfl)) (ci := 0) rfl inX0 (slot := 8) (by decide) qw_103 rfl rfl dX6_callerKinds_23 ?_
        refine at_iload_n C 3 dX6_callerKinds_26 rfl ?_
        refine at_iconst C dX6_callerKinds_27 ?_
        refine at_call_i C (c_X4_get_mkn l D G (Or.inl rfl) hT k 0 (by omega) (by omega)) (As := [.int (sI ((k : Int))), .int (sI (0))]) ((isTa_mar G (Or.inl rfl)).1) (ci := 4) rfl qw_743 qw_740 qw_4 qw_741 qw_742 ⟨by decide, by decide, show (parseMethodDescriptor yX4_get.desc).map (fun d => d.parameters.length) = some 2 by decide +kernel⟩ ⟨by decide, by decide⟩ ⟨Nat.zero_le _, Nat.zero_le _⟩ (Nat.le_of_ble_eq_true rfl) dX6_callerKinds_28 rfl (fun r M' L' hp4 => ?_)
        obtain ⟨rfl, rfl, rfl⟩ := hp4
        refine at_ve (b := M 16 (k * 3 + 0)) rfl ?_
        have hb3 := tv_mkn hT (Or.inl rfl) (k * 3 + 0)
        have hn0 : _ ≤ M 16 (k * 3 + 0) ∧ M 16 (k * 3 + 0) ≤ _ := tv_mkn hT (Or.inl rfl) (k * 3 + 0)
        refine at_iload_n C 1 dX6_callerKinds_31 rfl ?_
        refine at_icmp_ne C 65 dX6_callerKinds_32 (by decide) (⟨by omega, by omega⟩) (⟨by omega, by omega⟩) (fun h5 => ?_) (fun h5 => ?_)
        · refine at_iinc C 3 [(3, .int (sI ((k : Int) + 1))), (0, .ref (G.1 (0))), (1, .int (sI ((s : Int)))), (2, .int (sI ((((bits (fun k_ => kfsP M s k k_) 6) : Nat) : Int))))] dX6_callerKinds_65 rfl (by decide) rfl ?_
          refine at_goto C 5 dX6_callerKinds_68 (by decide) ?_
          refine at_lv [1, 2, 3, 0] rfl ?_
          exact at_eq (ih5 (k + 1) (by omega) (by omega)) (lvc_s (lvc_s (lvc_i (congrArg Int.ofNat (kfs_n (by assumption))) (lvc_i (by omega) rfl)))) rfl (rfl) (rfl)
        · refine at_iload_n C 2 dX6_callerKinds_35 rfl ?_
          refine at_aload_n C 0 dX6_callerKinds_36 rfl ?_
          refine at_getf (v := .ref (G.1 (1))) C (obj_Sho G) (ci := 6) rfl inX6 (slot := 0) (by decide) qw_249 rfl rfl dX6_callerKinds_37 ?_
          refine at_getf (v := .ref (G.1 (15))) C (obj_Bea G (Or.inl rfl)) (ci := 0) rfl inX0 (slot := 8) (by decide) qw_103 rfl rfl dX6_callerKinds_40 ?_
          refine at_iload_n C 3 dX6_callerKinds_43 rfl ?_
          refine at_iconst C dX6_callerKinds_44 ?_
          refine at_call_i C (c_X4_get_mkn l D G (Or.inl rfl) hT k 1 (by omega) (by omega)) (As := [.int (sI ((k : Int))), .int (sI (1))]) ((isTa_mar G (Or.inl rfl)).1) (ci := 4) rfl qw_743 qw_740 qw_4 qw_741 qw_742 ⟨by decide, by decide, show (parseMethodDescriptor yX4_get.desc).map (fun d => d.parameters.length) = some 2 by decide +kernel⟩ ⟨by decide, by decide⟩ ⟨Nat.zero_le _, Nat.zero_le _⟩ (Nat.le_of_ble_eq_true rfl) dX6_callerKinds_45 rfl (fun r M' L' hp7 => ?_)
          obtain ⟨rfl, rfl, rfl⟩ := hp7
          refine at_ve (b := M 16 (k * 3 + 1)) rfl ?_
          have hb6 := tv_mkn hT (Or.inl rfl) (k * 3 + 1)
          have hn1 : _ ≤ M 16 (k * 3 + 1) ∧ M 16 (k * 3 + 1) ≤ _ := tv_mkn hT (Or.inl rfl) (k * 3 + 1)
          refine at_aload_n C 0 dX6_callerKinds_48 rfl ?_
          refine at_getf (v := .ref (G.1 (1))) C (obj_Sho G) (ci := 6) rfl inX6 (slot := 0) (by decide) qw_249 rfl rfl dX6_callerKinds_49 ?_
          refine at_getf (v := .ref (G.1 (15))) C (obj_Bea G (Or.inl rfl)) (ci := 0) rfl inX0 (slot := 8) (by decide) qw_103 rfl rfl dX6_callerKinds_52 ?_
          refine at_iload_n C 3 dX6_callerKinds_55 rfl ?_
          refine at_iconst C dX6_callerKinds_56 ?_
          refine at_call_i C (c_X4_get_mkn l D G (Or.inl rfl) hT k 2 (by omega) (by omega)) (As := [.int (sI ((k : Int))), .int (sI (2))]) ((isTa_mar G (Or.inl rfl)).1) (ci := 4) rfl qw_743 qw_740 qw_4 qw_741 qw_742 ⟨by decide, by decide, show (parseMethodDescriptor yX4_get.desc).map (fun d => d.parameters.length) = some 2 by decide +kernel⟩ ⟨by decide, by decide⟩ ⟨Nat.zero_le _, Nat.zero_le _⟩ (Nat.le_of_ble_eq_true rfl) dX6_callerKinds_57 rfl (fun r M' L' hp9 => ?_)
          obtain ⟨rfl, rfl, rfl⟩ := hp9
          refine at_ve (b := M 16 (k * 3 + 2)) rfl ?_
          have hb8 := tv_mkn hT (Or.inl rfl) (k * 3 + 2)
          have hn2 : _ ≤ M 16 (k * 3 + 2) ∧ M 16 (k * 3 + 2) ≤ _ := tv_mkn hT (Or.inl rfl) (k * 3 + 2)
          refine at_stat_i C (c_X6_kindsFeeling l D G (M 16 (k * 3 + 1)) (M 16 (k * 3 + 2)) ⟨by omega, by omega⟩ ⟨by omega, by omega⟩) (As := [.int (sI (M 16 (k * 3 + 1))), .int (sI (M 16 (k * 3 + 2)))]) qw_792 qw_790 qw_1 qw_791 ⟨by decide, by decide, show (parseMethodDescriptor yX6_kindsFeeling.desc).map (fun d => d.parameters.length) = some 2 by decide +kernel⟩ ⟨by decide, by decide⟩ ⟨Nat.zero_le _, Nat.zero_le _⟩ (Nat.le_of_ble_eq_true rfl) dX6_callerKinds_60 rfl (fun r M' L' hp10 => ?_)
          obtain ⟨rfl, rfl, rfl⟩ := hp10
          refine at_iand C (((((bits (fun k_ => kfsP M s k k_) 6) &&& (bits (fun kx => hvy kx (M 16 (k * 3 + 1)) = (M 16 (k * 3 + 2))) 6)) : Nat) : Int)) dX6_callerKinds_63 (zb_and _ _) ?_
          refine at_istore_n C [(2, .int (sI (((((bits (fun k_ => kfsP M s k k_) 6) &&& (bits (fun kx => hvy kx (M 16 (k * 3 + 1)) = (M 16 (k * 3 + 2))) 6)) : Nat) : Int)))), (0, .ref (G.1 (0))), (1, .int (sI ((s : Int)))), (3, .int (sI ((k : Int))))] dX6_callerKinds_64 (by decide) rfl ?_
          refine at_iinc C 3 [(3, .int (sI ((k : Int) + 1))), (2, .int (sI (((((bits (fun k_ => kfsP M s k k_) 6) &&& (bits (fun kx => hvy kx (M 16 (k * 3 + 1)) = (M 16 (k * 3 + 2))) 6)) : Nat) : Int)))), (0, .ref (G.1 (0))), (1, .int (sI ((s : Int))))] dX6_callerKinds_65 rfl (by decide) rfl ?_
          refine at_goto C 5 dX6_callerKinds_68 (by decide) ?_
          refine at_lv [2, 3, 1, 0] rfl ?_
          exact at_eq (ih5 (k + 1) (by omega) (by omega)) (lvc_s (lvc_s (lvc_i (congrArg Int.ofNat (kfs_y (by assumption))) (lvc_i (by omega) rfl)))) rfl (rfl) (rfl)
  refine at_lv [2, 3, 1, 0] rfl ?_
  exact at_eq (H5 _ 0 (Nat.lt_succ_self _) (by omega)) (lvc_s (lvc_s (lvc_i (congrArg Int.ofNat (bits_63 _ (fun k r hr => absurd hr (Nat.not_lt_zero _)))) (lvc_i (rfl) rfl)))) rfl (rfl) (rfl)

set_option maxHeartbeats 4000000 in
set_option maxRecDepth 100000 in
theorem c_X6_is (l : Launch) (D : va_G) (G : sG) {M : sM} {L : sL} (s : Int) (hsr : InR s) (hT : TInv M) (hc : sCt M) : sKi l D G yX6_is cX6_is 2 .int 3 71 [.ref (G.1 (0)), .int (sI (s))] M L (fun r M' L' => r = sI (rIs M s) ∧ M' = mB M (isSou M s) ∧ TInv M' ∧ L = L') := by
  refine sKi_go (by decide) (Nat.le_of_ble_eq_true rfl) ?_
  intro zp ze zs zm za zb zt zc Q C hret
  refine at_eq (lv' := [(0, .ref (G.1 (0))), (1, .int (sI (s)))]) (st' := []) (M' := M) (L' := L) ?_ rfl rfl rfl rfl
  refine at_aload_n C 0 dX6_is_0 rfl ?_
  refine at_getf (v := .ref (G.1 (1))) C (obj_Sho G) (ci := 6) rfl inX6 (slot := 0) (by decide) qw_249 rfl rfl dX6_is_1 ?_
  refine at_iload_n C 1 dX6_is_4 rfl ?_
  refine at_call_i C (c_X0_hasSoul l D G (Or.inl rfl) hT s ⟨by omega, by omega⟩) (As := [.int (sI (s))]) (obj_Bea G (Or.inl rfl)) (ci := 0) rfl qw_602 qw_599 qw_2 qw_600 qw_601 ⟨by decide, by decide, show (parseMethodDescriptor yX0_hasSoul.desc).map (fun d => d.parameters.length) = some 1 by decide +kernel⟩ ⟨by decide, by decide⟩ ⟨Nat.zero_le _, Nat.zero_le _⟩ (Nat.le_of_ble_eq_true rfl) dX6_is_5 rfl (fun r M' L' hp1 => ?_)
  obtain ⟨rfl, rfl, rfl⟩ := hp1
  refine at_vi (y := sB (0 ≤ s ∧ s < M 1 9)) rfl ?_
  refine at_if_neB C 18 dX6_is_8 (by decide) (fun h2 => ?_) (fun h2 => ?_)
  · obtain ⟨n, rfl⟩ : ∃ n : Nat, s = (n : Int) := ⟨s.toNat, by omega⟩
    have hcc := tv_callers hT (Or.inl rfl)
    have hss := tv_souls hT (Or.inl rfl)
    refine at_aload_n C 0 dX6_is_18 rfl ?_
    refine at_iload_n C 1 dX6_is_19 rfl ?_
    refine at_call_i C (c_X6_soulKinds l D G n (by omega) hT) (As := [.int (sI ((n : Int)))]) (obj_Sho G) (ci := 6) rfl qw_773 qw_770 qw_1 qw_772 qp_28 ⟨by decide, by decide, show (parseMethodDescriptor yX6_soulKinds.desc).map (fun d => d.parameters.length) = some 1 by decide +kernel⟩ ⟨by decide, by decide⟩ ⟨Nat.zero_le _, Nat.zero_le _⟩ (Nat.le_of_ble_eq_true rfl) dX6_is_20 rfl (fun r M' L' hp4 => ?_)
    obtain ⟨rfl, rfl, rfl⟩ := hp4
    have hb3 : kdsB M n < 64 := bits_lt6 _ (by decide)
    exact hret _ _ _ _ _ dX6_is_23 (⟨congrArg sI (if_pos (by first | omega | (simp only [Int.toNat_natCast]; omega))).symm, (if_pos (by omega)).symm, hT, rfl⟩)
  · refine at_aload_n C 0 dX6_is_11 rfl ?_
    refine at_bipush C dX6_is_12 (by decide) (by decide) ?_
    refine at_call_i C (c_X6_refuseBad l D G (-2) hT ⟨by omega, by omega, by omega⟩) (As := [.int (sI (-2))]) (obj_Sho G) (ci := 6) rfl qw_311 qw_308 qw_1 qw_310 qp_0 ⟨by decide, by decide, show (parseMethodDescriptor yX6_refuseBad.desc).map (fun d => d.parameters.length) = some 1 by decide +kernel⟩ ⟨by decide, by decide⟩ ⟨Nat.zero_le _, Nat.zero_le _⟩ (Nat.le_of_ble_eq_true rfl) dX6_is_14 rfl (fun r M' L' hp6 => ?_)
    obtain ⟨rfl, rfl, hT5, rfl⟩ := hp6
    exact hret _ _ _ _ _ dX6_is_17 (⟨congrArg sI (if_neg (by first | omega | (simp only [Int.toNat_natCast]; omega))).symm, (if_neg (by omega)).symm, hT5, rfl⟩)

set_option maxHeartbeats 4000000 in
set_option maxRecDepth 100000 in
theorem c_X6_kinds (l : Launch) (D : va_G) (G : sG) {M : sM} {L : sL} (i : Int) (hir : InR i) (hT : TInv M) (hc : sCt M) : sKi l D G yX6_kinds cX6_kinds 2 .int 3 69 [.ref (G.1 (0)), .int (sI (i))] M L (fun r M' L' => r = sI (rKinds M i) ∧ M' = mB M (isCal M i) ∧ TInv M' ∧ L = L') := by
  refine sKi_go (by decide) (Nat.le_of_ble_eq_true rfl) ?_
  intro zp ze zs zm za zb zt zc Q C hret
  refine at_eq (lv' := [(0, .ref (G.1 (0))), (1, .int (sI (i)))]) (st' := []) (M' := M) (L' := L) ?_ rfl rfl rfl rfl
  refine at_aload_n C 0 dX6_kinds_0 rfl ?_
  refine at_getf (v := .ref (G.1 (1))) C (obj_Sho G) (ci := 6) rfl inX6 (slot := 0) (by decide) qw_249 rfl rfl dX6_kinds_1 ?_
  refine at_iload_n C 1 dX6_kinds_4 rfl ?_
  refine at_call_i C (c_X0_hasCaller l D G (Or.inl rfl) hT i ⟨by omega, by omega⟩) (As := [.int (sI (i))]) (obj_Bea G (Or.inl rfl)) (ci := 0) rfl qw_579 qw_576 qw_2 qw_577 qw_578 ⟨by decide, by decide, show (parseMethodDescriptor yX0_hasCaller.desc).map (fun d => d.parameters.length) = some 1 by decide +kernel⟩ ⟨by decide, by decide⟩ ⟨Nat.zero_le _, Nat.zero_le _⟩ (Nat.le_of_ble_eq_true rfl) dX6_kinds_5 rfl (fun r M' L' hp1 => ?_)
  obtain ⟨rfl, rfl, rfl⟩ := hp1
  refine at_vi (y := sB (0 ≤ i ∧ i < M 1 10)) rfl ?_
  refine at_if_neB C 18 dX6_kinds_8 (by decide) (fun h2 => ?_) (fun h2 => ?_)
  · obtain ⟨n, rfl⟩ : ∃ n : Nat, i = (n : Int) := ⟨i.toNat, by omega⟩
    have hcc := tv_callers hT (Or.inl rfl)
    have hss := tv_souls hT (Or.inl rfl)
    refine at_aload_n C 0 dX6_kinds_18 rfl ?_
    refine at_iload_n C 1 dX6_kinds_19 rfl ?_
    refine at_call_i C (c_X6_callerKinds l D G n (by omega) hT) (As := [.int (sI ((n : Int)))]) (obj_Sho G) (ci := 6) rfl qw_789 qw_786 qw_1 qw_788 qp_29 ⟨by decide, by decide, show (parseMethodDescriptor yX6_callerKinds.desc).map (fun d => d.parameters.length) = some 1 by decide +kernel⟩ ⟨by decide, by decide⟩ ⟨Nat.zero_le _, Nat.zero_le _⟩ (Nat.le_of_ble_eq_true rfl) dX6_kinds_20 rfl (fun r M' L' hp4 => ?_)
    obtain ⟨rfl, rfl, rfl⟩ := hp4
    have hb3 : kfsB M n < 64 := bits_lt6 _ (by decide)
    exact hret _ _ _ _ _ dX6_kinds_23 (⟨congrArg sI (if_pos (by first | omega | (simp only [Int.toNat_natCast]; omega))).symm, (if_pos (by omega)).symm, hT, rfl⟩)
  · refine at_aload_n C 0 dX6_kinds_11 rfl ?_
    refine at_bipush C dX6_kinds_12 (by decide) (by decide) ?_
    refine at_call_i C (c_X6_refuseBad l D G (-2) hT ⟨by omega, by omega, by omega⟩) (As := [.int (sI (-2))]) (obj_Sho G) (ci := 6) rfl qw_311 qw_308 qw_1 qw_310 qp_0 ⟨by decide, by decide, show (parseMethodDescriptor yX6_refuseBad.desc).map (fun d => d.parameters.length) = some 1 by decide +kernel⟩ ⟨by decide, by decide⟩ ⟨Nat.zero_le _, Nat.zero_le _⟩ (Nat.le_of_ble_eq_true rfl) dX6_kinds_14 rfl (fun r M' L' hp6 => ?_)
    obtain ⟨rfl, rfl, hT5, rfl⟩ := hp6
    exact hret _ _ _ _ _ dX6_kinds_17 (⟨congrArg sI (if_neg (by first | omega | (simp only [Int.toNat_natCast]; omega))).symm, (if_neg (by omega)).symm, hT5, rfl⟩)

set_option maxHeartbeats 4000000 in
set_option maxRecDepth 100000 in
theorem c_X6_mostAlike (l : Launch) (D : va_G) (G : sG) {M : sM} {L : sL} (m : Nat) (hm : m < 64) (hT : TInv M) : sKi l D G yX6_mostAlike cX6_mostAlike 6 .int 1 21 [.int (sI ((m : Int))), .ref (G.1 (257))] M L (fun r M' L' => r = sI (mal m (M 257)) ∧ M = M' ∧ L = L') := by
  refine sKi_go (by decide) (Nat.le_of_ble_eq_true rfl) ?_
  intro zp ze zs zm za zb zt zc Q C hret
  refine at_eq (lv' := [(0, .int (sI ((m : Int)))), (1, .ref (G.1 (257)))]) (st' := []) (M' := M) (L' := L) ?_ rfl rfl rfl rfl
  refine at_iconst C dX6_mostAlike_0 ?_
  refine at_istore_n C [(2, .int (sI (0))), (0, .int (sI ((m : Int)))), (1, .ref (G.1 (257)))] dX6_mostAlike_1 (by decide) rfl ?_
  refine at_iconst C dX6_mostAlike_2 ?_
  refine at_istore_n C [(3, .int (sI (0))), (2, .int (sI (0))), (0, .int (sI ((m : Int)))), (1, .ref (G.1 (257)))] dX6_mostAlike_3 (by decide) rfl ?_
  have H4 : ∀ (fu : Nat) (a : Nat), 6 - a < fu → (a ≤ 6) → sAt zp l ze (sRm 1 21) zs zm za zb zt zc D G 6 0 0 Q 4 [(0, .int (sI ((m : Int)))), (1, .ref (G.1 (257))), (2, .int (sI (malN m (M 257) a))), (3, .int (sI ((a : Int))))] [] M L := by
    intro fu
    induction fu with
    | zero => intro a hd ha; exact absurd hd (Nat.not_lt_zero _)
    | succ fu ih4 =>
      intro a hd4 ha
      have hmr := malN_r m (M 257) a
      refine at_iload_n C 3 dX6_mostAlike_4 rfl ?_
      refine at_aload_n C 1 dX6_mostAlike_5 rfl ?_
      refine at_alen C (ar_257 G) dX6_mostAlike_6 ?_
      refine at_icmp_ge C 72 dX6_mostAlike_7 (by decide) (⟨by omega, by omega⟩) (⟨by omega, by omega⟩) (fun h1 => ?_) (fun h1 => ?_)
      · refine at_iload_n C 2 dX6_mostAlike_72 rfl ?_
        exact hret _ _ _ _ _ dX6_mostAlike_73 (⟨congrArg sI (by unfold mal; rw [show a = 6 by omega]), rfl, rfl⟩)
      · refine at_iconst C dX6_mostAlike_10 ?_
        refine at_istore C [(4, .int (sI (0))), (0, .int (sI ((m : Int)))), (1, .ref (G.1 (257))), (2, .int (sI (malN m (M 257) a))), (3, .int (sI ((a : Int))))] dX6_mostAlike_11 (by decide) rfl ?_
        refine at_iconst C dX6_mostAlike_13 ?_
        refine at_istore C [(5, .int (sI (0))), (4, .int (sI (0))), (0, .int (sI ((m : Int)))), (1, .ref (G.1 (257))), (2, .int (sI (malN m (M 257) a))), (3, .int (sI ((a : Int))))] dX6_mostAlike_14 (by decide) rfl ?_
        have H16 : ∀ (fu : Nat) (b : Nat), 6 - b < fu → (b ≤ 6) → sAt zp l ze (sRm 1 21) zs zm za zb zt zc D G 6 0 0 Q 16 [(0, .int (sI ((m : Int)))), (1, .ref (G.1 (257))), (2, .int (sI (malN m (M 257) a))), (3, .int (sI ((a : Int)))), (4, .int (sI (cnt (fun b => alk m (M 257) a b) b))), (5, .int (sI ((b : Int))))] [] M L := by
          intro fu
          induction fu with
          | zero => intro b hd hb; exact absurd hd (Nat.not_lt_zero _)
          | succ fu ih16 =>
            intro b hd16 hb
            have hcr := cnt_r (fun b => alk m (M 257) a b) b
            refine at_iload C 5 dX6_mostAlike_16 rfl ?_
            refine at_aload_n C 1 dX6_mostAlike_18 rfl ?_
            refine at_alen C (ar_257 G) dX6_mostAlike_19 ?_
            refine at_icmp_ge C 59 dX6_mostAlike_20 (by decide) (⟨by omega, by omega⟩) (⟨by omega, by omega⟩) (fun h2 => ?_) (fun h2 => ?_)
            · refine at_iload_n C 2 dX6_mostAlike_59 rfl ?_
              refine at_iload C 4 dX6_mostAlike_60 rfl ?_
              refine at_mmax C qw_752 (⟨by omega, by omega⟩) (⟨by omega, by omega⟩) ⟨by decide, Nat.le_of_ble_eq_true rfl⟩ ⟨Nat.zero_le _, Nat.zero_le _⟩ dX6_mostAlike_62 ?_
              refine at_istore_n C [(2, .int (sI (max (malN m (M 257) a) (cnt (fun b => alk m (M 257) a b) b)))), (0, .int (sI ((m : Int)))), (1, .ref (G.1 (257))), (3, .int (sI ((a : Int)))), (4, .int (sI (cnt (fun b => alk m (M 257) a b) b))), (5, .int (sI ((b : Int))))] dX6_mostAlike_65 (by decide) rfl ?_
              refine at_iinc C 3 [(3, .int (sI ((a : Int) + 1))), (2, .int (sI (max (malN m (M 257) a) (cnt (fun b => alk m (M 257) a b) b)))), (0, .int (sI ((m : Int)))), (1, .ref (G.1 (257))), (4, .int (sI (cnt (fun b => alk m (M 257) a b) b))), (5, .int (sI ((b : Int))))] dX6_mostAlike_66 rfl (by decide) rfl ?_
              refine at_goto C 4 dX6_mostAlike_69 (by decide) ?_
              refine at_lv [2, 3, 1, 0] rfl ?_
              exact at_eq (ih4 (a + 1) (by omega) (by omega)) (lvc_s (lvc_s (lvc_i (by rw [show b = 6 by omega]; rfl) (lvc_i (by omega) rfl)))) rfl (rfl) (rfl)
            · refine at_iload_n C 0 dX6_mostAlike_23 rfl ?_
              refine at_iload_n C 3 dX6_mostAlike_24 rfl ?_
              refine at_stat_i C (c_X6_contains l D G m a (by omega) (by omega)) (As := [.int (sI ((m : Int))), .int (sI ((a : Int)))]) qw_644 qw_751 qw_1 qw_643 ⟨by decide, by decide, show (parseMethodDescriptor yX6_contains.desc).map (fun d => d.parameters.length) = some 2 by decide +kernel⟩ ⟨by decide, by decide⟩ ⟨Nat.zero_le _, Nat.zero_le _⟩ (Nat.le_of_ble_eq_true rfl) dX6_mostAlike_25 rfl (fun r M' L' hp3 => ?_)
              obtain ⟨rfl, rfl, rfl⟩ := hp3
              refine at_if_eqB C 53 dX6_mostAlike_28 (by decide) (fun h4 => ?_) (fun h4 => ?_)
              · refine at_iinc C 5 [(5, .int (sI ((b : Int) + 1))), (0, .int (sI ((m : Int)))), (1, .ref (G.1 (257))), (2, .int (sI (malN m (M 257) a))), (3, .int (sI ((a : Int)))), (4, .int (sI (cnt (fun b => alk m (M 257) a b) b)))] dX6_mostAlike_53 rfl (by decide) rfl ?_
                refine at_goto C 16 dX6_mostAlike_56 (by decide) ?_
                refine at_lv [1, 2, 3, 4, 5, 0] rfl ?_
                exact at_eq (ih16 (b + 1) (by omega) (by omega)) (lvc_s (lvc_s (lvc_s (lvc_s (lvc_i (by rw [cnt_n (fun z => absurd (z.1) (by assumption))]) (lvc_i (by omega) rfl)))))) rfl (rfl) (rfl)
              · refine at_iload_n C 0 dX6_mostAlike_31 rfl ?_
                refine at_iload C 5 dX6_mostAlike_32 rfl ?_
                refine at_stat_i C (c_X6_contains l D G m b (by omega) (by omega)) (As := [.int (sI ((m : Int))), .int (sI ((b : Int)))]) qw_644 qw_751 qw_1 qw_643 ⟨by decide, by decide, show (parseMethodDescriptor yX6_contains.desc).map (fun d => d.parameters.length) = some 2 by decide +kernel⟩ ⟨by decide, by decide⟩ ⟨Nat.zero_le _, Nat.zero_le _⟩ (Nat.le_of_ble_eq_true rfl) dX6_mostAlike_34 rfl (fun r M' L' hp5 => ?_)
                obtain ⟨rfl, rfl, rfl⟩ := hp5
                refine at_if_eqB C 53 dX6_mostAlike_37 (by decide) (fun h6 => ?_) (fun h6 => ?_)
                · refine at_iinc C 5 [(5, .int (sI ((b : Int) + 1))), (0, .int (sI ((m : Int)))), (1, .ref (G.1 (257))), (2, .int (sI (malN m (M 257) a))), (3, .int (sI ((a : Int)))), (4, .int (sI (cnt (fun b => alk m (M 257) a b) b)))] dX6_mostAlike_53 rfl (by decide) rfl ?_
                  refine at_goto C 16 dX6_mostAlike_56 (by decide) ?_
                  refine at_lv [1, 2, 3, 4, 5, 0] rfl ?_
                  exact at_eq (ih16 (b + 1) (by omega) (by omega)) (lvc_s (lvc_s (lvc_s (lvc_s (lvc_i (by rw [cnt_n (fun z => absurd (z.2.1) (by assumption))]) (lvc_i (by omega) rfl)))))) rfl (rfl) (rfl)
                · refine at_aload_n C 1 dX6_mostAlike_40 rfl ?_
                  refine at_iload_n C 3 dX6_mostAlike_41 rfl ?_
                  refine at_iald C a (ar_257 G) (rfl) (by omega) dX6_mostAlike_42 ?_
                  have hb7 : _ ≤ M 257 a ∧ M 257 a ≤ _ := tv hT (k := 257) (j := a) rfl
                  refine at_aload_n C 1 dX6_mostAlike_43 rfl ?_
                  refine at_iload C 5 dX6_mostAlike_44 rfl ?_
                  refine at_iald C b (ar_257 G) (rfl) (by omega) dX6_mostAlike_46 ?_
                  have hb8 : _ ≤ M 257 b ∧ M 257 b ≤ _ := tv hT (k := 257) (j := b) rfl
                  refine at_icmp_ne C 53 dX6_mostAlike_47 (by decide) (⟨by omega, by omega⟩) (⟨by omega, by omega⟩) (fun h9 => ?_) (fun h9 => ?_)
                  · refine at_iinc C 5 [(5, .int (sI ((b : Int) + 1))), (0, .int (sI ((m : Int)))), (1, .ref (G.1 (257))), (2, .int (sI (malN m (M 257) a))), (3, .int (sI ((a : Int)))), (4, .int (sI (cnt (fun b => alk m (M 257) a b) b)))] dX6_mostAlike_53 rfl (by decide) rfl ?_
                    refine at_goto C 16 dX6_mostAlike_56 (by decide) ?_
                    refine at_lv [1, 2, 3, 4, 5, 0] rfl ?_
                    exact at_eq (ih16 (b + 1) (by omega) (by omega)) (lvc_s (lvc_s (lvc_s (lvc_s (lvc_i (by rw [cnt_n (fun z => absurd (z.2.2) (by assumption))]) (lvc_i (by omega) rfl)))))) rfl (rfl) (rfl)
                  · refine at_iinc C 4 [(4, .int (sI ((cnt (fun b => alk m (M 257) a b) b) + 1))), (0, .int (sI ((m : Int)))), (1, .ref (G.1 (257))), (2, .int (sI (malN m (M 257) a))), (3, .int (sI ((a : Int)))), (5, .int (sI ((b : Int))))] dX6_mostAlike_50 rfl (by decide) rfl ?_
                    refine at_iinc C 5 [(5, .int (sI ((b : Int) + 1))), (4, .int (sI ((cnt (fun b => alk m (M 257) a b) b) + 1))), (0, .int (sI ((m : Int)))), (1, .ref (G.1 (257))), (2, .int (sI (malN m (M 257) a))), (3, .int (sI ((a : Int))))] dX6_mostAlike_53 rfl (by decide) rfl ?_
                    refine at_goto C 16 dX6_mostAlike_56 (by decide) ?_
                    refine at_lv [2, 3, 4, 5, 1, 0] rfl ?_
                    exact at_eq (ih16 (b + 1) (by omega) (by omega)) (lvc_s (lvc_s (lvc_s (lvc_s (lvc_i (by rw [cnt_y ⟨by assumption, by assumption, by assumption⟩]) (lvc_i (by omega) rfl)))))) rfl (rfl) (rfl)
        refine at_lv [2, 3, 4, 5, 1, 0] rfl ?_
        exact at_eq (H16 _ 0 (Nat.lt_succ_self _) (by omega)) (lvc_s (lvc_s (lvc_s (lvc_s (lvc_i (rfl) (lvc_i (rfl) rfl)))))) rfl (rfl) (rfl)
  refine at_lv [2, 3, 1, 0] rfl ?_
  exact at_eq (H4 _ 0 (Nat.lt_succ_self _) (by omega)) (lvc_s (lvc_s (lvc_i (rfl) (lvc_i (rfl) rfl)))) rfl (rfl) (rfl)
