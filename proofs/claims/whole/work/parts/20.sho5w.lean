theorem sw_n {n i : Nat} {h : Nat → Int} (z : ¬ (h i ≠ -1 ∧ h i ≠ i)) : swH n i h = h := if_neg z
theorem sw_y {n i : Nat} {h : Nat → Int} {M2 : sM} {j : Nat} (h1 : h i ≠ -1) (h2 : h i ≠ i) (hj : j = n) (hv : ∀ q, q < 6 → M2 257 q = swR n i h (h i) j q) : ∀ q, q < 6 → sSt M2 257 i i 257 q = swH n i h q := by
  intro q hq
  unfold swH
  rw [if_pos ⟨h1, h2⟩, sSt_at]
  by_cases e : q = i
  · rw [if_pos ⟨rfl, e⟩]
    exact (if_pos e).symm
  · rw [if_neg (fun z => e z.2), hv q hq, hj]
    exact (if_neg e).symm
theorem sw_ay {n i : Nat} {h : Nat → Int} {M2 : sM} {j : Nat} (hj : j < n) (hi : h j = i) (hv : ∀ q, q < 6 → M2 257 q = swR n i h (h i) j q) : ∀ q, q < 6 → sSt M2 257 j (h i) 257 q = swR n i h (h i) (j + 1) q := by
  intro q hq
  rw [sSt_at]
  unfold swR
  by_cases e : q = j
  · rw [if_pos ⟨rfl, e⟩, if_pos ⟨by omega, by omega, by rw [e]; exact hi⟩]
  · rw [if_neg (fun z => e z.2), hv q hq]
    unfold swR
    apply if_congr'
    constructor
    · intro z; exact ⟨by omega, z.2⟩
    · intro z; exact ⟨by omega, z.2⟩
theorem sw_an {n i : Nat} {h : Nat → Int} {M2 : sM} {j : Nat} (hi : h j ≠ i) (hv : ∀ q, q < 6 → M2 257 q = swR n i h (h i) j q) : ∀ q, q < 6 → M2 257 q = swR n i h (h i) (j + 1) q := by
  intro q hq
  rw [hv q hq]
  unfold swR
  apply if_congr'
  constructor
  · intro z; exact ⟨by omega, z.2⟩
  · intro z
    refine ⟨?_, z.2⟩
    rcases Nat.lt_succ_iff_lt_or_eq.mp z.1 with w | w
    · exact w
    · rw [w] at z; exact absurd z.2.2 hi
set_option maxHeartbeats 4000000 in
set_option maxRecDepth 100000 in
theorem c_X6_part (l : Launch) (D : va_G) (G : sG) {M : sM} {L : sL} (w : Int) (hwr : InR w) (hT : TInv M) (hc : sCt M) : sKl l D G yX6_part cX6_part 2 1 21 [.ref (G.1 (0)), .int (sI (w))] M L (fun r M' L' => r = rPart M w ∧ M' = mB M (w = 0 ∨ w = 1) ∧ TInv M' ∧ L = L') := by
  refine sKl_go (by decide) (Nat.le_of_ble_eq_true rfl) ?_
  intro zp ze zs zm za zb zt zc Q C hret
  refine at_eq (lv' := [(0, .ref (G.1 (0))), (1, .int (sI (w)))]) (st' := []) (M' := M) (L' := L) ?_ rfl rfl rfl rfl
  refine at_iload_n C 1 dX6_part_0 rfl ?_
  by_cases hs1 : w = 0
  · refine at_lsw C dX6_part_1 (⟨by omega, by omega⟩) 28 (off := 27) (by decide) (by rw [hs1]; rfl) (by decide) ?_
    refine at_aload_n C 0 dX6_part_28 rfl ?_
    refine at_getf (v := .int (sI (M 0 8))) C (obj_Sho G) (ci := 6) rfl inX6 (slot := 8) (by decide) qw_257 rfl rfl dX6_part_29 ?_
    have hb2 : _ ≤ M 0 8 ∧ M 0 8 ≤ _ := tv hT (k := 0) (j := 8) rfl
    refine at_i2l C dX6_part_32 ?_
    exact hret _ _ _ _ _ dX6_part_33 (⟨(if_pos (by omega)).symm, (if_pos (by omega)).symm, hT, rfl⟩)
  by_cases hs3 : w = 1
  · refine at_lsw C dX6_part_1 (⟨by omega, by omega⟩) 34 (off := 33) (by decide) (by rw [hs3]; rfl) (by decide) ?_
    refine at_aload_n C 0 dX6_part_34 rfl ?_
    refine at_getf (v := .int (sI (M 0 9))) C (obj_Sho G) (ci := 6) rfl inX6 (slot := 9) (by decide) qw_258 rfl rfl dX6_part_35 ?_
    have hb4 : _ ≤ M 0 9 ∧ M 0 9 ≤ _ := tv hT (k := 0) (j := 9) rfl
    refine at_i2l C dX6_part_38 ?_
    exact hret _ _ _ _ _ dX6_part_39 (⟨((if_neg (by omega)).trans (if_pos (by omega))).symm, (if_pos (by omega)).symm, hT, rfl⟩)
  refine at_lsw C dX6_part_1 (⟨by omega, by omega⟩) 40 (off := 39) (by decide) ((Op.lookupswitch.offset_cons 0 27 _ _ _).trans ((if_neg (by omega)).trans ((Op.lookupswitch.offset_cons 1 33 _ _ _).trans (if_neg (by omega))))) (by decide) ?_
  refine at_aload_n C 0 dX6_part_40 rfl ?_
  refine at_bipush C dX6_part_41 (by decide) (by decide) ?_
  refine at_call_i C (c_X6_refuseBad l D G (-2) hT ⟨by omega, by omega, by omega⟩) (As := [.int (sI (-2))]) (obj_Sho G) (ci := 6) rfl qw_311 qw_308 qw_1 qw_310 qp_0 ⟨by decide, by decide, show (parseMethodDescriptor yX6_refuseBad.desc).map (fun d => d.parameters.length) = some 1 by decide +kernel⟩ ⟨by decide, by decide⟩ ⟨Nat.zero_le _, Nat.zero_le _⟩ (Nat.le_of_ble_eq_true rfl) dX6_part_43 rfl (fun r M' L' hp6 => ?_)
  obtain ⟨rfl, rfl, hT5, rfl⟩ := hp6
  refine at_i2l C dX6_part_46 ?_
  exact hret _ _ _ _ _ dX6_part_47 (⟨((if_neg (by omega)).trans (if_neg (by omega))).symm, (if_neg (by omega)).symm, hT5, rfl⟩)

set_option maxHeartbeats 4000000 in
set_option maxRecDepth 100000 in
theorem c_X6_digest (l : Launch) (D : va_G) (G : sG) {M : sM} {L : sL} (hT : TInv M) : sKl l D G yX6_digest cX6_digest 5 3 67 [.ref (G.1 (0))] M L (fun r M' L' => r = dig M ∧ M = M' ∧ L = L') := by
  refine sKl_go (by decide) (Nat.le_of_ble_eq_true rfl) ?_
  intro zp ze zs zm za zb zt zc Q C hret
  refine at_eq (lv' := [(0, .ref (G.1 (0)))]) (st' := []) (M' := M) (L' := L) ?_ rfl rfl rfl rfl
  have hn := nS_r hT (Or.inl rfl)
  have hm := nC_r hT (Or.inl rfl)
  refine at_ldc2 C qw_865 dX6_digest_0 ?_
  refine at_lstore_n C [(1, .long (1613)), (0, .ref (G.1 (0)))] dX6_digest_3 (by decide) rfl ?_
  refine at_iconst C dX6_digest_4 ?_
  refine at_istore_n C [(3, .int (sI (0))), (1, .long (1613)), (0, .ref (G.1 (0)))] dX6_digest_5 (by decide) rfl ?_
  have H6 : ∀ (fu : Nat) (k1 : Nat), 11 - k1 < fu → (k1 ≤ 11) → sAt zp l ze (sRm 3 67) zs zm za zb zt zc D G 5 0 0 Q 6 [(0, .ref (G.1 (0))), (1, .long (mixR (fun w => rCount0 M w) k1 1613)), (3, .int (sI ((k1 : Int))))] [] M L := by
    intro fu
    induction fu with
    | zero => intro k1 hd hk1; exact absurd hd (Nat.not_lt_zero _)
    | succ fu ih6 =>
      intro k1 hd6 hk1
      refine at_iload_n C 2 dX6_digest_6 rfl ?_
      refine at_bipush C dX6_digest_7 (by decide) (by decide) ?_
      refine at_icmp_ge C 31 dX6_digest_9 (by decide) (⟨by omega, by omega⟩) (⟨by omega, by omega⟩) (fun h1 => ?_) (fun h1 => ?_)
      · refine at_iconst C dX6_digest_31 ?_
        refine at_istore_n C [(3, .int (sI (0))), (0, .ref (G.1 (0))), (1, .long (mixR (fun w => rCount0 M w) k1 1613))] dX6_digest_32 (by decide) rfl ?_
        have H33 : ∀ (fu : Nat) (k2 : Nat), 12 - k2 < fu → (k2 ≤ 12) → sAt zp l ze (sRm 3 67) zs zm za zb zt zc D G 5 0 0 Q 33 [(0, .ref (G.1 (0))), (1, .long (mixR (M 2) k2 (mixR (fun w => rCount0 M w) 11 1613))), (3, .int (sI ((k2 : Int))))] [] M L := by
          intro fu
          induction fu with
          | zero => intro k2 hd hk2; exact absurd hd (Nat.not_lt_zero _)
          | succ fu ih33 =>
            intro k2 hd33 hk2
            refine at_iload_n C 2 dX6_digest_33 rfl ?_
            refine at_bipush C dX6_digest_34 (by decide) (by decide) ?_
            refine at_icmp_ge C 62 dX6_digest_36 (by decide) (⟨by omega, by omega⟩) (⟨by omega, by omega⟩) (fun h2 => ?_) (fun h2 => ?_)
            · refine at_iconst C dX6_digest_62 ?_
              refine at_istore_n C [(3, .int (sI (0))), (0, .ref (G.1 (0))), (1, .long (mixR (M 2) k2 (mixR (fun w => rCount0 M w) 11 1613)))] dX6_digest_63 (by decide) rfl ?_
              have H64 : ∀ (fu : Nat) (k3 : Nat), nS M 1 - k3 < fu → (k3 ≤ nS M 1) → sAt zp l ze (sRm 3 67) zs zm za zb zt zc D G 5 0 0 Q 64 [(0, .ref (G.1 (0))), (1, .long (dgS M k3 (mixR (M 2) 12 (mixR (fun w => rCount0 M w) 11 1613)))), (3, .int (sI ((k3 : Int))))] [] M L := by
                intro fu
                induction fu with
                | zero => intro k3 hd hk3; exact absurd hd (Nat.not_lt_zero _)
                | succ fu ih64 =>
                  intro k3 hd64 hk3
                  refine at_iload_n C 2 dX6_digest_64 rfl ?_
                  refine at_aload_n C 0 dX6_digest_65 rfl ?_
                  refine at_getf (v := .ref (G.1 (1))) C (obj_Sho G) (ci := 6) rfl inX6 (slot := 0) (by decide) qw_249 rfl rfl dX6_digest_66 ?_
                  refine at_getf (v := .int (sI (M 1 9))) C (obj_Bea G (Or.inl rfl)) (ci := 0) rfl inX0 (slot := 9) (by decide) qw_104 rfl rfl dX6_digest_69 ?_
                  have hb3 : _ ≤ M 1 9 ∧ M 1 9 ≤ _ := tv_souls hT (Or.inl rfl)
                  refine at_icmp_ge C 114 dX6_digest_72 (by decide) (⟨by omega, by omega⟩) (⟨by omega, by omega⟩) (fun h4 => ?_) (fun h4 => ?_)
                  · refine at_iconst C dX6_digest_114 ?_
                    refine at_istore_n C [(3, .int (sI (0))), (0, .ref (G.1 (0))), (1, .long (dgS M k3 (mixR (M 2) 12 (mixR (fun w => rCount0 M w) 11 1613))))] dX6_digest_115 (by decide) rfl ?_
                    have H116 : ∀ (fu : Nat) (k5 : Nat), nC M 1 - k5 < fu → (k5 ≤ nC M 1) → sAt zp l ze (sRm 3 67) zs zm za zb zt zc D G 5 0 0 Q 116 [(0, .ref (G.1 (0))), (1, .long (mixR (M 5) k5 (dgS M (nS M 1) (mixR (M 2) 12 (mixR (fun w => rCount0 M w) 11 1613))))), (3, .int (sI ((k5 : Int))))] [] M L := by
                      intro fu
                      induction fu with
                      | zero => intro k5 hd hk5; exact absurd hd (Nat.not_lt_zero _)
                      | succ fu ih116 =>
                        intro k5 hd116 hk5
                        refine at_iload_n C 2 dX6_digest_116 rfl ?_
                        refine at_aload_n C 0 dX6_digest_117 rfl ?_
                        refine at_getf (v := .ref (G.1 (1))) C (obj_Sho G) (ci := 6) rfl inX6 (slot := 0) (by decide) qw_249 rfl rfl dX6_digest_118 ?_
                        refine at_getf (v := .int (sI (M 1 10))) C (obj_Bea G (Or.inl rfl)) (ci := 0) rfl inX0 (slot := 10) (by decide) qw_111 rfl rfl dX6_digest_121 ?_
                        have hb5 : _ ≤ M 1 10 ∧ M 1 10 ≤ _ := tv_callers hT (Or.inl rfl)
                        refine at_icmp_ge C 150 dX6_digest_124 (by decide) (⟨by omega, by omega⟩) (⟨by omega, by omega⟩) (fun h6 => ?_) (fun h6 => ?_)
                        · refine at_aload_n C 0 dX6_digest_150 rfl ?_
                          refine at_getf (v := .ref (G.1 (1))) C (obj_Sho G) (ci := 6) rfl inX6 (slot := 0) (by decide) qw_249 rfl rfl dX6_digest_151 ?_
                          refine at_getf (v := .ref (G.1 (11))) C (obj_Bea G (Or.inl rfl)) (ci := 0) rfl inX0 (slot := 6) (by decide) qw_99 rfl rfl dX6_digest_154 ?_
                          refine at_lload_n C 1 dX6_digest_157 rfl ?_
                          refine at_call_l C (c_X4_mixInto_sgn l D G (Or.inl rfl) hT (mixR (M 5) k5 (dgS M (nS M 1) (mixR (M 2) 12 (mixR (fun w => rCount0 M w) 11 1613))))) (As := [.long (mixR (M 5) k5 (dgS M (nS M 1) (mixR (M 2) 12 (mixR (fun w => rCount0 M w) 11 1613))))]) ((isTa_sig G (Or.inl rfl)).1) (ci := 4) rfl qw_870 qw_867 qw_4 qw_868 qw_869 ⟨by decide, by decide, show (parseMethodDescriptor yX4_mixInto.desc).map (fun d => d.parameters.length) = some 1 by decide +kernel⟩ ⟨by decide, by decide⟩ ⟨Nat.zero_le _, Nat.zero_le _⟩ (Nat.le_of_ble_eq_true rfl) dX6_digest_158 rfl (fun r M' L' hp7 => ?_)
                          obtain ⟨rfl, rfl, rfl⟩ := hp7
                          refine at_lstore_n C [(1, .long (mixR (M 12) ((M 11 3).toNat * 2) (mixR (M 5) k5 (dgS M (nS M 1) (mixR (M 2) 12 (mixR (fun w => rCount0 M w) 11 1613)))))), (0, .ref (G.1 (0))), (3, .int (sI ((k5 : Int))))] dX6_digest_161 (by decide) rfl ?_
                          refine at_aload_n C 1 dX6_digest_162 rfl ?_
                          refine at_getf (v := .ref (G.1 (1))) C (obj_Sho G) (ci := 6) rfl inX6 (slot := 0) (by decide) qw_249 rfl rfl dX6_digest_163 ?_
                          refine at_getf (v := .ref (G.1 (13))) C (obj_Bea G (Or.inl rfl)) (ci := 0) rfl inX0 (slot := 7) (by decide) qw_101 rfl rfl dX6_digest_166 ?_
                          refine at_lload_n C 0 dX6_digest_169 rfl ?_
                          refine at_call_l C (c_X4_mixInto_ntn l D G (Or.inl rfl) hT (mixR (M 12) ((M 11 3).toNat * 2) (mixR (M 5) k5 (dgS M (nS M 1) (mixR (M 2) 12 (mixR (fun w => rCount0 M w) 11 1613)))))) (As := [.long (mixR (M 12) ((M 11 3).toNat * 2) (mixR (M 5) k5 (dgS M (nS M 1) (mixR (M 2) 12 (mixR (fun w => rCount0 M w) 11 1613)))))]) ((isTa_not G (Or.inl rfl)).1) (ci := 4) rfl qw_870 qw_867 qw_4 qw_868 qw_869 ⟨by decide, by decide, show (parseMethodDescriptor yX4_mixInto.desc).map (fun d => d.parameters.length) = some 1 by decide +kernel⟩ ⟨by decide, by decide⟩ ⟨Nat.zero_le _, Nat.zero_le _⟩ (Nat.le_of_ble_eq_true rfl) dX6_digest_170 rfl (fun r M' L' hp8 => ?_)
                          obtain ⟨rfl, rfl, rfl⟩ := hp8
                          refine at_lstore_n C [(1, .long (mixR (M 14) ((M 13 3).toNat * 4) (mixR (M 12) ((M 11 3).toNat * 2) (mixR (M 5) k5 (dgS M (nS M 1) (mixR (M 2) 12 (mixR (fun w => rCount0 M w) 11 1613))))))), (0, .ref (G.1 (0))), (3, .int (sI ((k5 : Int))))] dX6_digest_173 (by decide) rfl ?_
                          refine at_aload_n C 1 dX6_digest_174 rfl ?_
                          refine at_getf (v := .ref (G.1 (1))) C (obj_Sho G) (ci := 6) rfl inX6 (slot := 0) (by decide) qw_249 rfl rfl dX6_digest_175 ?_
                          refine at_getf (v := .ref (G.1 (15))) C (obj_Bea G (Or.inl rfl)) (ci := 0) rfl inX0 (slot := 8) (by decide) qw_103 rfl rfl dX6_digest_178 ?_
                          refine at_lload_n C 0 dX6_digest_181 rfl ?_
                          refine at_call_l C (c_X4_mixInto_mkn l D G (Or.inl rfl) hT (mixR (M 14) ((M 13 3).toNat * 4) (mixR (M 12) ((M 11 3).toNat * 2) (mixR (M 5) k5 (dgS M (nS M 1) (mixR (M 2) 12 (mixR (fun w => rCount0 M w) 11 1613))))))) (As := [.long (mixR (M 14) ((M 13 3).toNat * 4) (mixR (M 12) ((M 11 3).toNat * 2) (mixR (M 5) k5 (dgS M (nS M 1) (mixR (M 2) 12 (mixR (fun w => rCount0 M w) 11 1613))))))]) ((isTa_mar G (Or.inl rfl)).1) (ci := 4) rfl qw_870 qw_867 qw_4 qw_868 qw_869 ⟨by decide, by decide, show (parseMethodDescriptor yX4_mixInto.desc).map (fun d => d.parameters.length) = some 1 by decide +kernel⟩ ⟨by decide, by decide⟩ ⟨Nat.zero_le _, Nat.zero_le _⟩ (Nat.le_of_ble_eq_true rfl) dX6_digest_182 rfl (fun r M' L' hp9 => ?_)
                          obtain ⟨rfl, rfl, rfl⟩ := hp9
                          refine at_lstore_n C [(1, .long (mixR (M 16) ((M 15 3).toNat * 3) (mixR (M 14) ((M 13 3).toNat * 4) (mixR (M 12) ((M 11 3).toNat * 2) (mixR (M 5) k5 (dgS M (nS M 1) (mixR (M 2) 12 (mixR (fun w => rCount0 M w) 11 1613)))))))), (0, .ref (G.1 (0))), (3, .int (sI ((k5 : Int))))] dX6_digest_185 (by decide) rfl ?_
                          refine at_ldc2 C qw_866 dX6_digest_186 ?_
                          refine at_lload_n C 0 dX6_digest_189 rfl ?_
                          refine at_lmul C dX6_digest_190 ?_
                          refine at_aload_n C 1 dX6_digest_191 rfl ?_
                          refine at_getf (v := .int (sI (M 0 8))) C (obj_Sho G) (ci := 6) rfl inX6 (slot := 8) (by decide) qw_257 rfl rfl dX6_digest_192 ?_
                          have hb10 : _ ≤ M 0 8 ∧ M 0 8 ≤ _ := tv hT (k := 0) (j := 8) rfl
                          refine at_i2l C dX6_digest_195 ?_
                          refine at_ladd C dX6_digest_196 ?_
                          refine at_lstore_n C [(1, .long ((31 * (mixR (M 16) ((M 15 3).toNat * 3) (mixR (M 14) ((M 13 3).toNat * 4) (mixR (M 12) ((M 11 3).toNat * 2) (mixR (M 5) k5 (dgS M (nS M 1) (mixR (M 2) 12 (mixR (fun w => rCount0 M w) 11 1613)))))))) + (((sI (M 0 8))).toInt64))), (0, .ref (G.1 (0))), (3, .int (sI ((k5 : Int))))] dX6_digest_197 (by decide) rfl ?_
                          refine at_ldc2 C qw_866 dX6_digest_198 ?_
                          refine at_lload_n C 0 dX6_digest_201 rfl ?_
                          refine at_lmul C dX6_digest_202 ?_
                          refine at_aload_n C 1 dX6_digest_203 rfl ?_
                          refine at_getf (v := .int (sI (M 0 9))) C (obj_Sho G) (ci := 6) rfl inX6 (slot := 9) (by decide) qw_258 rfl rfl dX6_digest_204 ?_
                          have hb11 : _ ≤ M 0 9 ∧ M 0 9 ≤ _ := tv hT (k := 0) (j := 9) rfl
                          refine at_i2l C dX6_digest_207 ?_
                          refine at_ladd C dX6_digest_208 ?_
                          exact hret _ _ _ _ _ dX6_digest_209 (⟨by rw [show k5 = nC M 1 by omega]; rfl, rfl, rfl⟩)
                        · refine at_ldc2 C qw_866 dX6_digest_127 ?_
                          refine at_lload_n C 1 dX6_digest_130 rfl ?_
                          refine at_lmul C dX6_digest_131 ?_
                          refine at_aload_n C 0 dX6_digest_132 rfl ?_
                          refine at_getf (v := .ref (G.1 (1))) C (obj_Sho G) (ci := 6) rfl inX6 (slot := 0) (by decide) qw_249 rfl rfl dX6_digest_133 ?_
                          refine at_getf (v := .ref (G.1 (5))) C (obj_Bea G (Or.inl rfl)) (ci := 0) rfl inX0 (slot := 3) (by decide) qw_92 rfl rfl dX6_digest_136 ?_
                          refine at_iload_n C 2 dX6_digest_139 rfl ?_
                          refine at_iald C k5 (arI_ck G (Or.inl rfl)) (rfl) (by omega) dX6_digest_140 ?_
                          have hb12 : _ ≤ M 5 k5 ∧ M 5 k5 ≤ _ := tv_ck hT (Or.inl rfl) k5
                          refine at_i2l C dX6_digest_141 ?_
                          refine at_ladd C dX6_digest_142 ?_
                          refine at_lstore_n C [(1, .long ((31 * (mixR (M 5) k5 (dgS M (nS M 1) (mixR (M 2) 12 (mixR (fun w => rCount0 M w) 11 1613))))) + (((sI (M 5 k5))).toInt64))), (0, .ref (G.1 (0))), (3, .int (sI ((k5 : Int))))] dX6_digest_143 (by decide) rfl ?_
                          refine at_iinc C 2 [(3, .int (sI ((k5 : Int) + 1))), (1, .long ((31 * (mixR (M 5) k5 (dgS M (nS M 1) (mixR (M 2) 12 (mixR (fun w => rCount0 M w) 11 1613))))) + (((sI (M 5 k5))).toInt64))), (0, .ref (G.1 (0)))] dX6_digest_144 rfl (by decide) rfl ?_
                          refine at_goto C 116 dX6_digest_147 (by decide) ?_
                          refine at_lv [2, 1, 0] rfl ?_
                          exact at_eq (ih116 (k5 + 1) (by omega) (by omega)) (lvc_s (lvc_l (rfl) (lvc_i (by omega) rfl))) rfl (rfl) (rfl)
                    refine at_lv [1, 2, 0] rfl ?_
                    exact at_eq (H116 _ 0 (Nat.lt_succ_self _) (by omega)) (lvc_s (lvc_l (by rw [show k3 = nS M 1 by omega]; rfl) (lvc_i (rfl) rfl))) rfl (rfl) (rfl)
                  · refine at_iconst C dX6_digest_75 ?_
                    refine at_istore C [(4, .int (sI (0))), (0, .ref (G.1 (0))), (1, .long (dgS M k3 (mixR (M 2) 12 (mixR (fun w => rCount0 M w) 11 1613)))), (3, .int (sI ((k3 : Int))))] dX6_digest_76 (by decide) rfl ?_
                    have H78 : ∀ (fu : Nat) (k4 : Nat), 5 - k4 < fu → (k4 ≤ 5) → sAt zp l ze (sRm 3 67) zs zm za zb zt zc D G 5 0 0 Q 78 [(0, .ref (G.1 (0))), (1, .long (mixR (fun w => bFact M 1 k3 w) k4 (dgS M k3 (mixR (M 2) 12 (mixR (fun w => rCount0 M w) 11 1613))))), (3, .int (sI ((k3 : Int)))), (4, .int (sI ((k4 : Int))))] [] M L := by
                      intro fu
                      induction fu with
                      | zero => intro k4 hd hk4; exact absurd hd (Nat.not_lt_zero _)
                      | succ fu ih78 =>
                        intro k4 hd78 hk4
                        refine at_iload C 3 dX6_digest_78 rfl ?_
                        refine at_iconst C dX6_digest_80 ?_
                        refine at_icmp_gt C 108 dX6_digest_81 (by decide) (⟨by omega, by omega⟩) (⟨by omega, by omega⟩) (fun h13 => ?_) (fun h13 => ?_)
                        · refine at_iinc C 2 [(3, .int (sI ((k3 : Int) + 1))), (0, .ref (G.1 (0))), (1, .long (mixR (fun w => bFact M 1 k3 w) k4 (dgS M k3 (mixR (M 2) 12 (mixR (fun w => rCount0 M w) 11 1613))))), (4, .int (sI ((k4 : Int))))] dX6_digest_108 rfl (by decide) rfl ?_
                          refine at_goto C 64 dX6_digest_111 (by decide) ?_
                          refine at_lv [1, 2, 0] rfl ?_
                          exact at_eq (ih64 (k3 + 1) (by omega) (by omega)) (lvc_s (lvc_l (by rw [show k4 = 5 by omega]; rfl) (lvc_i (by omega) rfl))) rfl (rfl) (rfl)
                        · refine at_ldc2 C qw_866 dX6_digest_84 ?_
                          refine at_lload_n C 1 dX6_digest_87 rfl ?_
                          refine at_lmul C dX6_digest_88 ?_
                          refine at_aload_n C 0 dX6_digest_89 rfl ?_
                          refine at_getf (v := .ref (G.1 (1))) C (obj_Sho G) (ci := 6) rfl inX6 (slot := 0) (by decide) qw_249 rfl rfl dX6_digest_90 ?_
                          refine at_iload_n C 2 dX6_digest_93 rfl ?_
                          refine at_iload C 3 dX6_digest_94 rfl ?_
                          refine at_call_i C (c_X0_soulFact l D G (Or.inl rfl) hT k3 (by omega) (k4 : Int) ⟨by omega, by omega⟩) (As := [.int (sI ((k3 : Int))), .int (sI ((k4 : Int)))]) (obj_Bea G (Or.inl rfl)) (ci := 0) rfl qw_606 qw_603 qw_2 qw_604 qw_605 ⟨by decide, by decide, show (parseMethodDescriptor yX0_soulFact.desc).map (fun d => d.parameters.length) = some 2 by decide +kernel⟩ ⟨by decide, by decide⟩ ⟨Nat.zero_le _, Nat.zero_le _⟩ (Nat.le_of_ble_eq_true rfl) dX6_digest_96 rfl (fun r M' L' hp14 => ?_)
                          obtain ⟨rfl, rfl, rfl⟩ := hp14
                          refine at_ve (b := bFact M 1 k3 (k4 : Int)) rfl ?_
                          refine at_i2l C dX6_digest_99 ?_
                          refine at_ladd C dX6_digest_100 ?_
                          refine at_lstore_n C [(1, .long ((31 * (mixR (fun w => bFact M 1 k3 w) k4 (dgS M k3 (mixR (M 2) 12 (mixR (fun w => rCount0 M w) 11 1613))))) + (((sI (bFact M 1 k3 (k4 : Int)))).toInt64))), (0, .ref (G.1 (0))), (3, .int (sI ((k3 : Int)))), (4, .int (sI ((k4 : Int))))] dX6_digest_101 (by decide) rfl ?_
                          refine at_iinc C 3 [(4, .int (sI ((k4 : Int) + 1))), (1, .long ((31 * (mixR (fun w => bFact M 1 k3 w) k4 (dgS M k3 (mixR (M 2) 12 (mixR (fun w => rCount0 M w) 11 1613))))) + (((sI (bFact M 1 k3 (k4 : Int)))).toInt64))), (0, .ref (G.1 (0))), (3, .int (sI ((k3 : Int))))] dX6_digest_102 rfl (by decide) rfl ?_
                          refine at_goto C 78 dX6_digest_105 (by decide) ?_
                          refine at_lv [2, 1, 3, 0] rfl ?_
                          exact at_eq (ih78 (k4 + 1) (by omega) (by omega)) (lvc_s (lvc_l (rfl) (lvc_s (lvc_i (by omega) rfl)))) rfl (rfl) (rfl)
                    refine at_lv [1, 2, 3, 0] rfl ?_
                    exact at_eq (H78 _ 0 (Nat.lt_succ_self _) (by omega)) (lvc_s (lvc_l (rfl) (lvc_s (lvc_i (rfl) rfl)))) rfl (rfl) (rfl)
              refine at_lv [1, 2, 0] rfl ?_
              exact at_eq (H64 _ 0 (Nat.lt_succ_self _) (by omega)) (lvc_s (lvc_l (by rw [show k2 = 12 by omega]; rfl) (lvc_i (rfl) rfl))) rfl (rfl) (rfl)
            · refine at_ldc2 C qw_866 dX6_digest_39 ?_
              refine at_lload_n C 1 dX6_digest_42 rfl ?_
              refine at_lmul C dX6_digest_43 ?_
              refine at_aload_n C 0 dX6_digest_44 rfl ?_
              refine at_getf (v := .ref (G.1 (1))) C (obj_Sho G) (ci := 6) rfl inX6 (slot := 0) (by decide) qw_249 rfl rfl dX6_digest_45 ?_
              refine at_getf (v := .ref (G.1 (2))) C (obj_Bea G (Or.inl rfl)) (ci := 0) rfl inX0 (slot := 0) (by decide) qw_86 rfl rfl dX6_digest_48 ?_
              refine at_iload_n C 2 dX6_digest_51 rfl ?_
              refine at_iald C k2 (arI_cur G (Or.inl rfl)) (rfl) (by omega) dX6_digest_52 ?_
              have hb15 : _ ≤ M 2 k2 ∧ M 2 k2 ≤ _ := tv_cur hT (Or.inl rfl) k2
              refine at_i2l C dX6_digest_53 ?_
              refine at_ladd C dX6_digest_54 ?_
              refine at_lstore_n C [(1, .long ((31 * (mixR (M 2) k2 (mixR (fun w => rCount0 M w) 11 1613))) + (((sI (M 2 k2))).toInt64))), (0, .ref (G.1 (0))), (3, .int (sI ((k2 : Int))))] dX6_digest_55 (by decide) rfl ?_
              refine at_iinc C 2 [(3, .int (sI ((k2 : Int) + 1))), (1, .long ((31 * (mixR (M 2) k2 (mixR (fun w => rCount0 M w) 11 1613))) + (((sI (M 2 k2))).toInt64))), (0, .ref (G.1 (0)))] dX6_digest_56 rfl (by decide) rfl ?_
              refine at_goto C 33 dX6_digest_59 (by decide) ?_
              refine at_lv [2, 1, 0] rfl ?_
              exact at_eq (ih33 (k2 + 1) (by omega) (by omega)) (lvc_s (lvc_l (rfl) (lvc_i (by omega) rfl))) rfl (rfl) (rfl)
        refine at_lv [1, 2, 0] rfl ?_
        exact at_eq (H33 _ 0 (Nat.lt_succ_self _) (by omega)) (lvc_s (lvc_l (by rw [show k1 = 11 by omega]; rfl) (lvc_i (rfl) rfl))) rfl (rfl) (rfl)
      · refine at_ldc2 C qw_866 dX6_digest_12 ?_
        refine at_lload_n C 1 dX6_digest_15 rfl ?_
        refine at_lmul C dX6_digest_16 ?_
        refine at_aload_n C 0 dX6_digest_17 rfl ?_
        refine at_iload_n C 2 dX6_digest_18 rfl ?_
        refine at_call_i C (c_X6_counted l D G (k1 : Int) ⟨by omega, by omega⟩ hT) (As := [.int (sI ((k1 : Int)))]) (obj_Sho G) (ci := 6) rfl qw_856 qw_853 qw_1 qw_855 qp_31 ⟨by decide, by decide, show (parseMethodDescriptor yX6_counted.desc).map (fun d => d.parameters.length) = some 1 by decide +kernel⟩ ⟨by decide, by decide⟩ ⟨Nat.zero_le _, Nat.zero_le _⟩ (Nat.le_of_ble_eq_true rfl) dX6_digest_19 rfl (fun r M' L' hp16 => ?_)
        obtain ⟨rfl, rfl, rfl⟩ := hp16
        refine at_i2l C dX6_digest_22 ?_
        refine at_ladd C dX6_digest_23 ?_
        refine at_lstore_n C [(1, .long ((31 * (mixR (fun w => rCount0 M w) k1 1613)) + (((sI (rCount0 M (k1 : Int)))).toInt64))), (0, .ref (G.1 (0))), (3, .int (sI ((k1 : Int))))] dX6_digest_24 (by decide) rfl ?_
        refine at_iinc C 2 [(3, .int (sI ((k1 : Int) + 1))), (1, .long ((31 * (mixR (fun w => rCount0 M w) k1 1613)) + (((sI (rCount0 M (k1 : Int)))).toInt64))), (0, .ref (G.1 (0)))] dX6_digest_25 rfl (by decide) rfl ?_
        refine at_goto C 6 dX6_digest_28 (by decide) ?_
        refine at_lv [2, 1, 0] rfl ?_
        exact at_eq (ih6 (k1 + 1) (by omega) (by omega)) (lvc_s (lvc_l (rfl) (lvc_i (by omega) rfl))) rfl (rfl) (rfl)
  refine at_lv [2, 1, 0] rfl ?_
  exact at_eq (H6 _ 0 (Nat.lt_succ_self _) (by omega)) (lvc_s (lvc_l (rfl) (lvc_i (rfl) rfl))) rfl (rfl) (rfl)

set_option maxHeartbeats 4000000 in
set_option maxRecDepth 100000 in
theorem c_X6_swaps (l : Launch) (D : va_G) (G : sG) {M : sM} {L : sL} (hT : TInv M) (hc : sCt M) : sKi l D G yX6_swaps cX6_swaps 7 .int 1 40 [.ref (G.1 (0))] M L (fun r M' L' => r = sI (rSwaps M) ∧ (∀ c, c ≠ 257 → M' c = M c) ∧ TInv M' ∧ L = L') := by
  refine sKi_go (by decide) (Nat.le_of_ble_eq_true rfl) ?_
  intro zp ze zs zm za zb zt zc Q C hret
  refine at_eq (lv' := [(0, .ref (G.1 (0)))]) (st' := []) (M' := M) (L' := L) ?_ rfl rfl rfl rfl
  have hn := nS_r hT (Or.inl rfl)
  have hm := nC_r hT (Or.inl rfl)
  refine at_aload_n C 0 dX6_swaps_0 rfl ?_
  refine at_getf (v := .ref (G.1 (257))) C (obj_Sho G) (ci := 6) rfl inX6 (slot := 7) (by decide) qw_256 rfl rfl dX6_swaps_1 ?_
  refine at_astore_n C [(1, .ref (G.1 (257))), (0, .ref (G.1 (0)))] dX6_swaps_4 (by decide) rfl ?_
  refine at_aload_n C 1 dX6_swaps_5 rfl ?_
  refine at_getf (v := .ref (G.1 (1))) C (obj_Sho G) (ci := 6) rfl inX6 (slot := 0) (by decide) qw_249 rfl rfl dX6_swaps_6 ?_
  refine at_getf (v := .ref (G.1 (6))) C (obj_Bea G (Or.inl rfl)) (ci := 0) rfl inX0 (slot := 4) (by decide) qw_95 rfl rfl dX6_swaps_9 ?_
  refine at_getf (v := .ref (G.1 (8))) C ((isMo_now G (Or.inl rfl)).1) (ci := 1) rfl inX1 (slot := 1) (by decide) qw_42 rfl rfl dX6_swaps_12 ?_
  refine at_iconst C dX6_swaps_15 ?_
  refine at_aload_n C 0 dX6_swaps_16 rfl ?_
  refine at_iconst C dX6_swaps_17 ?_
  refine at_bipush C dX6_swaps_18 (by decide) (by decide) ?_
  refine at_copyI C 0 0 6 qw_717 (arI_hold G (Or.inl rfl)) (ar_257 G) (rfl) (rfl) (rfl) (by omega) (by omega) ⟨by decide, Nat.le_of_ble_eq_true rfl⟩ dX6_swaps_20 ?_
  have hT1 : TInv (sCpy M 8 257 0 0 6) := tvc_8 (hT)
  refine at_iconst C dX6_swaps_23 ?_
  refine at_istore_n C [(2, .int (sI (0))), (1, .ref (G.1 (257))), (0, .ref (G.1 (0)))] dX6_swaps_24 (by decide) rfl ?_
  refine at_aload_n C 2 dX6_swaps_25 rfl ?_
  refine at_getf (v := .ref (G.1 (1))) C (obj_Sho G) (ci := 6) rfl inX6 (slot := 0) (by decide) qw_249 rfl rfl dX6_swaps_26 ?_
  refine at_getf (v := .int (sI ((sCpy M 8 257 0 0 6) 1 9))) C (obj_Bea G (Or.inl rfl)) (ci := 0) rfl inX0 (slot := 9) (by decide) qw_104 rfl rfl dX6_swaps_29 ?_
  have hb2 := tv_souls hT1 (Or.inl rfl)
  refine at_aload_n C 2 dX6_swaps_32 rfl ?_
  refine at_getf (v := .ref (G.1 (1))) C (obj_Sho G) (ci := 6) rfl inX6 (slot := 0) (by decide) qw_249 rfl rfl dX6_swaps_33 ?_
  refine at_getf (v := .int (sI ((sCpy M 8 257 0 0 6) 1 10))) C (obj_Bea G (Or.inl rfl)) (ci := 0) rfl inX0 (slot := 10) (by decide) qw_111 rfl rfl dX6_swaps_36 ?_
  have hb3 := tv_callers hT1 (Or.inl rfl)
  refine at_mmin C qw_718 (⟨by omega, by omega⟩) (⟨by omega, by omega⟩) ⟨by decide, Nat.le_of_ble_eq_true rfl⟩ ⟨Nat.zero_le _, Nat.zero_le _⟩ dX6_swaps_39 ?_
  refine at_istore_n C [(3, .int (sI (min ((sCpy M 8 257 0 0 6) 1 9) ((sCpy M 8 257 0 0 6) 1 10)))), (2, .int (sI (0))), (1, .ref (G.1 (257))), (0, .ref (G.1 (0)))] dX6_swaps_42 (by decide) rfl ?_
  refine at_iconst C dX6_swaps_43 ?_
  refine at_istore C [(4, .int (sI (0))), (3, .int (sI (min ((sCpy M 8 257 0 0 6) 1 9) ((sCpy M 8 257 0 0 6) 1 10)))), (2, .int (sI (0))), (1, .ref (G.1 (257))), (0, .ref (G.1 (0)))] dX6_swaps_44 (by decide) rfl ?_
  have H46 : ∀ (fu : Nat) (i : Nat) (M1 : sM), min (nS M 1) (nC M 1) - i < fu → (i ≤ min (nS M 1) (nC M 1)) → (TInv M1) → ((∀ c, c ≠ 257 → M1 c = M c)) → (∀ q, q < 6 → M1 257 q = (swN (nS M 1) (M 8) i) q) → sAt zp l ze (sRm 1 40) zs zm za zb zt zc D G 7 0 0 Q 46 [(0, .ref (G.1 (0))), (1, .ref (G.1 (257))), (2, .int (sI (swC (nS M 1) (M 8) i))), (3, .int (sI (min (M 1 9) (M 1 10)))), (4, .int (sI ((i : Int))))] [] M1 L := by
    intro fu
    induction fu with
    | zero => intro i M1 hd hi hT1 hf1 hv1; exact absurd hd (Nat.not_lt_zero _)
    | succ fu ih46 =>
      intro i M1 hd46 hi hT1 hf1 hv1
      refine at_iload C 4 dX6_swaps_46 rfl ?_
      refine at_iload_n C 3 dX6_swaps_48 rfl ?_
      refine at_icmp_ge C 122 dX6_swaps_49 (by decide) (⟨by omega, by omega⟩) (⟨by omega, by omega⟩) (fun h4 => ?_) (fun h4 => ?_)
      · refine at_iload_n C 2 dX6_swaps_122 rfl ?_
        exact hret _ _ _ _ _ dX6_swaps_123 (⟨congrArg sI (by unfold rSwaps; rw [show min (nS M 1) (nC M 1) = i by omega]), hf1, hT1, rfl⟩)
      · refine at_aload_n C 1 dX6_swaps_52 rfl ?_
        refine at_iload C 4 dX6_swaps_53 rfl ?_
        refine at_iald C i (ar_257 G) (rfl) (by omega) dX6_swaps_55 ?_
        have hb5 := tv hT1 (k := 257) (j := i) rfl
        refine at_ve (b := (swN (nS M 1) (M 8) i) i) (hv1 i (by omega)) ?_
        have hsw : _ ≤ (swN (nS M 1) (M 8) i) i ∧ (swN (nS M 1) (M 8) i) i ≤ _ := (hv1 i (by omega)) ▸ (tv hT1 (k := 257) (j := i) rfl)
        refine at_istore C [(5, .int (sI ((swN (nS M 1) (M 8) i) i))), (0, .ref (G.1 (0))), (1, .ref (G.1 (257))), (2, .int (sI (swC (nS M 1) (M 8) i))), (3, .int (sI (min (M 1 9) (M 1 10)))), (4, .int (sI ((i : Int))))] dX6_swaps_56 (by decide) rfl ?_
        refine at_iload C 0 dX6_swaps_58 rfl ?_
        refine at_iconst C dX6_swaps_60 ?_
        refine at_icmp_eq C 116 dX6_swaps_61 (by decide) (⟨by omega, by omega⟩) (⟨by omega, by omega⟩) (fun h6 => ?_) (fun h6 => ?_)
        · refine at_iinc C 5 [(4, .int (sI ((i : Int) + 1))), (5, .int (sI ((swN (nS M 1) (M 8) i) i))), (0, .ref (G.1 (0))), (1, .ref (G.1 (257))), (2, .int (sI (swC (nS M 1) (M 8) i))), (3, .int (sI (min (M 1 9) (M 1 10))))] dX6_swaps_116 rfl (by decide) rfl ?_
          refine at_goto C 46 dX6_swaps_119 (by decide) ?_
          refine at_lv [2, 3, 4, 5, 0] rfl ?_
          exact at_eq (ih46 (i + 1) M1 (by omega) (by omega) (hT1) (hf1) (fun q hq => by show _ = swH _ _ _ q; rw [sw_n (fun z => by have z1 := z.1; have z2 := z.2; omega)]; exact hv1 q hq)) (lvc_s (lvc_s (lvc_i (by show _ = swC _ _ i + _; rw [if_neg (fun z => by have z1 := z.1; have z2 := z.2; omega), Int.add_zero]) (lvc_s (lvc_i (by omega) rfl))))) rfl (rfl) (rfl)
        · refine at_iload C 0 dX6_swaps_64 rfl ?_
          refine at_iload C 5 dX6_swaps_66 rfl ?_
          refine at_icmp_eq C 116 dX6_swaps_68 (by decide) (⟨by omega, by omega⟩) (⟨by omega, by omega⟩) (fun h7 => ?_) (fun h7 => ?_)
          · refine at_iinc C 5 [(4, .int (sI ((i : Int) + 1))), (5, .int (sI ((swN (nS M 1) (M 8) i) i))), (0, .ref (G.1 (0))), (1, .ref (G.1 (257))), (2, .int (sI (swC (nS M 1) (M 8) i))), (3, .int (sI (min (M 1 9) (M 1 10))))] dX6_swaps_116 rfl (by decide) rfl ?_
            refine at_goto C 46 dX6_swaps_119 (by decide) ?_
            refine at_lv [2, 3, 4, 5, 0] rfl ?_
            exact at_eq (ih46 (i + 1) M1 (by omega) (by omega) (hT1) (hf1) (fun q hq => by show _ = swH _ _ _ q; rw [sw_n (fun z => by have z1 := z.1; have z2 := z.2; omega)]; exact hv1 q hq)) (lvc_s (lvc_s (lvc_i (by show _ = swC _ _ i + _; rw [if_neg (fun z => by have z1 := z.1; have z2 := z.2; omega), Int.add_zero]) (lvc_s (lvc_i (by omega) rfl))))) rfl (rfl) (rfl)
          · refine at_iconst C dX6_swaps_71 ?_
            refine at_istore C [(6, .int (sI (0))), (5, .int (sI ((swN (nS M 1) (M 8) i) i))), (0, .ref (G.1 (0))), (1, .ref (G.1 (257))), (2, .int (sI (swC (nS M 1) (M 8) i))), (3, .int (sI (min (M 1 9) (M 1 10)))), (4, .int (sI ((i : Int))))] dX6_swaps_72 (by decide) rfl ?_
            have H74 : ∀ (fu : Nat) (j : Nat) (M2 : sM), nS M 1 - j < fu → (j ≤ nS M 1) → (TInv M2) → ((∀ c, c ≠ 257 → M2 c = M c)) → (∀ q, q < 6 → M2 257 q = swR (nS M 1) i (swN (nS M 1) (M 8) i) ((swN (nS M 1) (M 8) i) i) j q) → sAt zp l ze (sRm 1 40) zs zm za zb zt zc D G 7 0 0 Q 74 [(0, .ref (G.1 (0))), (1, .ref (G.1 (257))), (2, .int (sI (swC (nS M 1) (M 8) i))), (3, .int (sI (min (M 1 9) (M 1 10)))), (4, .int (sI ((i : Int)))), (5, .int (sI ((swN (nS M 1) (M 8) i) i))), (6, .int (sI ((j : Int))))] [] M2 L := by
              intro fu
              induction fu with
              | zero => intro j M2 hd hj hT2 hf2 hv2; exact absurd hd (Nat.not_lt_zero _)
              | succ fu ih74 =>
                intro j M2 hd74 hj hT2 hf2 hv2
                refine at_iload C 6 dX6_swaps_74 rfl ?_
                refine at_aload_n C 0 dX6_swaps_76 rfl ?_
                refine at_getf (v := .ref (G.1 (1))) C (obj_Sho G) (ci := 6) rfl inX6 (slot := 0) (by decide) qw_249 rfl rfl dX6_swaps_77 ?_
                refine at_getf (v := .int (sI (M2 1 9))) C (obj_Bea G (Or.inl rfl)) (ci := 0) rfl inX0 (slot := 9) (by decide) qw_104 rfl rfl dX6_swaps_80 ?_
                have hb8 := tv_souls hT2 (Or.inl rfl)
                refine at_ve (b := M 1 9) (by rw [hf2 1 (by decide)]) ?_
                refine at_icmp_ge C 107 dX6_swaps_83 (by decide) (⟨by omega, by omega⟩) (⟨by omega, by omega⟩) (fun h9 => ?_) (fun h9 => ?_)
                · refine at_aload_n C 1 dX6_swaps_107 rfl ?_
                  refine at_iload C 4 dX6_swaps_108 rfl ?_
                  refine at_iload C 4 dX6_swaps_110 rfl ?_
                  refine at_iast C i (ar_257 G) (rfl) (by omega) dX6_swaps_112 ?_
                  have hT10 : TInv (sSt M2 257 i (i : Int)) := tv_st hT2 (k := 257) rfl (⟨by omega, by omega⟩)
                  refine at_iinc C 2 [(2, .int (sI ((swC (nS M 1) (M 8) i) + 1))), (0, .ref (G.1 (0))), (1, .ref (G.1 (257))), (3, .int (sI (min (M 1 9) (M 1 10)))), (4, .int (sI ((i : Int)))), (5, .int (sI ((swN (nS M 1) (M 8) i) i))), (6, .int (sI ((j : Int))))] dX6_swaps_113 rfl (by decide) rfl ?_
                  refine at_iinc C 4 [(4, .int (sI ((i : Int) + 1))), (2, .int (sI ((swC (nS M 1) (M 8) i) + 1))), (0, .ref (G.1 (0))), (1, .ref (G.1 (257))), (3, .int (sI (min (M 1 9) (M 1 10)))), (5, .int (sI ((swN (nS M 1) (M 8) i) i))), (6, .int (sI ((j : Int))))] dX6_swaps_116 rfl (by decide) rfl ?_
                  refine at_goto C 46 dX6_swaps_119 (by decide) ?_
                  refine at_lv [2, 3, 1, 4, 0] rfl ?_
                  exact at_eq (ih46 (i + 1) (sSt M2 257 i (i : Int)) (by omega) (by omega) (hT10) (fun c hc => by rw [sSt_ne hc]; exact hf2 c hc) (fun q hq => sw_y (by assumption) (by assumption) (by omega) hv2 q hq)) (lvc_s (lvc_s (lvc_i (by show _ = swC _ _ i + _; rw [if_pos ⟨by assumption, by assumption⟩]) (lvc_s (lvc_i (by omega) rfl))))) rfl (rfl) (rfl)
                · refine at_aload_n C 1 dX6_swaps_86 rfl ?_
                  refine at_iload C 6 dX6_swaps_87 rfl ?_
                  refine at_iald C j (ar_257 G) (rfl) (by omega) dX6_swaps_89 ?_
                  have hb11 := tv hT2 (k := 257) (j := j) rfl
                  refine at_ve (b := (swN (nS M 1) (M 8) i) j) (by rw [hv2 j (by omega)]; exact if_neg (by omega)) ?_
                  have hsj := hv2 j (by omega)
                  have hsk : _ ≤ M2 257 j ∧ M2 257 j ≤ _ := tv hT2 (k := 257) (j := j) rfl
                  have hsl : M2 257 j = (swN (nS M 1) (M 8) i) j := hsj.trans (if_neg (by omega))
                  refine at_iload C 4 dX6_swaps_90 rfl ?_
                  refine at_icmp_ne C 101 dX6_swaps_92 (by decide) (⟨by omega, by omega⟩) (⟨by omega, by omega⟩) (fun h12 => ?_) (fun h12 => ?_)
                  · refine at_iinc C 6 [(6, .int (sI ((j : Int) + 1))), (0, .ref (G.1 (0))), (1, .ref (G.1 (257))), (2, .int (sI (swC (nS M 1) (M 8) i))), (3, .int (sI (min (M 1 9) (M 1 10)))), (4, .int (sI ((i : Int)))), (5, .int (sI ((swN (nS M 1) (M 8) i) i)))] dX6_swaps_101 rfl (by decide) rfl ?_
                    refine at_goto C 74 dX6_swaps_104 (by decide) ?_
                    refine at_lv [1, 2, 3, 4, 5, 6, 0] rfl ?_
                    exact at_eq (ih74 (j + 1) M2 (by omega) (by omega) (hT2) (hf2) (fun q hq => sw_an (by assumption) hv2 q hq)) (lvc_s (lvc_s (lvc_s (lvc_s (lvc_s (lvc_s (lvc_i (by omega) rfl))))))) rfl (rfl) (rfl)
                  · refine at_aload_n C 1 dX6_swaps_95 rfl ?_
                    refine at_iload C 6 dX6_swaps_96 rfl ?_
                    refine at_iload C 5 dX6_swaps_98 rfl ?_
                    refine at_iast C j (ar_257 G) (rfl) (by omega) dX6_swaps_100 ?_
                    have hT13 : TInv (sSt M2 257 j ((swN (nS M 1) (M 8) i) i)) := tv_st hT2 (k := 257) rfl (⟨by omega, by omega⟩)
                    refine at_iinc C 6 [(6, .int (sI ((j : Int) + 1))), (0, .ref (G.1 (0))), (1, .ref (G.1 (257))), (2, .int (sI (swC (nS M 1) (M 8) i))), (3, .int (sI (min (M 1 9) (M 1 10)))), (4, .int (sI ((i : Int)))), (5, .int (sI ((swN (nS M 1) (M 8) i) i)))] dX6_swaps_101 rfl (by decide) rfl ?_
                    refine at_goto C 74 dX6_swaps_104 (by decide) ?_
                    refine at_lv [1, 2, 3, 4, 5, 6, 0] rfl ?_
                    exact at_eq (ih74 (j + 1) (sSt M2 257 j ((swN (nS M 1) (M 8) i) i)) (by omega) (by omega) (hT13) (fun c hc => by rw [sSt_ne hc]; exact hf2 c hc) (fun q hq => sw_ay (by omega) (by assumption) hv2 q hq)) (lvc_s (lvc_s (lvc_s (lvc_s (lvc_s (lvc_s (lvc_i (by omega) rfl))))))) rfl (rfl) (rfl)
            refine at_lv [2, 3, 4, 5, 6, 1, 0] rfl ?_
            exact at_eq (H74 _ 0 M1 (Nat.lt_succ_self _) (by omega) (hT1) (hf1) (fun q hq => by rw [hv1 q hq]; exact (if_neg (by omega)).symm)) (lvc_s (lvc_s (lvc_s (lvc_s (lvc_s (lvc_s (lvc_i (rfl) rfl))))))) rfl (rfl) (rfl)
  refine at_lv [4, 3, 2, 1, 0] rfl ?_
  exact at_eq (H46 _ 0 (sCpy M 8 257 0 0 6) (Nat.lt_succ_self _) (by omega) (hT1) (fun c hc => sCpy_ne hc) (fun q hq => by rw [sCpy_at, if_pos ⟨rfl, hq⟩]; rfl)) (lvc_s (lvc_s (lvc_i (rfl) (lvc_i (rfl) (lvc_i (rfl) rfl))))) rfl (rfl) (rfl)
