set_option maxHeartbeats 4000000 in
set_option maxRecDepth 100000 in
theorem c_X7_layAll_271 (l : Launch) (D : va_G) (G : sG) {M : sM} {L : sL} (a : Nat) (hr : isRa 271 a 280) (hT : TInv M) : sKv l D G yX7_layAll cX7_layAll 4 1 23 [.ref (G.1 (258)), .ref (G.1 (271)), .int (sI ((a : Int)))] M L (fun M' L' => M' = qLA M 271 a ∧ TInv M' ∧ L = L') := by
  refine sKv_go (by decide) (Nat.le_of_ble_eq_true rfl) ?_
  intro zp ze zs zm za zb zt zc Q C hret
  refine at_eq (lv' := [(0, .ref (G.1 (258))), (1, .ref (G.1 (271))), (2, .int (sI ((a : Int))))]) (st' := []) (M' := M) (L' := L) ?_ rfl rfl rfl rfl
  have hqn := qn_r hT
  have hqc := qc_r hT
  have hqu := qu_r hT
  have hqt := qt_r hT
  have hqs := qs_r hT
  have hqo := qo_r hT
  have hqm := qm_r hT
  have hr2 := hr.2.1
  have hrc := isRa_c hr
  refine at_aload_n C 0 dX7_layAll_0 rfl ?_
  refine at_aload_n C 1 dX7_layAll_1 rfl ?_
  refine at_iload_n C 2 dX7_layAll_2 rfl ?_
  refine at_call_v C (c_X7_lays l D G (b := 271) (a := a) (n := 280) (ar_271 G) hrc hT) (As := [.ref (G.1 (271)), .int (sI ((a : Int)))]) (obj_Ref G) (ci := 7) rfl qw_1052 qw_1049 qw_8 qw_1051 qp_39 ⟨by decide, by decide, show (parseMethodDescriptor yX7_lays.desc).map (fun d => d.parameters.length) = some 2 by decide +kernel⟩ ⟨by decide, by decide⟩ ⟨Nat.zero_le _, Nat.zero_le _⟩ (Nat.le_of_ble_eq_true rfl) dX7_layAll_3 rfl (fun M' L' hp2 => ?_)
  obtain ⟨rfl, hT1, rfl⟩ := hp2
  refine at_m (M' := (qaN M 271 a (fun x => x < 20))) (qaN_l M 271 a) ?_
  refine at_aload_n C 1 dX7_layAll_6 rfl ?_
  refine at_iload_n C 2 dX7_layAll_7 rfl ?_
  refine at_bipush C dX7_layAll_8 (by decide) (by decide) ?_
  refine at_iadd C dX7_layAll_10 ?_
  refine at_aload_n C 0 dX7_layAll_11 rfl ?_
  refine at_getf (v := .int (sI ((qaN M 271 a (fun x => x < 20)) 258 1))) C (obj_Ref G) (ci := 7) rfl inX7 (slot := 1) (by decide) qw_883 rfl rfl dX7_layAll_12 ?_
  refine at_ve (b := M 258 1) (rfl) ?_
  have hb3 : _ ≤ M 258 1 ∧ M 258 1 ≤ _ := tv (qaN_T hT hr (fun x => x < 20)) (k := 258) (j := 1) rfl
  refine at_ve (b := (((qn M) : Nat) : Int)) (hqn.2) ?_
  refine at_iast C (a + 20) (ar_271 G) (by omega) (by omega) dX7_layAll_15 ?_
  refine at_m (M' := (qaN M 271 a (fun x => x < 21))) (qaN_s (i := 20) (by omega) (by omega) (by first | rfl | exact hqn.2.symm | exact hqc.2.symm | exact hqs.2.symm | exact hqo.2.symm | exact hqm.2.symm | exact hqu.2.symm) (fun x => by omega)) ?_
  refine at_aload_n C 1 dX7_layAll_16 rfl ?_
  refine at_iload_n C 2 dX7_layAll_17 rfl ?_
  refine at_bipush C dX7_layAll_18 (by decide) (by decide) ?_
  refine at_iadd C dX7_layAll_20 ?_
  refine at_aload_n C 0 dX7_layAll_21 rfl ?_
  refine at_getf (v := .int (sI ((qaN M 271 a (fun x => x < 21)) 258 2))) C (obj_Ref G) (ci := 7) rfl inX7 (slot := 2) (by decide) qw_884 rfl rfl dX7_layAll_22 ?_
  refine at_ve (b := M 258 2) (rfl) ?_
  have hb4 : _ ≤ M 258 2 ∧ M 258 2 ≤ _ := tv (qaN_T hT hr (fun x => x < 21)) (k := 258) (j := 2) rfl
  refine at_ve (b := (((qc M) : Nat) : Int)) (hqc.2) ?_
  refine at_iast C (a + 21) (ar_271 G) (by omega) (by omega) dX7_layAll_25 ?_
  refine at_m (M' := (qaN M 271 a (fun x => x < 22))) (qaN_s (i := 21) (by omega) (by omega) (by first | rfl | exact hqn.2.symm | exact hqc.2.symm | exact hqs.2.symm | exact hqo.2.symm | exact hqm.2.symm | exact hqu.2.symm) (fun x => by omega)) ?_
  refine at_aload_n C 1 dX7_layAll_26 rfl ?_
  refine at_iload_n C 2 dX7_layAll_27 rfl ?_
  refine at_bipush C dX7_layAll_28 (by decide) (by decide) ?_
  refine at_iadd C dX7_layAll_30 ?_
  refine at_aload_n C 0 dX7_layAll_31 rfl ?_
  refine at_getf (v := .int (sI ((qaN M 271 a (fun x => x < 22)) 258 5))) C (obj_Ref G) (ci := 7) rfl inX7 (slot := 5) (by decide) qw_887 rfl rfl dX7_layAll_32 ?_
  refine at_ve (b := M 258 5) (rfl) ?_
  have hb5 : _ ≤ M 258 5 ∧ M 258 5 ≤ _ := tv (qaN_T hT hr (fun x => x < 22)) (k := 258) (j := 5) rfl
  refine at_ve (b := (((qs M) : Nat) : Int)) (hqs.2) ?_
  refine at_iast C (a + 22) (ar_271 G) (by omega) (by omega) dX7_layAll_35 ?_
  refine at_m (M' := (qaN M 271 a (fun x => x < 23))) (qaN_s (i := 22) (by omega) (by omega) (by first | rfl | exact hqn.2.symm | exact hqc.2.symm | exact hqs.2.symm | exact hqo.2.symm | exact hqm.2.symm | exact hqu.2.symm) (fun x => by omega)) ?_
  refine at_aload_n C 1 dX7_layAll_36 rfl ?_
  refine at_iload_n C 2 dX7_layAll_37 rfl ?_
  refine at_bipush C dX7_layAll_38 (by decide) (by decide) ?_
  refine at_iadd C dX7_layAll_40 ?_
  refine at_aload_n C 0 dX7_layAll_41 rfl ?_
  refine at_getf (v := .int (sI ((qaN M 271 a (fun x => x < 23)) 258 6))) C (obj_Ref G) (ci := 7) rfl inX7 (slot := 6) (by decide) qw_888 rfl rfl dX7_layAll_42 ?_
  refine at_ve (b := M 258 6) (rfl) ?_
  have hb6 : _ ≤ M 258 6 ∧ M 258 6 ≤ _ := tv (qaN_T hT hr (fun x => x < 23)) (k := 258) (j := 6) rfl
  refine at_ve (b := (((qo M) : Nat) : Int)) (hqo.2) ?_
  refine at_iast C (a + 23) (ar_271 G) (by omega) (by omega) dX7_layAll_45 ?_
  refine at_m (M' := (qaN M 271 a (fun x => x < 24))) (qaN_s (i := 23) (by omega) (by omega) (by first | rfl | exact hqn.2.symm | exact hqc.2.symm | exact hqs.2.symm | exact hqo.2.symm | exact hqm.2.symm | exact hqu.2.symm) (fun x => by omega)) ?_
  refine at_aload_n C 1 dX7_layAll_46 rfl ?_
  refine at_iload_n C 2 dX7_layAll_47 rfl ?_
  refine at_bipush C dX7_layAll_48 (by decide) (by decide) ?_
  refine at_iadd C dX7_layAll_50 ?_
  refine at_aload_n C 0 dX7_layAll_51 rfl ?_
  refine at_getf (v := .int (sI ((qaN M 271 a (fun x => x < 24)) 258 7))) C (obj_Ref G) (ci := 7) rfl inX7 (slot := 7) (by decide) qw_889 rfl rfl dX7_layAll_52 ?_
  refine at_ve (b := M 258 7) (rfl) ?_
  have hb7 : _ ≤ M 258 7 ∧ M 258 7 ≤ _ := tv (qaN_T hT hr (fun x => x < 24)) (k := 258) (j := 7) rfl
  refine at_ve (b := (((qm M) : Nat) : Int)) (hqm.2) ?_
  refine at_iast C (a + 24) (ar_271 G) (by omega) (by omega) dX7_layAll_55 ?_
  refine at_m (M' := (qaN M 271 a (fun x => x < 25))) (qaN_s (i := 24) (by omega) (by omega) (by first | rfl | exact hqn.2.symm | exact hqc.2.symm | exact hqs.2.symm | exact hqo.2.symm | exact hqm.2.symm | exact hqu.2.symm) (fun x => by omega)) ?_
  refine at_aload_n C 1 dX7_layAll_56 rfl ?_
  refine at_iload_n C 2 dX7_layAll_57 rfl ?_
  refine at_bipush C dX7_layAll_58 (by decide) (by decide) ?_
  refine at_iadd C dX7_layAll_60 ?_
  refine at_aload_n C 0 dX7_layAll_61 rfl ?_
  refine at_getf (v := .int (sI ((qaN M 271 a (fun x => x < 25)) 258 25))) C (obj_Ref G) (ci := 7) rfl inX7 (slot := 25) (by decide) qw_907 rfl rfl dX7_layAll_62 ?_
  refine at_ve (b := M 258 25) (rfl) ?_
  have hb8 : _ ≤ M 258 25 ∧ M 258 25 ≤ _ := tv (qaN_T hT hr (fun x => x < 25)) (k := 258) (j := 25) rfl
  refine at_ve (b := (((qu M) : Nat) : Int)) (hqu.2) ?_
  refine at_iast C (a + 25) (ar_271 G) (by omega) (by omega) dX7_layAll_65 ?_
  refine at_m (M' := (qaN M 271 a (fun x => x < 26))) (qaN_s (i := 25) (by omega) (by omega) (by first | rfl | exact hqn.2.symm | exact hqc.2.symm | exact hqs.2.symm | exact hqo.2.symm | exact hqm.2.symm | exact hqu.2.symm) (fun x => by omega)) ?_
  refine at_iconst C dX7_layAll_66 ?_
  refine at_istore_n C [(3, .int (sI (0))), (0, .ref (G.1 (258))), (1, .ref (G.1 (271))), (2, .int (sI ((a : Int))))] dX7_layAll_67 (by decide) rfl ?_
  have H68 : ∀ (fu : Nat) (k : Nat), 12 - k < fu → (k ≤ 12) → sAt zp l ze (sRm 1 23) zs zm za zb zt zc D G 4 0 0 Q 68 [(0, .ref (G.1 (258))), (1, .ref (G.1 (271))), (2, .int (sI ((a : Int)))), (3, .int (sI ((k : Int))))] [] (qaN M 271 a (fun x => x < 26 + k)) L := by
    intro fu
    induction fu with
    | zero => intro k hd hk; exact absurd hd (Nat.not_lt_zero _)
    | succ fu ih68 =>
      intro k hd68 hk
      refine at_iload_n C 3 dX7_layAll_68 rfl ?_
      refine at_bipush C dX7_layAll_69 (by decide) (by decide) ?_
      refine at_icmp_ge C 94 dX7_layAll_71 (by decide) (⟨by omega, by omega⟩) (⟨by omega, by omega⟩) (fun h9 => ?_) (fun h9 => ?_)
      · refine at_m (M' := (qaN M 271 a (fun x => x < 38))) (qaN_c (fun x _ => by omega)) ?_
        refine at_iconst C dX7_layAll_94 ?_
        refine at_istore_n C [(3, .int (sI (0))), (0, .ref (G.1 (258))), (1, .ref (G.1 (271))), (2, .int (sI ((a : Int))))] dX7_layAll_95 (by decide) rfl ?_
        have H96 : ∀ (fu : Nat) (k : Nat), 6 - k < fu → (k ≤ 6) → sAt zp l ze (sRm 1 23) zs zm za zb zt zc D G 4 0 0 Q 96 [(0, .ref (G.1 (258))), (1, .ref (G.1 (271))), (2, .int (sI ((a : Int)))), (3, .int (sI ((k : Int))))] [] (qaN M 271 a (fun x => x < 38 + k ∨ (44 ≤ x ∧ x < 44 + k) ∨ (50 ≤ x ∧ x < 50 + k))) L := by
          intro fu
          induction fu with
          | zero => intro k hd hk; exact absurd hd (Nat.not_lt_zero _)
          | succ fu ih96 =>
            intro k hd96 hk
            refine at_iload_n C 3 dX7_layAll_96 rfl ?_
            refine at_bipush C dX7_layAll_97 (by decide) (by decide) ?_
            refine at_icmp_ge C 150 dX7_layAll_99 (by decide) (⟨by omega, by omega⟩) (⟨by omega, by omega⟩) (fun h10 => ?_) (fun h10 => ?_)
            · refine at_m (M' := (qaN M 271 a (fun x => x < 56))) (qaN_c (fun x _ => by omega)) ?_
              refine at_iconst C dX7_layAll_150 ?_
              refine at_istore_n C [(3, .int (sI (0))), (0, .ref (G.1 (258))), (1, .ref (G.1 (271))), (2, .int (sI ((a : Int))))] dX7_layAll_151 (by decide) rfl ?_
              have H152 : ∀ (fu : Nat) (k : Nat), 10 - k < fu → (k ≤ 10) → sAt zp l ze (sRm 1 23) zs zm za zb zt zc D G 4 0 0 Q 152 [(0, .ref (G.1 (258))), (1, .ref (G.1 (271))), (2, .int (sI ((a : Int)))), (3, .int (sI ((k : Int))))] [] (qaN M 271 a (fun x => x < 56 + k)) L := by
                intro fu
                induction fu with
                | zero => intro k hd hk; exact absurd hd (Nat.not_lt_zero _)
                | succ fu ih152 =>
                  intro k hd152 hk
                  refine at_iload_n C 3 dX7_layAll_152 rfl ?_
                  refine at_bipush C dX7_layAll_153 (by decide) (by decide) ?_
                  refine at_icmp_ge C 178 dX7_layAll_155 (by decide) (⟨by omega, by omega⟩) (⟨by omega, by omega⟩) (fun h11 => ?_) (fun h11 => ?_)
                  · refine at_m (M' := (qaN M 271 a (fun x => x < 66))) (qaN_c (fun x _ => by omega)) ?_
                    refine at_iconst C dX7_layAll_178 ?_
                    refine at_istore_n C [(3, .int (sI (0))), (0, .ref (G.1 (258))), (1, .ref (G.1 (271))), (2, .int (sI ((a : Int))))] dX7_layAll_179 (by decide) rfl ?_
                    have H180 : ∀ (fu : Nat) (k : Nat), 24 - k < fu → (k ≤ 24) → sAt zp l ze (sRm 1 23) zs zm za zb zt zc D G 4 0 0 Q 180 [(0, .ref (G.1 (258))), (1, .ref (G.1 (271))), (2, .int (sI ((a : Int)))), (3, .int (sI ((k : Int))))] [] (qaN M 271 a (fun x => x < 66 + k)) L := by
                      intro fu
                      induction fu with
                      | zero => intro k hd hk; exact absurd hd (Nat.not_lt_zero _)
                      | succ fu ih180 =>
                        intro k hd180 hk
                        refine at_iload_n C 3 dX7_layAll_180 rfl ?_
                        refine at_bipush C dX7_layAll_181 (by decide) (by decide) ?_
                        refine at_icmp_ge C 206 dX7_layAll_183 (by decide) (⟨by omega, by omega⟩) (⟨by omega, by omega⟩) (fun h12 => ?_) (fun h12 => ?_)
                        · refine at_m (M' := (qaN M 271 a (fun x => x < 90))) (qaN_c (fun x _ => by omega)) ?_
                          refine at_iconst C dX7_layAll_206 ?_
                          refine at_istore_n C [(3, .int (sI (0))), (0, .ref (G.1 (258))), (1, .ref (G.1 (271))), (2, .int (sI ((a : Int))))] dX7_layAll_207 (by decide) rfl ?_
                          have H208 : ∀ (fu : Nat) (k : Nat), 18 - k < fu → (k ≤ 18) → sAt zp l ze (sRm 1 23) zs zm za zb zt zc D G 4 0 0 Q 208 [(0, .ref (G.1 (258))), (1, .ref (G.1 (271))), (2, .int (sI ((a : Int)))), (3, .int (sI ((k : Int))))] [] (qaN M 271 a (fun x => x < 90 + k)) L := by
                            intro fu
                            induction fu with
                            | zero => intro k hd hk; exact absurd hd (Nat.not_lt_zero _)
                            | succ fu ih208 =>
                              intro k hd208 hk
                              refine at_iload_n C 3 dX7_layAll_208 rfl ?_
                              refine at_bipush C dX7_layAll_209 (by decide) (by decide) ?_
                              refine at_icmp_ge C 234 dX7_layAll_211 (by decide) (⟨by omega, by omega⟩) (⟨by omega, by omega⟩) (fun h13 => ?_) (fun h13 => ?_)
                              · refine at_m (M' := (qaN M 271 a (fun x => x < 108))) (qaN_c (fun x _ => by omega)) ?_
                                refine at_iconst C dX7_layAll_234 ?_
                                refine at_istore_n C [(3, .int (sI (0))), (0, .ref (G.1 (258))), (1, .ref (G.1 (271))), (2, .int (sI ((a : Int))))] dX7_layAll_235 (by decide) rfl ?_
                                have H236 : ∀ (fu : Nat) (k : Nat), 160 - k < fu → (k ≤ 160) → sAt zp l ze (sRm 1 23) zs zm za zb zt zc D G 4 0 0 Q 236 [(0, .ref (G.1 (258))), (1, .ref (G.1 (271))), (2, .int (sI ((a : Int)))), (3, .int (sI ((k : Int))))] [] (qaN M 271 a (fun x => x < 108 + k)) L := by
                                  intro fu
                                  induction fu with
                                  | zero => intro k hd hk; exact absurd hd (Nat.not_lt_zero _)
                                  | succ fu ih236 =>
                                    intro k hd236 hk
                                    refine at_iload_n C 3 dX7_layAll_236 rfl ?_
                                    refine at_sipush C dX7_layAll_237 (by decide) (by decide) ?_
                                    refine at_icmp_ge C 263 dX7_layAll_240 (by decide) (⟨by omega, by omega⟩) (⟨by omega, by omega⟩) (fun h14 => ?_) (fun h14 => ?_)
                                    · refine at_m (M' := (qLA M 271 a)) (qaN_c (fun x hx => ⟨fun _ => trivial, fun _ => by omega⟩)) ?_
                                      exact hret _ _ _ _ dX7_layAll_263 (⟨rfl, (qaN_T hT hr (fun _ => True)), rfl⟩)
                                    · refine at_aload_n C 1 dX7_layAll_243 rfl ?_
                                      refine at_iload_n C 2 dX7_layAll_244 rfl ?_
                                      refine at_bipush C dX7_layAll_245 (by decide) (by decide) ?_
                                      refine at_iadd C dX7_layAll_247 ?_
                                      refine at_iload_n C 3 dX7_layAll_248 rfl ?_
                                      refine at_iadd C dX7_layAll_249 ?_
                                      refine at_aload_n C 0 dX7_layAll_250 rfl ?_
                                      refine at_getf (v := .ref (G.1 (272))) C (obj_Ref G) (ci := 7) rfl inX7 (slot := 24) (by decide) qw_906 rfl rfl dX7_layAll_251 ?_
                                      refine at_iload_n C 3 dX7_layAll_254 rfl ?_
                                      refine at_iald C k (ar_272 G) (rfl) (by omega) dX7_layAll_255 ?_
                                      refine at_ve (b := M 272 k) (rfl) ?_
                                      have hb15 : _ ≤ M 272 k ∧ M 272 k ≤ _ := tv (qaN_T hT hr (fun x => x < 108 + k)) (k := 272) (j := k) rfl
                                      refine at_iast C ((a + 108) + k) (ar_271 G) (by omega) (by omega) dX7_layAll_256 ?_
                                      refine at_m (M' := (qaN M 271 a (fun x => x < 108 + (k + 1)))) (qaN_s (i := 108 + k) (by omega) (by omega) ((liv_un M).symm) (fun x => by omega)) ?_
                                      refine at_iinc C 3 [(3, .int (sI ((k : Int) + 1))), (0, .ref (G.1 (258))), (1, .ref (G.1 (271))), (2, .int (sI ((a : Int))))] dX7_layAll_257 rfl (by decide) rfl ?_
                                      refine at_goto C 236 dX7_layAll_260 (by decide) ?_
                                      refine at_lv [1, 2, 3, 0] rfl ?_
                                      exact at_eq (ih236 (k + 1) (by omega) (by omega)) (lvc_s (lvc_s (lvc_s (lvc_i (by omega) rfl)))) rfl (rfl) (rfl)
                                refine at_lv [1, 2, 3, 0] rfl ?_
                                exact at_eq (H236 _ 0 (Nat.lt_succ_self _) (by omega)) (lvc_s (lvc_s (lvc_s (lvc_i (rfl) rfl)))) rfl (qaN_c (fun x _ => by omega)) (rfl)
                              · refine at_aload_n C 1 dX7_layAll_214 rfl ?_
                                refine at_iload_n C 2 dX7_layAll_215 rfl ?_
                                refine at_bipush C dX7_layAll_216 (by decide) (by decide) ?_
                                refine at_iadd C dX7_layAll_218 ?_
                                refine at_iload_n C 3 dX7_layAll_219 rfl ?_
                                refine at_iadd C dX7_layAll_220 ?_
                                refine at_aload_n C 0 dX7_layAll_221 rfl ?_
                                refine at_getf (v := .ref (G.1 (269))) C (obj_Ref G) (ci := 7) rfl inX7 (slot := 17) (by decide) qw_899 rfl rfl dX7_layAll_222 ?_
                                refine at_iload_n C 3 dX7_layAll_225 rfl ?_
                                refine at_iald C k (ar_269 G) (rfl) (by omega) dX7_layAll_226 ?_
                                refine at_ve (b := M 269 k) (rfl) ?_
                                have hb16 : _ ≤ M 269 k ∧ M 269 k ≤ _ := tv (qaN_T hT hr (fun x => x < 90 + k)) (k := 269) (j := k) rfl
                                refine at_iast C ((a + 90) + k) (ar_271 G) (by omega) (by omega) dX7_layAll_227 ?_
                                refine at_m (M' := (qaN M 271 a (fun x => x < 90 + (k + 1)))) (qaN_s (i := 90 + k) (by omega) (by omega) ((liv_mk M (by omega)).symm) (fun x => by omega)) ?_
                                refine at_iinc C 3 [(3, .int (sI ((k : Int) + 1))), (0, .ref (G.1 (258))), (1, .ref (G.1 (271))), (2, .int (sI ((a : Int))))] dX7_layAll_228 rfl (by decide) rfl ?_
                                refine at_goto C 208 dX7_layAll_231 (by decide) ?_
                                refine at_lv [1, 2, 3, 0] rfl ?_
                                exact at_eq (ih208 (k + 1) (by omega) (by omega)) (lvc_s (lvc_s (lvc_s (lvc_i (by omega) rfl)))) rfl (rfl) (rfl)
                          refine at_lv [1, 2, 3, 0] rfl ?_
                          exact at_eq (H208 _ 0 (Nat.lt_succ_self _) (by omega)) (lvc_s (lvc_s (lvc_s (lvc_i (rfl) rfl)))) rfl (qaN_c (fun x _ => by omega)) (rfl)
                        · refine at_aload_n C 1 dX7_layAll_186 rfl ?_
                          refine at_iload_n C 2 dX7_layAll_187 rfl ?_
                          refine at_bipush C dX7_layAll_188 (by decide) (by decide) ?_
                          refine at_iadd C dX7_layAll_190 ?_
                          refine at_iload_n C 3 dX7_layAll_191 rfl ?_
                          refine at_iadd C dX7_layAll_192 ?_
                          refine at_aload_n C 0 dX7_layAll_193 rfl ?_
                          refine at_getf (v := .ref (G.1 (268))) C (obj_Ref G) (ci := 7) rfl inX7 (slot := 16) (by decide) qw_898 rfl rfl dX7_layAll_194 ?_
                          refine at_iload_n C 3 dX7_layAll_197 rfl ?_
                          refine at_iald C k (ar_268 G) (rfl) (by omega) dX7_layAll_198 ?_
                          refine at_ve (b := M 268 k) (rfl) ?_
                          have hb17 : _ ≤ M 268 k ∧ M 268 k ≤ _ := tv (qaN_T hT hr (fun x => x < 66 + k)) (k := 268) (j := k) rfl
                          refine at_iast C ((a + 66) + k) (ar_271 G) (by omega) (by omega) dX7_layAll_199 ?_
                          refine at_m (M' := (qaN M 271 a (fun x => x < 66 + (k + 1)))) (qaN_s (i := 66 + k) (by omega) (by omega) ((liv_no M (by omega)).symm) (fun x => by omega)) ?_
                          refine at_iinc C 3 [(3, .int (sI ((k : Int) + 1))), (0, .ref (G.1 (258))), (1, .ref (G.1 (271))), (2, .int (sI ((a : Int))))] dX7_layAll_200 rfl (by decide) rfl ?_
                          refine at_goto C 180 dX7_layAll_203 (by decide) ?_
                          refine at_lv [1, 2, 3, 0] rfl ?_
                          exact at_eq (ih180 (k + 1) (by omega) (by omega)) (lvc_s (lvc_s (lvc_s (lvc_i (by omega) rfl)))) rfl (rfl) (rfl)
                    refine at_lv [1, 2, 3, 0] rfl ?_
                    exact at_eq (H180 _ 0 (Nat.lt_succ_self _) (by omega)) (lvc_s (lvc_s (lvc_s (lvc_i (rfl) rfl)))) rfl (qaN_c (fun x _ => by omega)) (rfl)
                  · refine at_aload_n C 1 dX7_layAll_158 rfl ?_
                    refine at_iload_n C 2 dX7_layAll_159 rfl ?_
                    refine at_bipush C dX7_layAll_160 (by decide) (by decide) ?_
                    refine at_iadd C dX7_layAll_162 ?_
                    refine at_iload_n C 3 dX7_layAll_163 rfl ?_
                    refine at_iadd C dX7_layAll_164 ?_
                    refine at_aload_n C 0 dX7_layAll_165 rfl ?_
                    refine at_getf (v := .ref (G.1 (267))) C (obj_Ref G) (ci := 7) rfl inX7 (slot := 15) (by decide) qw_897 rfl rfl dX7_layAll_166 ?_
                    refine at_iload_n C 3 dX7_layAll_169 rfl ?_
                    refine at_iald C k (ar_267 G) (rfl) (by omega) dX7_layAll_170 ?_
                    refine at_ve (b := M 267 k) (rfl) ?_
                    have hb18 : _ ≤ M 267 k ∧ M 267 k ≤ _ := tv (qaN_T hT hr (fun x => x < 56 + k)) (k := 267) (j := k) rfl
                    refine at_iast C ((a + 56) + k) (ar_271 G) (by omega) (by omega) dX7_layAll_171 ?_
                    refine at_m (M' := (qaN M 271 a (fun x => x < 56 + (k + 1)))) (qaN_s (i := 56 + k) (by omega) (by omega) ((liv_se M (by omega)).symm) (fun x => by omega)) ?_
                    refine at_iinc C 3 [(3, .int (sI ((k : Int) + 1))), (0, .ref (G.1 (258))), (1, .ref (G.1 (271))), (2, .int (sI ((a : Int))))] dX7_layAll_172 rfl (by decide) rfl ?_
                    refine at_goto C 152 dX7_layAll_175 (by decide) ?_
                    refine at_lv [1, 2, 3, 0] rfl ?_
                    exact at_eq (ih152 (k + 1) (by omega) (by omega)) (lvc_s (lvc_s (lvc_s (lvc_i (by omega) rfl)))) rfl (rfl) (rfl)
              refine at_lv [1, 2, 3, 0] rfl ?_
              exact at_eq (H152 _ 0 (Nat.lt_succ_self _) (by omega)) (lvc_s (lvc_s (lvc_s (lvc_i (rfl) rfl)))) rfl (qaN_c (fun x _ => by omega)) (rfl)
            · refine at_aload_n C 1 dX7_layAll_102 rfl ?_
              refine at_iload_n C 2 dX7_layAll_103 rfl ?_
              refine at_bipush C dX7_layAll_104 (by decide) (by decide) ?_
              refine at_iadd C dX7_layAll_106 ?_
              refine at_iload_n C 3 dX7_layAll_107 rfl ?_
              refine at_iadd C dX7_layAll_108 ?_
              refine at_aload_n C 0 dX7_layAll_109 rfl ?_
              refine at_getf (v := .ref (G.1 (261))) C (obj_Ref G) (ci := 7) rfl inX7 (slot := 9) (by decide) qw_891 rfl rfl dX7_layAll_110 ?_
              refine at_iload_n C 3 dX7_layAll_113 rfl ?_
              refine at_iald C k (ar_261 G) (rfl) (by omega) dX7_layAll_114 ?_
              refine at_ve (b := M 261 k) (rfl) ?_
              have hb19 : _ ≤ M 261 k ∧ M 261 k ≤ _ := tv (qaN_T hT hr (fun x => x < 38 + k ∨ (44 ≤ x ∧ x < 44 + k) ∨ (50 ≤ x ∧ x < 50 + k))) (k := 261) (j := k) rfl
              refine at_iast C ((a + 38) + k) (ar_271 G) (by omega) (by omega) dX7_layAll_115 ?_
              refine at_m (M' := (qaN M 271 a (fun x => x < 38 + (k + 1) ∨ (44 ≤ x ∧ x < 44 + k) ∨ (50 ≤ x ∧ x < 50 + k)))) (qaN_s (i := 38 + k) (by omega) (by omega) ((liv_kd M (by omega)).symm) (fun x => by omega)) ?_
              refine at_aload_n C 1 dX7_layAll_116 rfl ?_
              refine at_iload_n C 2 dX7_layAll_117 rfl ?_
              refine at_bipush C dX7_layAll_118 (by decide) (by decide) ?_
              refine at_iadd C dX7_layAll_120 ?_
              refine at_iload_n C 3 dX7_layAll_121 rfl ?_
              refine at_iadd C dX7_layAll_122 ?_
              refine at_aload_n C 0 dX7_layAll_123 rfl ?_
              refine at_getf (v := .ref (G.1 (262))) C (obj_Ref G) (ci := 7) rfl inX7 (slot := 10) (by decide) qw_892 rfl rfl dX7_layAll_124 ?_
              refine at_iload_n C 3 dX7_layAll_127 rfl ?_
              refine at_iald C k (ar_262 G) (rfl) (by omega) dX7_layAll_128 ?_
              refine at_ve (b := M 262 k) (rfl) ?_
              have hb20 : _ ≤ M 262 k ∧ M 262 k ≤ _ := tv (qaN_T hT hr (fun x => x < 38 + (k + 1) ∨ (44 ≤ x ∧ x < 44 + k) ∨ (50 ≤ x ∧ x < 50 + k))) (k := 262) (j := k) rfl
              refine at_iast C ((a + 44) + k) (ar_271 G) (by omega) (by omega) dX7_layAll_129 ?_
              refine at_m (M' := (qaN M 271 a (fun x => x < 38 + (k + 1) ∨ (44 ≤ x ∧ x < 44 + (k + 1)) ∨ (50 ≤ x ∧ x < 50 + k)))) (qaN_s (i := 44 + k) (by omega) (by omega) ((liv_wt M (by omega)).symm) (fun x => by omega)) ?_
              refine at_aload_n C 1 dX7_layAll_130 rfl ?_
              refine at_iload_n C 2 dX7_layAll_131 rfl ?_
              refine at_bipush C dX7_layAll_132 (by decide) (by decide) ?_
              refine at_iadd C dX7_layAll_134 ?_
              refine at_iload_n C 3 dX7_layAll_135 rfl ?_
              refine at_iadd C dX7_layAll_136 ?_
              refine at_aload_n C 0 dX7_layAll_137 rfl ?_
              refine at_getf (v := .ref (G.1 (266))) C (obj_Ref G) (ci := 7) rfl inX7 (slot := 14) (by decide) qw_896 rfl rfl dX7_layAll_138 ?_
              refine at_iload_n C 3 dX7_layAll_141 rfl ?_
              refine at_iald C k (ar_266 G) (rfl) (by omega) dX7_layAll_142 ?_
              refine at_ve (b := M 266 k) (rfl) ?_
              have hb21 : _ ≤ M 266 k ∧ M 266 k ≤ _ := tv (qaN_T hT hr (fun x => x < 38 + (k + 1) ∨ (44 ≤ x ∧ x < 44 + (k + 1)) ∨ (50 ≤ x ∧ x < 50 + k))) (k := 266) (j := k) rfl
              refine at_iast C ((a + 50) + k) (ar_271 G) (by omega) (by omega) dX7_layAll_143 ?_
              refine at_m (M' := (qaN M 271 a (fun x => x < 38 + (k + 1) ∨ (44 ≤ x ∧ x < 44 + (k + 1)) ∨ (50 ≤ x ∧ x < 50 + (k + 1))))) (qaN_s (i := 50 + k) (by omega) (by omega) ((liv_ck M (by omega)).symm) (fun x => by omega)) ?_
              refine at_iinc C 3 [(3, .int (sI ((k : Int) + 1))), (0, .ref (G.1 (258))), (1, .ref (G.1 (271))), (2, .int (sI ((a : Int))))] dX7_layAll_144 rfl (by decide) rfl ?_
              refine at_goto C 96 dX7_layAll_147 (by decide) ?_
              refine at_lv [1, 2, 3, 0] rfl ?_
              exact at_eq (ih96 (k + 1) (by omega) (by omega)) (lvc_s (lvc_s (lvc_s (lvc_i (by omega) rfl)))) rfl (rfl) (rfl)
        refine at_lv [1, 2, 3, 0] rfl ?_
        exact at_eq (H96 _ 0 (Nat.lt_succ_self _) (by omega)) (lvc_s (lvc_s (lvc_s (lvc_i (rfl) rfl)))) rfl (qaN_c (fun x _ => by omega)) (rfl)
      · refine at_aload_n C 1 dX7_layAll_74 rfl ?_
        refine at_iload_n C 2 dX7_layAll_75 rfl ?_
        refine at_bipush C dX7_layAll_76 (by decide) (by decide) ?_
        refine at_iadd C dX7_layAll_78 ?_
        refine at_iload_n C 3 dX7_layAll_79 rfl ?_
        refine at_iadd C dX7_layAll_80 ?_
        refine at_aload_n C 0 dX7_layAll_81 rfl ?_
        refine at_getf (v := .ref (G.1 (260))) C (obj_Ref G) (ci := 7) rfl inX7 (slot := 8) (by decide) qw_890 rfl rfl dX7_layAll_82 ?_
        refine at_iload_n C 3 dX7_layAll_85 rfl ?_
        refine at_iald C k (ar_260 G) (rfl) (by omega) dX7_layAll_86 ?_
        refine at_ve (b := M 260 k) (rfl) ?_
        have hb22 : _ ≤ M 260 k ∧ M 260 k ≤ _ := tv (qaN_T hT hr (fun x => x < 26 + k)) (k := 260) (j := k) rfl
        refine at_iast C ((a + 26) + k) (ar_271 G) (by omega) (by omega) dX7_layAll_87 ?_
        refine at_m (M' := (qaN M 271 a (fun x => x < 26 + (k + 1)))) (qaN_s (i := 26 + k) (by omega) (by omega) ((liv_cu M (by omega)).symm) (fun x => by omega)) ?_
        refine at_iinc C 3 [(3, .int (sI ((k : Int) + 1))), (0, .ref (G.1 (258))), (1, .ref (G.1 (271))), (2, .int (sI ((a : Int))))] dX7_layAll_88 rfl (by decide) rfl ?_
        refine at_goto C 68 dX7_layAll_91 (by decide) ?_
        refine at_lv [1, 2, 3, 0] rfl ?_
        exact at_eq (ih68 (k + 1) (by omega) (by omega)) (lvc_s (lvc_s (lvc_s (lvc_i (by omega) rfl)))) rfl (rfl) (rfl)
  refine at_lv [1, 2, 3, 0] rfl ?_
  exact at_eq (H68 _ 0 (Nat.lt_succ_self _) (by omega)) (lvc_s (lvc_s (lvc_s (lvc_i (rfl) rfl)))) rfl (qaN_c (fun x _ => by omega)) (rfl)

set_option maxHeartbeats 4000000 in
set_option maxRecDepth 100000 in
theorem c_X7_layAll_278 (l : Launch) (D : va_G) (G : sG) {M : sM} {L : sL} (a : Nat) (hr : isRa 278 a 560) (hT : TInv M) : sKv l D G yX7_layAll cX7_layAll 4 1 23 [.ref (G.1 (258)), .ref (G.1 (278)), .int (sI ((a : Int)))] M L (fun M' L' => M' = qLA M 278 a ∧ TInv M' ∧ L = L') := by
  refine sKv_go (by decide) (Nat.le_of_ble_eq_true rfl) ?_
  intro zp ze zs zm za zb zt zc Q C hret
  refine at_eq (lv' := [(0, .ref (G.1 (258))), (1, .ref (G.1 (278))), (2, .int (sI ((a : Int))))]) (st' := []) (M' := M) (L' := L) ?_ rfl rfl rfl rfl
  have hqn := qn_r hT
  have hqc := qc_r hT
  have hqu := qu_r hT
  have hqt := qt_r hT
  have hqs := qs_r hT
  have hqo := qo_r hT
  have hqm := qm_r hT
  have hr2 := hr.2.1
  have hrc := isRa_c hr
  refine at_aload_n C 0 dX7_layAll_0 rfl ?_
  refine at_aload_n C 1 dX7_layAll_1 rfl ?_
  refine at_iload_n C 2 dX7_layAll_2 rfl ?_
  refine at_call_v C (c_X7_lays l D G (b := 278) (a := a) (n := 560) (ar_278 G) hrc hT) (As := [.ref (G.1 (278)), .int (sI ((a : Int)))]) (obj_Ref G) (ci := 7) rfl qw_1052 qw_1049 qw_8 qw_1051 qp_39 ⟨by decide, by decide, show (parseMethodDescriptor yX7_lays.desc).map (fun d => d.parameters.length) = some 2 by decide +kernel⟩ ⟨by decide, by decide⟩ ⟨Nat.zero_le _, Nat.zero_le _⟩ (Nat.le_of_ble_eq_true rfl) dX7_layAll_3 rfl (fun M' L' hp2 => ?_)
  obtain ⟨rfl, hT1, rfl⟩ := hp2
  refine at_m (M' := (qaN M 278 a (fun x => x < 20))) (qaN_l M 278 a) ?_
  refine at_aload_n C 1 dX7_layAll_6 rfl ?_
  refine at_iload_n C 2 dX7_layAll_7 rfl ?_
  refine at_bipush C dX7_layAll_8 (by decide) (by decide) ?_
  refine at_iadd C dX7_layAll_10 ?_
  refine at_aload_n C 0 dX7_layAll_11 rfl ?_
  refine at_getf (v := .int (sI ((qaN M 278 a (fun x => x < 20)) 258 1))) C (obj_Ref G) (ci := 7) rfl inX7 (slot := 1) (by decide) qw_883 rfl rfl dX7_layAll_12 ?_
  refine at_ve (b := M 258 1) (rfl) ?_
  have hb3 : _ ≤ M 258 1 ∧ M 258 1 ≤ _ := tv (qaN_T hT hr (fun x => x < 20)) (k := 258) (j := 1) rfl
  refine at_ve (b := (((qn M) : Nat) : Int)) (hqn.2) ?_
  refine at_iast C (a + 20) (ar_278 G) (by omega) (by omega) dX7_layAll_15 ?_
  refine at_m (M' := (qaN M 278 a (fun x => x < 21))) (qaN_s (i := 20) (by omega) (by omega) (by first | rfl | exact hqn.2.symm | exact hqc.2.symm | exact hqs.2.symm | exact hqo.2.symm | exact hqm.2.symm | exact hqu.2.symm) (fun x => by omega)) ?_
  refine at_aload_n C 1 dX7_layAll_16 rfl ?_
  refine at_iload_n C 2 dX7_layAll_17 rfl ?_
  refine at_bipush C dX7_layAll_18 (by decide) (by decide) ?_
  refine at_iadd C dX7_layAll_20 ?_
  refine at_aload_n C 0 dX7_layAll_21 rfl ?_
  refine at_getf (v := .int (sI ((qaN M 278 a (fun x => x < 21)) 258 2))) C (obj_Ref G) (ci := 7) rfl inX7 (slot := 2) (by decide) qw_884 rfl rfl dX7_layAll_22 ?_
  refine at_ve (b := M 258 2) (rfl) ?_
  have hb4 : _ ≤ M 258 2 ∧ M 258 2 ≤ _ := tv (qaN_T hT hr (fun x => x < 21)) (k := 258) (j := 2) rfl
  refine at_ve (b := (((qc M) : Nat) : Int)) (hqc.2) ?_
  refine at_iast C (a + 21) (ar_278 G) (by omega) (by omega) dX7_layAll_25 ?_
  refine at_m (M' := (qaN M 278 a (fun x => x < 22))) (qaN_s (i := 21) (by omega) (by omega) (by first | rfl | exact hqn.2.symm | exact hqc.2.symm | exact hqs.2.symm | exact hqo.2.symm | exact hqm.2.symm | exact hqu.2.symm) (fun x => by omega)) ?_
  refine at_aload_n C 1 dX7_layAll_26 rfl ?_
  refine at_iload_n C 2 dX7_layAll_27 rfl ?_
  refine at_bipush C dX7_layAll_28 (by decide) (by decide) ?_
  refine at_iadd C dX7_layAll_30 ?_
  refine at_aload_n C 0 dX7_layAll_31 rfl ?_
  refine at_getf (v := .int (sI ((qaN M 278 a (fun x => x < 22)) 258 5))) C (obj_Ref G) (ci := 7) rfl inX7 (slot := 5) (by decide) qw_887 rfl rfl dX7_layAll_32 ?_
  refine at_ve (b := M 258 5) (rfl) ?_
  have hb5 : _ ≤ M 258 5 ∧ M 258 5 ≤ _ := tv (qaN_T hT hr (fun x => x < 22)) (k := 258) (j := 5) rfl
  refine at_ve (b := (((qs M) : Nat) : Int)) (hqs.2) ?_
  refine at_iast C (a + 22) (ar_278 G) (by omega) (by omega) dX7_layAll_35 ?_
  refine at_m (M' := (qaN M 278 a (fun x => x < 23))) (qaN_s (i := 22) (by omega) (by omega) (by first | rfl | exact hqn.2.symm | exact hqc.2.symm | exact hqs.2.symm | exact hqo.2.symm | exact hqm.2.symm | exact hqu.2.symm) (fun x => by omega)) ?_
  refine at_aload_n C 1 dX7_layAll_36 rfl ?_
  refine at_iload_n C 2 dX7_layAll_37 rfl ?_
  refine at_bipush C dX7_layAll_38 (by decide) (by decide) ?_
  refine at_iadd C dX7_layAll_40 ?_
  refine at_aload_n C 0 dX7_layAll_41 rfl ?_
  refine at_getf (v := .int (sI ((qaN M 278 a (fun x => x < 23)) 258 6))) C (obj_Ref G) (ci := 7) rfl inX7 (slot := 6) (by decide) qw_888 rfl rfl dX7_layAll_42 ?_
  refine at_ve (b := M 258 6) (rfl) ?_
  have hb6 : _ ≤ M 258 6 ∧ M 258 6 ≤ _ := tv (qaN_T hT hr (fun x => x < 23)) (k := 258) (j := 6) rfl
  refine at_ve (b := (((qo M) : Nat) : Int)) (hqo.2) ?_
  refine at_iast C (a + 23) (ar_278 G) (by omega) (by omega) dX7_layAll_45 ?_
  refine at_m (M' := (qaN M 278 a (fun x => x < 24))) (qaN_s (i := 23) (by omega) (by omega) (by first | rfl | exact hqn.2.symm | exact hqc.2.symm | exact hqs.2.symm | exact hqo.2.symm | exact hqm.2.symm | exact hqu.2.symm) (fun x => by omega)) ?_
  refine at_aload_n C 1 dX7_layAll_46 rfl ?_
  refine at_iload_n C 2 dX7_layAll_47 rfl ?_
  refine at_bipush C dX7_layAll_48 (by decide) (by decide) ?_
  refine at_iadd C dX7_layAll_50 ?_
  refine at_aload_n C 0 dX7_layAll_51 rfl ?_
  refine at_getf (v := .int (sI ((qaN M 278 a (fun x => x < 24)) 258 7))) C (obj_Ref G) (ci := 7) rfl inX7 (slot := 7) (by decide) qw_889 rfl rfl dX7_layAll_52 ?_
  refine at_ve (b := M 258 7) (rfl) ?_
  have hb7 : _ ≤ M 258 7 ∧ M 258 7 ≤ _ := tv (qaN_T hT hr (fun x => x < 24)) (k := 258) (j := 7) rfl
  refine at_ve (b := (((qm M) : Nat) : Int)) (hqm.2) ?_
  refine at_iast C (a + 24) (ar_278 G) (by omega) (by omega) dX7_layAll_55 ?_
  refine at_m (M' := (qaN M 278 a (fun x => x < 25))) (qaN_s (i := 24) (by omega) (by omega) (by first | rfl | exact hqn.2.symm | exact hqc.2.symm | exact hqs.2.symm | exact hqo.2.symm | exact hqm.2.symm | exact hqu.2.symm) (fun x => by omega)) ?_
  refine at_aload_n C 1 dX7_layAll_56 rfl ?_
  refine at_iload_n C 2 dX7_layAll_57 rfl ?_
  refine at_bipush C dX7_layAll_58 (by decide) (by decide) ?_
  refine at_iadd C dX7_layAll_60 ?_
  refine at_aload_n C 0 dX7_layAll_61 rfl ?_
  refine at_getf (v := .int (sI ((qaN M 278 a (fun x => x < 25)) 258 25))) C (obj_Ref G) (ci := 7) rfl inX7 (slot := 25) (by decide) qw_907 rfl rfl dX7_layAll_62 ?_
  refine at_ve (b := M 258 25) (rfl) ?_
  have hb8 : _ ≤ M 258 25 ∧ M 258 25 ≤ _ := tv (qaN_T hT hr (fun x => x < 25)) (k := 258) (j := 25) rfl
  refine at_ve (b := (((qu M) : Nat) : Int)) (hqu.2) ?_
  refine at_iast C (a + 25) (ar_278 G) (by omega) (by omega) dX7_layAll_65 ?_
  refine at_m (M' := (qaN M 278 a (fun x => x < 26))) (qaN_s (i := 25) (by omega) (by omega) (by first | rfl | exact hqn.2.symm | exact hqc.2.symm | exact hqs.2.symm | exact hqo.2.symm | exact hqm.2.symm | exact hqu.2.symm) (fun x => by omega)) ?_
  refine at_iconst C dX7_layAll_66 ?_
  refine at_istore_n C [(3, .int (sI (0))), (0, .ref (G.1 (258))), (1, .ref (G.1 (278))), (2, .int (sI ((a : Int))))] dX7_layAll_67 (by decide) rfl ?_
  have H68 : ∀ (fu : Nat) (k : Nat), 12 - k < fu → (k ≤ 12) → sAt zp l ze (sRm 1 23) zs zm za zb zt zc D G 4 0 0 Q 68 [(0, .ref (G.1 (258))), (1, .ref (G.1 (278))), (2, .int (sI ((a : Int)))), (3, .int (sI ((k : Int))))] [] (qaN M 278 a (fun x => x < 26 + k)) L := by
    intro fu
    induction fu with
    | zero => intro k hd hk; exact absurd hd (Nat.not_lt_zero _)
    | succ fu ih68 =>
      intro k hd68 hk
      refine at_iload_n C 3 dX7_layAll_68 rfl ?_
      refine at_bipush C dX7_layAll_69 (by decide) (by decide) ?_
      refine at_icmp_ge C 94 dX7_layAll_71 (by decide) (⟨by omega, by omega⟩) (⟨by omega, by omega⟩) (fun h9 => ?_) (fun h9 => ?_)
      · refine at_m (M' := (qaN M 278 a (fun x => x < 38))) (qaN_c (fun x _ => by omega)) ?_
        refine at_iconst C dX7_layAll_94 ?_
        refine at_istore_n C [(3, .int (sI (0))), (0, .ref (G.1 (258))), (1, .ref (G.1 (278))), (2, .int (sI ((a : Int))))] dX7_layAll_95 (by decide) rfl ?_
        have H96 : ∀ (fu : Nat) (k : Nat), 6 - k < fu → (k ≤ 6) → sAt zp l ze (sRm 1 23) zs zm za zb zt zc D G 4 0 0 Q 96 [(0, .ref (G.1 (258))), (1, .ref (G.1 (278))), (2, .int (sI ((a : Int)))), (3, .int (sI ((k : Int))))] [] (qaN M 278 a (fun x => x < 38 + k ∨ (44 ≤ x ∧ x < 44 + k) ∨ (50 ≤ x ∧ x < 50 + k))) L := by
          intro fu
          induction fu with
          | zero => intro k hd hk; exact absurd hd (Nat.not_lt_zero _)
          | succ fu ih96 =>
            intro k hd96 hk
            refine at_iload_n C 3 dX7_layAll_96 rfl ?_
            refine at_bipush C dX7_layAll_97 (by decide) (by decide) ?_
            refine at_icmp_ge C 150 dX7_layAll_99 (by decide) (⟨by omega, by omega⟩) (⟨by omega, by omega⟩) (fun h10 => ?_) (fun h10 => ?_)
            · refine at_m (M' := (qaN M 278 a (fun x => x < 56))) (qaN_c (fun x _ => by omega)) ?_
              refine at_iconst C dX7_layAll_150 ?_
              refine at_istore_n C [(3, .int (sI (0))), (0, .ref (G.1 (258))), (1, .ref (G.1 (278))), (2, .int (sI ((a : Int))))] dX7_layAll_151 (by decide) rfl ?_
              have H152 : ∀ (fu : Nat) (k : Nat), 10 - k < fu → (k ≤ 10) → sAt zp l ze (sRm 1 23) zs zm za zb zt zc D G 4 0 0 Q 152 [(0, .ref (G.1 (258))), (1, .ref (G.1 (278))), (2, .int (sI ((a : Int)))), (3, .int (sI ((k : Int))))] [] (qaN M 278 a (fun x => x < 56 + k)) L := by
                intro fu
                induction fu with
                | zero => intro k hd hk; exact absurd hd (Nat.not_lt_zero _)
                | succ fu ih152 =>
                  intro k hd152 hk
                  refine at_iload_n C 3 dX7_layAll_152 rfl ?_
                  refine at_bipush C dX7_layAll_153 (by decide) (by decide) ?_
                  refine at_icmp_ge C 178 dX7_layAll_155 (by decide) (⟨by omega, by omega⟩) (⟨by omega, by omega⟩) (fun h11 => ?_) (fun h11 => ?_)
                  · refine at_m (M' := (qaN M 278 a (fun x => x < 66))) (qaN_c (fun x _ => by omega)) ?_
                    refine at_iconst C dX7_layAll_178 ?_
                    refine at_istore_n C [(3, .int (sI (0))), (0, .ref (G.1 (258))), (1, .ref (G.1 (278))), (2, .int (sI ((a : Int))))] dX7_layAll_179 (by decide) rfl ?_
                    have H180 : ∀ (fu : Nat) (k : Nat), 24 - k < fu → (k ≤ 24) → sAt zp l ze (sRm 1 23) zs zm za zb zt zc D G 4 0 0 Q 180 [(0, .ref (G.1 (258))), (1, .ref (G.1 (278))), (2, .int (sI ((a : Int)))), (3, .int (sI ((k : Int))))] [] (qaN M 278 a (fun x => x < 66 + k)) L := by
                      intro fu
                      induction fu with
                      | zero => intro k hd hk; exact absurd hd (Nat.not_lt_zero _)
                      | succ fu ih180 =>
                        intro k hd180 hk
                        refine at_iload_n C 3 dX7_layAll_180 rfl ?_
                        refine at_bipush C dX7_layAll_181 (by decide) (by decide) ?_
                        refine at_icmp_ge C 206 dX7_layAll_183 (by decide) (⟨by omega, by omega⟩) (⟨by omega, by omega⟩) (fun h12 => ?_) (fun h12 => ?_)
                        · refine at_m (M' := (qaN M 278 a (fun x => x < 90))) (qaN_c (fun x _ => by omega)) ?_
                          refine at_iconst C dX7_layAll_206 ?_
                          refine at_istore_n C [(3, .int (sI (0))), (0, .ref (G.1 (258))), (1, .ref (G.1 (278))), (2, .int (sI ((a : Int))))] dX7_layAll_207 (by decide) rfl ?_
                          have H208 : ∀ (fu : Nat) (k : Nat), 18 - k < fu → (k ≤ 18) → sAt zp l ze (sRm 1 23) zs zm za zb zt zc D G 4 0 0 Q 208 [(0, .ref (G.1 (258))), (1, .ref (G.1 (278))), (2, .int (sI ((a : Int)))), (3, .int (sI ((k : Int))))] [] (qaN M 278 a (fun x => x < 90 + k)) L := by
                            intro fu
                            induction fu with
                            | zero => intro k hd hk; exact absurd hd (Nat.not_lt_zero _)
                            | succ fu ih208 =>
                              intro k hd208 hk
                              refine at_iload_n C 3 dX7_layAll_208 rfl ?_
                              refine at_bipush C dX7_layAll_209 (by decide) (by decide) ?_
                              refine at_icmp_ge C 234 dX7_layAll_211 (by decide) (⟨by omega, by omega⟩) (⟨by omega, by omega⟩) (fun h13 => ?_) (fun h13 => ?_)
                              · refine at_m (M' := (qaN M 278 a (fun x => x < 108))) (qaN_c (fun x _ => by omega)) ?_
                                refine at_iconst C dX7_layAll_234 ?_
                                refine at_istore_n C [(3, .int (sI (0))), (0, .ref (G.1 (258))), (1, .ref (G.1 (278))), (2, .int (sI ((a : Int))))] dX7_layAll_235 (by decide) rfl ?_
                                have H236 : ∀ (fu : Nat) (k : Nat), 160 - k < fu → (k ≤ 160) → sAt zp l ze (sRm 1 23) zs zm za zb zt zc D G 4 0 0 Q 236 [(0, .ref (G.1 (258))), (1, .ref (G.1 (278))), (2, .int (sI ((a : Int)))), (3, .int (sI ((k : Int))))] [] (qaN M 278 a (fun x => x < 108 + k)) L := by
                                  intro fu
                                  induction fu with
                                  | zero => intro k hd hk; exact absurd hd (Nat.not_lt_zero _)
                                  | succ fu ih236 =>
                                    intro k hd236 hk
                                    refine at_iload_n C 3 dX7_layAll_236 rfl ?_
                                    refine at_sipush C dX7_layAll_237 (by decide) (by decide) ?_
                                    refine at_icmp_ge C 263 dX7_layAll_240 (by decide) (⟨by omega, by omega⟩) (⟨by omega, by omega⟩) (fun h14 => ?_) (fun h14 => ?_)
                                    · refine at_m (M' := (qLA M 278 a)) (qaN_c (fun x hx => ⟨fun _ => trivial, fun _ => by omega⟩)) ?_
                                      exact hret _ _ _ _ dX7_layAll_263 (⟨rfl, (qaN_T hT hr (fun _ => True)), rfl⟩)
                                    · refine at_aload_n C 1 dX7_layAll_243 rfl ?_
                                      refine at_iload_n C 2 dX7_layAll_244 rfl ?_
                                      refine at_bipush C dX7_layAll_245 (by decide) (by decide) ?_
                                      refine at_iadd C dX7_layAll_247 ?_
                                      refine at_iload_n C 3 dX7_layAll_248 rfl ?_
                                      refine at_iadd C dX7_layAll_249 ?_
                                      refine at_aload_n C 0 dX7_layAll_250 rfl ?_
                                      refine at_getf (v := .ref (G.1 (272))) C (obj_Ref G) (ci := 7) rfl inX7 (slot := 24) (by decide) qw_906 rfl rfl dX7_layAll_251 ?_
                                      refine at_iload_n C 3 dX7_layAll_254 rfl ?_
                                      refine at_iald C k (ar_272 G) (rfl) (by omega) dX7_layAll_255 ?_
                                      refine at_ve (b := M 272 k) (rfl) ?_
                                      have hb15 : _ ≤ M 272 k ∧ M 272 k ≤ _ := tv (qaN_T hT hr (fun x => x < 108 + k)) (k := 272) (j := k) rfl
                                      refine at_iast C ((a + 108) + k) (ar_278 G) (by omega) (by omega) dX7_layAll_256 ?_
                                      refine at_m (M' := (qaN M 278 a (fun x => x < 108 + (k + 1)))) (qaN_s (i := 108 + k) (by omega) (by omega) ((liv_un M).symm) (fun x => by omega)) ?_
                                      refine at_iinc C 3 [(3, .int (sI ((k : Int) + 1))), (0, .ref (G.1 (258))), (1, .ref (G.1 (278))), (2, .int (sI ((a : Int))))] dX7_layAll_257 rfl (by decide) rfl ?_
                                      refine at_goto C 236 dX7_layAll_260 (by decide) ?_
                                      refine at_lv [1, 2, 3, 0] rfl ?_
                                      exact at_eq (ih236 (k + 1) (by omega) (by omega)) (lvc_s (lvc_s (lvc_s (lvc_i (by omega) rfl)))) rfl (rfl) (rfl)
                                refine at_lv [1, 2, 3, 0] rfl ?_
                                exact at_eq (H236 _ 0 (Nat.lt_succ_self _) (by omega)) (lvc_s (lvc_s (lvc_s (lvc_i (rfl) rfl)))) rfl (qaN_c (fun x _ => by omega)) (rfl)
                              · refine at_aload_n C 1 dX7_layAll_214 rfl ?_
                                refine at_iload_n C 2 dX7_layAll_215 rfl ?_
                                refine at_bipush C dX7_layAll_216 (by decide) (by decide) ?_
                                refine at_iadd C dX7_layAll_218 ?_
                                refine at_iload_n C 3 dX7_layAll_219 rfl ?_
                                refine at_iadd C dX7_layAll_220 ?_
                                refine at_aload_n C 0 dX7_layAll_221 rfl ?_
                                refine at_getf (v := .ref (G.1 (269))) C (obj_Ref G) (ci := 7) rfl inX7 (slot := 17) (by decide) qw_899 rfl rfl dX7_layAll_222 ?_
                                refine at_iload_n C 3 dX7_layAll_225 rfl ?_
                                refine at_iald C k (ar_269 G) (rfl) (by omega) dX7_layAll_226 ?_
                                refine at_ve (b := M 269 k) (rfl) ?_
                                have hb16 : _ ≤ M 269 k ∧ M 269 k ≤ _ := tv (qaN_T hT hr (fun x => x < 90 + k)) (k := 269) (j := k) rfl
                                refine at_iast C ((a + 90) + k) (ar_278 G) (by omega) (by omega) dX7_layAll_227 ?_
                                refine at_m (M' := (qaN M 278 a (fun x => x < 90 + (k + 1)))) (qaN_s (i := 90 + k) (by omega) (by omega) ((liv_mk M (by omega)).symm) (fun x => by omega)) ?_
                                refine at_iinc C 3 [(3, .int (sI ((k : Int) + 1))), (0, .ref (G.1 (258))), (1, .ref (G.1 (278))), (2, .int (sI ((a : Int))))] dX7_layAll_228 rfl (by decide) rfl ?_
                                refine at_goto C 208 dX7_layAll_231 (by decide) ?_
                                refine at_lv [1, 2, 3, 0] rfl ?_
                                exact at_eq (ih208 (k + 1) (by omega) (by omega)) (lvc_s (lvc_s (lvc_s (lvc_i (by omega) rfl)))) rfl (rfl) (rfl)
                          refine at_lv [1, 2, 3, 0] rfl ?_
                          exact at_eq (H208 _ 0 (Nat.lt_succ_self _) (by omega)) (lvc_s (lvc_s (lvc_s (lvc_i (rfl) rfl)))) rfl (qaN_c (fun x _ => by omega)) (rfl)
                        · refine at_aload_n C 1 dX7_layAll_186 rfl ?_
                          refine at_iload_n C 2 dX7_layAll_187 rfl ?_
                          refine at_bipush C dX7_layAll_188 (by decide) (by decide) ?_
                          refine at_iadd C dX7_layAll_190 ?_
                          refine at_iload_n C 3 dX7_layAll_191 rfl ?_
                          refine at_iadd C dX7_layAll_192 ?_
                          refine at_aload_n C 0 dX7_layAll_193 rfl ?_
                          refine at_getf (v := .ref (G.1 (268))) C (obj_Ref G) (ci := 7) rfl inX7 (slot := 16) (by decide) qw_898 rfl rfl dX7_layAll_194 ?_
                          refine at_iload_n C 3 dX7_layAll_197 rfl ?_
                          refine at_iald C k (ar_268 G) (rfl) (by omega) dX7_layAll_198 ?_
                          refine at_ve (b := M 268 k) (rfl) ?_
                          have hb17 : _ ≤ M 268 k ∧ M 268 k ≤ _ := tv (qaN_T hT hr (fun x => x < 66 + k)) (k := 268) (j := k) rfl
                          refine at_iast C ((a + 66) + k) (ar_278 G) (by omega) (by omega) dX7_layAll_199 ?_
                          refine at_m (M' := (qaN M 278 a (fun x => x < 66 + (k + 1)))) (qaN_s (i := 66 + k) (by omega) (by omega) ((liv_no M (by omega)).symm) (fun x => by omega)) ?_
                          refine at_iinc C 3 [(3, .int (sI ((k : Int) + 1))), (0, .ref (G.1 (258))), (1, .ref (G.1 (278))), (2, .int (sI ((a : Int))))] dX7_layAll_200 rfl (by decide) rfl ?_
                          refine at_goto C 180 dX7_layAll_203 (by decide) ?_
                          refine at_lv [1, 2, 3, 0] rfl ?_
                          exact at_eq (ih180 (k + 1) (by omega) (by omega)) (lvc_s (lvc_s (lvc_s (lvc_i (by omega) rfl)))) rfl (rfl) (rfl)
                    refine at_lv [1, 2, 3, 0] rfl ?_
                    exact at_eq (H180 _ 0 (Nat.lt_succ_self _) (by omega)) (lvc_s (lvc_s (lvc_s (lvc_i (rfl) rfl)))) rfl (qaN_c (fun x _ => by omega)) (rfl)
                  · refine at_aload_n C 1 dX7_layAll_158 rfl ?_
                    refine at_iload_n C 2 dX7_layAll_159 rfl ?_
                    refine at_bipush C dX7_layAll_160 (by decide) (by decide) ?_
                    refine at_iadd C dX7_layAll_162 ?_
                    refine at_iload_n C 3 dX7_layAll_163 rfl ?_
                    refine at_iadd C dX7_layAll_164 ?_
                    refine at_aload_n C 0 dX7_layAll_165 rfl ?_
                    refine at_getf (v := .ref (G.1 (267))) C (obj_Ref G) (ci := 7) rfl inX7 (slot := 15) (by decide) qw_897 rfl rfl dX7_layAll_166 ?_
                    refine at_iload_n C 3 dX7_layAll_169 rfl ?_
                    refine at_iald C k (ar_267 G) (rfl) (by omega) dX7_layAll_170 ?_
                    refine at_ve (b := M 267 k) (rfl) ?_
                    have hb18 : _ ≤ M 267 k ∧ M 267 k ≤ _ := tv (qaN_T hT hr (fun x => x < 56 + k)) (k := 267) (j := k) rfl
                    refine at_iast C ((a + 56) + k) (ar_278 G) (by omega) (by omega) dX7_layAll_171 ?_
                    refine at_m (M' := (qaN M 278 a (fun x => x < 56 + (k + 1)))) (qaN_s (i := 56 + k) (by omega) (by omega) ((liv_se M (by omega)).symm) (fun x => by omega)) ?_
                    refine at_iinc C 3 [(3, .int (sI ((k : Int) + 1))), (0, .ref (G.1 (258))), (1, .ref (G.1 (278))), (2, .int (sI ((a : Int))))] dX7_layAll_172 rfl (by decide) rfl ?_
                    refine at_goto C 152 dX7_layAll_175 (by decide) ?_
                    refine at_lv [1, 2, 3, 0] rfl ?_
                    exact at_eq (ih152 (k + 1) (by omega) (by omega)) (lvc_s (lvc_s (lvc_s (lvc_i (by omega) rfl)))) rfl (rfl) (rfl)
              refine at_lv [1, 2, 3, 0] rfl ?_
              exact at_eq (H152 _ 0 (Nat.lt_succ_self _) (by omega)) (lvc_s (lvc_s (lvc_s (lvc_i (rfl) rfl)))) rfl (qaN_c (fun x _ => by omega)) (rfl)
            · refine at_aload_n C 1 dX7_layAll_102 rfl ?_
              refine at_iload_n C 2 dX7_layAll_103 rfl ?_
              refine at_bipush C dX7_layAll_104 (by decide) (by decide) ?_
              refine at_iadd C dX7_layAll_106 ?_
              refine at_iload_n C 3 dX7_layAll_107 rfl ?_
              refine at_iadd C dX7_layAll_108 ?_
              refine at_aload_n C 0 dX7_layAll_109 rfl ?_
              refine at_getf (v := .ref (G.1 (261))) C (obj_Ref G) (ci := 7) rfl inX7 (slot := 9) (by decide) qw_891 rfl rfl dX7_layAll_110 ?_
              refine at_iload_n C 3 dX7_layAll_113 rfl ?_
              refine at_iald C k (ar_261 G) (rfl) (by omega) dX7_layAll_114 ?_
              refine at_ve (b := M 261 k) (rfl) ?_
              have hb19 : _ ≤ M 261 k ∧ M 261 k ≤ _ := tv (qaN_T hT hr (fun x => x < 38 + k ∨ (44 ≤ x ∧ x < 44 + k) ∨ (50 ≤ x ∧ x < 50 + k))) (k := 261) (j := k) rfl
              refine at_iast C ((a + 38) + k) (ar_278 G) (by omega) (by omega) dX7_layAll_115 ?_
              refine at_m (M' := (qaN M 278 a (fun x => x < 38 + (k + 1) ∨ (44 ≤ x ∧ x < 44 + k) ∨ (50 ≤ x ∧ x < 50 + k)))) (qaN_s (i := 38 + k) (by omega) (by omega) ((liv_kd M (by omega)).symm) (fun x => by omega)) ?_
              refine at_aload_n C 1 dX7_layAll_116 rfl ?_
              refine at_iload_n C 2 dX7_layAll_117 rfl ?_
              refine at_bipush C dX7_layAll_118 (by decide) (by decide) ?_
              refine at_iadd C dX7_layAll_120 ?_
              refine at_iload_n C 3 dX7_layAll_121 rfl ?_
              refine at_iadd C dX7_layAll_122 ?_
              refine at_aload_n C 0 dX7_layAll_123 rfl ?_
              refine at_getf (v := .ref (G.1 (262))) C (obj_Ref G) (ci := 7) rfl inX7 (slot := 10) (by decide) qw_892 rfl rfl dX7_layAll_124 ?_
              refine at_iload_n C 3 dX7_layAll_127 rfl ?_
              refine at_iald C k (ar_262 G) (rfl) (by omega) dX7_layAll_128 ?_
              refine at_ve (b := M 262 k) (rfl) ?_
              have hb20 : _ ≤ M 262 k ∧ M 262 k ≤ _ := tv (qaN_T hT hr (fun x => x < 38 + (k + 1) ∨ (44 ≤ x ∧ x < 44 + k) ∨ (50 ≤ x ∧ x < 50 + k))) (k := 262) (j := k) rfl
              refine at_iast C ((a + 44) + k) (ar_278 G) (by omega) (by omega) dX7_layAll_129 ?_
              refine at_m (M' := (qaN M 278 a (fun x => x < 38 + (k + 1) ∨ (44 ≤ x ∧ x < 44 + (k + 1)) ∨ (50 ≤ x ∧ x < 50 + k)))) (qaN_s (i := 44 + k) (by omega) (by omega) ((liv_wt M (by omega)).symm) (fun x => by omega)) ?_
              refine at_aload_n C 1 dX7_layAll_130 rfl ?_
              refine at_iload_n C 2 dX7_layAll_131 rfl ?_
              refine at_bipush C dX7_layAll_132 (by decide) (by decide) ?_
              refine at_iadd C dX7_layAll_134 ?_
              refine at_iload_n C 3 dX7_layAll_135 rfl ?_
              refine at_iadd C dX7_layAll_136 ?_
              refine at_aload_n C 0 dX7_layAll_137 rfl ?_
              refine at_getf (v := .ref (G.1 (266))) C (obj_Ref G) (ci := 7) rfl inX7 (slot := 14) (by decide) qw_896 rfl rfl dX7_layAll_138 ?_
              refine at_iload_n C 3 dX7_layAll_141 rfl ?_
              refine at_iald C k (ar_266 G) (rfl) (by omega) dX7_layAll_142 ?_
              refine at_ve (b := M 266 k) (rfl) ?_
              have hb21 : _ ≤ M 266 k ∧ M 266 k ≤ _ := tv (qaN_T hT hr (fun x => x < 38 + (k + 1) ∨ (44 ≤ x ∧ x < 44 + (k + 1)) ∨ (50 ≤ x ∧ x < 50 + k))) (k := 266) (j := k) rfl
              refine at_iast C ((a + 50) + k) (ar_278 G) (by omega) (by omega) dX7_layAll_143 ?_
              refine at_m (M' := (qaN M 278 a (fun x => x < 38 + (k + 1) ∨ (44 ≤ x ∧ x < 44 + (k + 1)) ∨ (50 ≤ x ∧ x < 50 + (k + 1))))) (qaN_s (i := 50 + k) (by omega) (by omega) ((liv_ck M (by omega)).symm) (fun x => by omega)) ?_
              refine at_iinc C 3 [(3, .int (sI ((k : Int) + 1))), (0, .ref (G.1 (258))), (1, .ref (G.1 (278))), (2, .int (sI ((a : Int))))] dX7_layAll_144 rfl (by decide) rfl ?_
              refine at_goto C 96 dX7_layAll_147 (by decide) ?_
              refine at_lv [1, 2, 3, 0] rfl ?_
              exact at_eq (ih96 (k + 1) (by omega) (by omega)) (lvc_s (lvc_s (lvc_s (lvc_i (by omega) rfl)))) rfl (rfl) (rfl)
        refine at_lv [1, 2, 3, 0] rfl ?_
        exact at_eq (H96 _ 0 (Nat.lt_succ_self _) (by omega)) (lvc_s (lvc_s (lvc_s (lvc_i (rfl) rfl)))) rfl (qaN_c (fun x _ => by omega)) (rfl)
      · refine at_aload_n C 1 dX7_layAll_74 rfl ?_
        refine at_iload_n C 2 dX7_layAll_75 rfl ?_
        refine at_bipush C dX7_layAll_76 (by decide) (by decide) ?_
        refine at_iadd C dX7_layAll_78 ?_
        refine at_iload_n C 3 dX7_layAll_79 rfl ?_
        refine at_iadd C dX7_layAll_80 ?_
        refine at_aload_n C 0 dX7_layAll_81 rfl ?_
        refine at_getf (v := .ref (G.1 (260))) C (obj_Ref G) (ci := 7) rfl inX7 (slot := 8) (by decide) qw_890 rfl rfl dX7_layAll_82 ?_
        refine at_iload_n C 3 dX7_layAll_85 rfl ?_
        refine at_iald C k (ar_260 G) (rfl) (by omega) dX7_layAll_86 ?_
        refine at_ve (b := M 260 k) (rfl) ?_
        have hb22 : _ ≤ M 260 k ∧ M 260 k ≤ _ := tv (qaN_T hT hr (fun x => x < 26 + k)) (k := 260) (j := k) rfl
        refine at_iast C ((a + 26) + k) (ar_278 G) (by omega) (by omega) dX7_layAll_87 ?_
        refine at_m (M' := (qaN M 278 a (fun x => x < 26 + (k + 1)))) (qaN_s (i := 26 + k) (by omega) (by omega) ((liv_cu M (by omega)).symm) (fun x => by omega)) ?_
        refine at_iinc C 3 [(3, .int (sI ((k : Int) + 1))), (0, .ref (G.1 (258))), (1, .ref (G.1 (278))), (2, .int (sI ((a : Int))))] dX7_layAll_88 rfl (by decide) rfl ?_
        refine at_goto C 68 dX7_layAll_91 (by decide) ?_
        refine at_lv [1, 2, 3, 0] rfl ?_
        exact at_eq (ih68 (k + 1) (by omega) (by omega)) (lvc_s (lvc_s (lvc_s (lvc_i (by omega) rfl)))) rfl (rfl) (rfl)
  refine at_lv [1, 2, 3, 0] rfl ?_
  exact at_eq (H68 _ 0 (Nat.lt_succ_self _) (by omega)) (lvc_s (lvc_s (lvc_s (lvc_i (rfl) rfl)))) rfl (qaN_c (fun x _ => by omega)) (rfl)

set_option maxHeartbeats 4000000 in
set_option maxRecDepth 100000 in
theorem c_X7_takeAll_271 (l : Launch) (D : va_G) (G : sG) {M : sM} {L : sL} (a : Nat) (hr : isRa 271 a 280) (hT : TInv M) : sKv l D G yX7_takeAll cX7_takeAll 4 1 23 [.ref (G.1 (258)), .ref (G.1 (271)), .int (sI ((a : Int)))] M L (fun M' L' => M' = qTA M 271 a ∧ TInv M' ∧ L = L') := by
  refine sKv_go (by decide) (Nat.le_of_ble_eq_true rfl) ?_
  intro zp ze zs zm za zb zt zc Q C hret
  refine at_eq (lv' := [(0, .ref (G.1 (258))), (1, .ref (G.1 (271))), (2, .int (sI ((a : Int))))]) (st' := []) (M' := M) (L' := L) ?_ rfl rfl rfl rfl
  have hqn := qn_r hT
  have hqc := qc_r hT
  have hqu := qu_r hT
  have hqt := qt_r hT
  have hqs := qs_r hT
  have hqo := qo_r hT
  have hqm := qm_r hT
  have hr2 := hr.2.1
  have hrc := isRa_c hr
  have h20 := tv hT (k := 271) (j := a + 20) (lo := 0) (hi := 6) ((hr.2.2 20 (by decide)).trans rfl)
  have h21 := tv hT (k := 271) (j := a + 21) (lo := 0) (hi := 6) ((hr.2.2 21 (by decide)).trans rfl)
  have h22 := tv hT (k := 271) (j := a + 22) (lo := 0) (hi := 5) ((hr.2.2 22 (by decide)).trans rfl)
  have h23 := tv hT (k := 271) (j := a + 23) (lo := 0) (hi := 6) ((hr.2.2 23 (by decide)).trans rfl)
  have h24 := tv hT (k := 271) (j := a + 24) (lo := 0) (hi := 6) ((hr.2.2 24 (by decide)).trans rfl)
  have h25 := tv hT (k := 271) (j := a + 25) (lo := 0) (hi := 8) ((hr.2.2 25 (by decide)).trans rfl)
  refine at_aload_n C 0 dX7_takeAll_0 rfl ?_
  refine at_aload_n C 1 dX7_takeAll_1 rfl ?_
  refine at_iload_n C 2 dX7_takeAll_2 rfl ?_
  refine at_call_v C (c_X7_takes l D G (b := 271) (a := a) (n := 280) (ar_271 G) hrc hT) (As := [.ref (G.1 (271)), .int (sI ((a : Int)))]) (obj_Ref G) (ci := 7) rfl qw_1196 qw_1193 qw_8 qw_1195 qp_69 ⟨by decide, by decide, show (parseMethodDescriptor yX7_takes.desc).map (fun d => d.parameters.length) = some 2 by decide +kernel⟩ ⟨by decide, by decide⟩ ⟨Nat.zero_le _, Nat.zero_le _⟩ (Nat.le_of_ble_eq_true rfl) dX7_takeAll_3 rfl (fun M' L' hp2 => ?_)
  obtain ⟨rfl, hT1, rfl⟩ := hp2
  refine at_aload_n C 0 dX7_takeAll_6 rfl ?_
  refine at_aload_n C 1 dX7_takeAll_7 rfl ?_
  refine at_iload_n C 2 dX7_takeAll_8 rfl ?_
  refine at_bipush C dX7_takeAll_9 (by decide) (by decide) ?_
  refine at_iadd C dX7_takeAll_11 ?_
  refine at_iald C (a + 20) (ar_271 G) (by omega) (by omega) dX7_takeAll_12 ?_
  refine at_ve (b := M 271 (a + 20)) (rfl) ?_
  refine at_putM (slot := 1) (ty := .int) C tyX7 (obj_Ref G) (ci := 7) rfl inX7 tyX7_ok nmX7 (by decide) qw_883 rfl rfl (by decide +kernel) rfl rfl (Nat.le_of_ble_eq_true rfl) rfl dX7_takeAll_13 ?_
  have hT3 : TInv (sSt (qTak M 271 a) 258 1 (M 271 (a + 20))) := tv_st hT1 (k := 258) (j := 1) rfl (⟨by omega, by omega⟩)
  refine at_aload_n C 0 dX7_takeAll_16 rfl ?_
  refine at_aload_n C 1 dX7_takeAll_17 rfl ?_
  refine at_iload_n C 2 dX7_takeAll_18 rfl ?_
  refine at_bipush C dX7_takeAll_19 (by decide) (by decide) ?_
  refine at_iadd C dX7_takeAll_21 ?_
  refine at_iald C (a + 21) (ar_271 G) (by omega) (by omega) dX7_takeAll_22 ?_
  refine at_ve (b := M 271 (a + 21)) (rfl) ?_
  refine at_putM (slot := 2) (ty := .int) C tyX7 (obj_Ref G) (ci := 7) rfl inX7 tyX7_ok nmX7 (by decide) qw_884 rfl rfl (by decide +kernel) rfl rfl (Nat.le_of_ble_eq_true rfl) rfl dX7_takeAll_23 ?_
  have hT4 : TInv (sSt (sSt (qTak M 271 a) 258 1 (M 271 (a + 20))) 258 2 (M 271 (a + 21))) := tv_st hT3 (k := 258) (j := 2) rfl (⟨by omega, by omega⟩)
  refine at_aload_n C 0 dX7_takeAll_26 rfl ?_
  refine at_aload_n C 1 dX7_takeAll_27 rfl ?_
  refine at_iload_n C 2 dX7_takeAll_28 rfl ?_
  refine at_bipush C dX7_takeAll_29 (by decide) (by decide) ?_
  refine at_iadd C dX7_takeAll_31 ?_
  refine at_iald C (a + 22) (ar_271 G) (by omega) (by omega) dX7_takeAll_32 ?_
  refine at_ve (b := M 271 (a + 22)) (rfl) ?_
  refine at_putM (slot := 5) (ty := .int) C tyX7 (obj_Ref G) (ci := 7) rfl inX7 tyX7_ok nmX7 (by decide) qw_887 rfl rfl (by decide +kernel) rfl rfl (Nat.le_of_ble_eq_true rfl) rfl dX7_takeAll_33 ?_
  have hT5 : TInv (sSt (sSt (sSt (qTak M 271 a) 258 1 (M 271 (a + 20))) 258 2 (M 271 (a + 21))) 258 5 (M 271 (a + 22))) := tv_st hT4 (k := 258) (j := 5) rfl (⟨by omega, by omega⟩)
  refine at_aload_n C 0 dX7_takeAll_36 rfl ?_
  refine at_aload_n C 1 dX7_takeAll_37 rfl ?_
  refine at_iload_n C 2 dX7_takeAll_38 rfl ?_
  refine at_bipush C dX7_takeAll_39 (by decide) (by decide) ?_
  refine at_iadd C dX7_takeAll_41 ?_
  refine at_iald C (a + 23) (ar_271 G) (by omega) (by omega) dX7_takeAll_42 ?_
  refine at_ve (b := M 271 (a + 23)) (rfl) ?_
  refine at_putM (slot := 6) (ty := .int) C tyX7 (obj_Ref G) (ci := 7) rfl inX7 tyX7_ok nmX7 (by decide) qw_888 rfl rfl (by decide +kernel) rfl rfl (Nat.le_of_ble_eq_true rfl) rfl dX7_takeAll_43 ?_
  have hT6 : TInv (sSt (sSt (sSt (sSt (qTak M 271 a) 258 1 (M 271 (a + 20))) 258 2 (M 271 (a + 21))) 258 5 (M 271 (a + 22))) 258 6 (M 271 (a + 23))) := tv_st hT5 (k := 258) (j := 6) rfl (⟨by omega, by omega⟩)
  refine at_aload_n C 0 dX7_takeAll_46 rfl ?_
  refine at_aload_n C 1 dX7_takeAll_47 rfl ?_
  refine at_iload_n C 2 dX7_takeAll_48 rfl ?_
  refine at_bipush C dX7_takeAll_49 (by decide) (by decide) ?_
  refine at_iadd C dX7_takeAll_51 ?_
  refine at_iald C (a + 24) (ar_271 G) (by omega) (by omega) dX7_takeAll_52 ?_
  refine at_ve (b := M 271 (a + 24)) (rfl) ?_
  refine at_putM (slot := 7) (ty := .int) C tyX7 (obj_Ref G) (ci := 7) rfl inX7 tyX7_ok nmX7 (by decide) qw_889 rfl rfl (by decide +kernel) rfl rfl (Nat.le_of_ble_eq_true rfl) rfl dX7_takeAll_53 ?_
  have hT7 : TInv (sSt (sSt (sSt (sSt (sSt (qTak M 271 a) 258 1 (M 271 (a + 20))) 258 2 (M 271 (a + 21))) 258 5 (M 271 (a + 22))) 258 6 (M 271 (a + 23))) 258 7 (M 271 (a + 24))) := tv_st hT6 (k := 258) (j := 7) rfl (⟨by omega, by omega⟩)
  refine at_aload_n C 0 dX7_takeAll_56 rfl ?_
  refine at_aload_n C 1 dX7_takeAll_57 rfl ?_
  refine at_iload_n C 2 dX7_takeAll_58 rfl ?_
  refine at_bipush C dX7_takeAll_59 (by decide) (by decide) ?_
  refine at_iadd C dX7_takeAll_61 ?_
  refine at_iald C (a + 25) (ar_271 G) (by omega) (by omega) dX7_takeAll_62 ?_
  refine at_ve (b := M 271 (a + 25)) (rfl) ?_
  refine at_putM (slot := 25) (ty := .int) C tyX7 (obj_Ref G) (ci := 7) rfl inX7 tyX7_ok nmX7 (by decide) qw_907 rfl rfl (by decide +kernel) rfl rfl (Nat.le_of_ble_eq_true rfl) rfl dX7_takeAll_63 ?_
  have hT8 : TInv (sSt (sSt (sSt (sSt (sSt (sSt (qTak M 271 a) 258 1 (M 271 (a + 20))) 258 2 (M 271 (a + 21))) 258 5 (M 271 (a + 22))) 258 6 (M 271 (a + 23))) 258 7 (M 271 (a + 24))) 258 25 (M 271 (a + 25))) := tv_st hT7 (k := 258) (j := 25) rfl (⟨by omega, by omega⟩)
  refine at_m (M' := (qTA0 M 271 a)) (rfl) ?_
  refine at_iconst C dX7_takeAll_66 ?_
  refine at_istore_n C [(3, .int (sI (0))), (0, .ref (G.1 (258))), (1, .ref (G.1 (271))), (2, .int (sI ((a : Int))))] dX7_takeAll_67 (by decide) rfl ?_
  have H68 : ∀ (fu : Nat) (k : Nat), 12 - k < fu → (k ≤ 12) → (TInv (qTA1 M 271 a k)) → sAt zp l ze (sRm 1 23) zs zm za zb zt zc D G 4 0 0 Q 68 [(0, .ref (G.1 (258))), (1, .ref (G.1 (271))), (2, .int (sI ((a : Int)))), (3, .int (sI ((k : Int))))] [] (qTA1 M 271 a k) L := by
    intro fu
    induction fu with
    | zero => intro k hd hk hTk; exact absurd hd (Nat.not_lt_zero _)
    | succ fu ih68 =>
      intro k hd68 hk hTk
      refine at_iload_n C 3 dX7_takeAll_68 rfl ?_
      refine at_bipush C dX7_takeAll_69 (by decide) (by decide) ?_
      refine at_icmp_ge C 94 dX7_takeAll_71 (by decide) (⟨by omega, by omega⟩) (⟨by omega, by omega⟩) (fun h9 => ?_) (fun h9 => ?_)
      · refine at_m (M' := (qTA1 M 271 a 12)) (by rw [show k = 12 by omega]) ?_
        refine at_iconst C dX7_takeAll_94 ?_
        refine at_istore_n C [(3, .int (sI (0))), (0, .ref (G.1 (258))), (1, .ref (G.1 (271))), (2, .int (sI ((a : Int))))] dX7_takeAll_95 (by decide) rfl ?_
        have H96 : ∀ (fu : Nat) (k : Nat), 6 - k < fu → (k ≤ 6) → (TInv (qTA2 M 271 a k)) → sAt zp l ze (sRm 1 23) zs zm za zb zt zc D G 4 0 0 Q 96 [(0, .ref (G.1 (258))), (1, .ref (G.1 (271))), (2, .int (sI ((a : Int)))), (3, .int (sI ((k : Int))))] [] (qTA2 M 271 a k) L := by
          intro fu
          induction fu with
          | zero => intro k hd hk hTk; exact absurd hd (Nat.not_lt_zero _)
          | succ fu ih96 =>
            intro k hd96 hk hTk
            refine at_iload_n C 3 dX7_takeAll_96 rfl ?_
            refine at_bipush C dX7_takeAll_97 (by decide) (by decide) ?_
            refine at_icmp_ge C 150 dX7_takeAll_99 (by decide) (⟨by omega, by omega⟩) (⟨by omega, by omega⟩) (fun h10 => ?_) (fun h10 => ?_)
            · refine at_m (M' := (qTA2 M 271 a 6)) (by rw [show k = 6 by omega]) ?_
              refine at_iconst C dX7_takeAll_150 ?_
              refine at_istore_n C [(3, .int (sI (0))), (0, .ref (G.1 (258))), (1, .ref (G.1 (271))), (2, .int (sI ((a : Int))))] dX7_takeAll_151 (by decide) rfl ?_
              have H152 : ∀ (fu : Nat) (k : Nat), 10 - k < fu → (k ≤ 10) → (TInv (qTA3 M 271 a k)) → sAt zp l ze (sRm 1 23) zs zm za zb zt zc D G 4 0 0 Q 152 [(0, .ref (G.1 (258))), (1, .ref (G.1 (271))), (2, .int (sI ((a : Int)))), (3, .int (sI ((k : Int))))] [] (qTA3 M 271 a k) L := by
                intro fu
                induction fu with
                | zero => intro k hd hk hTk; exact absurd hd (Nat.not_lt_zero _)
                | succ fu ih152 =>
                  intro k hd152 hk hTk
                  refine at_iload_n C 3 dX7_takeAll_152 rfl ?_
                  refine at_bipush C dX7_takeAll_153 (by decide) (by decide) ?_
                  refine at_icmp_ge C 178 dX7_takeAll_155 (by decide) (⟨by omega, by omega⟩) (⟨by omega, by omega⟩) (fun h11 => ?_) (fun h11 => ?_)
                  · refine at_m (M' := (qTA3 M 271 a 10)) (by rw [show k = 10 by omega]) ?_
                    refine at_iconst C dX7_takeAll_178 ?_
                    refine at_istore_n C [(3, .int (sI (0))), (0, .ref (G.1 (258))), (1, .ref (G.1 (271))), (2, .int (sI ((a : Int))))] dX7_takeAll_179 (by decide) rfl ?_
                    have H180 : ∀ (fu : Nat) (k : Nat), 24 - k < fu → (k ≤ 24) → (TInv (qTA4 M 271 a k)) → sAt zp l ze (sRm 1 23) zs zm za zb zt zc D G 4 0 0 Q 180 [(0, .ref (G.1 (258))), (1, .ref (G.1 (271))), (2, .int (sI ((a : Int)))), (3, .int (sI ((k : Int))))] [] (qTA4 M 271 a k) L := by
                      intro fu
                      induction fu with
                      | zero => intro k hd hk hTk; exact absurd hd (Nat.not_lt_zero _)
                      | succ fu ih180 =>
                        intro k hd180 hk hTk
                        refine at_iload_n C 3 dX7_takeAll_180 rfl ?_
                        refine at_bipush C dX7_takeAll_181 (by decide) (by decide) ?_
                        refine at_icmp_ge C 206 dX7_takeAll_183 (by decide) (⟨by omega, by omega⟩) (⟨by omega, by omega⟩) (fun h12 => ?_) (fun h12 => ?_)
                        · refine at_m (M' := (qTA4 M 271 a 24)) (by rw [show k = 24 by omega]) ?_
                          refine at_iconst C dX7_takeAll_206 ?_
                          refine at_istore_n C [(3, .int (sI (0))), (0, .ref (G.1 (258))), (1, .ref (G.1 (271))), (2, .int (sI ((a : Int))))] dX7_takeAll_207 (by decide) rfl ?_
                          have H208 : ∀ (fu : Nat) (k : Nat), 18 - k < fu → (k ≤ 18) → (TInv (qTA5 M 271 a k)) → sAt zp l ze (sRm 1 23) zs zm za zb zt zc D G 4 0 0 Q 208 [(0, .ref (G.1 (258))), (1, .ref (G.1 (271))), (2, .int (sI ((a : Int)))), (3, .int (sI ((k : Int))))] [] (qTA5 M 271 a k) L := by
                            intro fu
                            induction fu with
                            | zero => intro k hd hk hTk; exact absurd hd (Nat.not_lt_zero _)
                            | succ fu ih208 =>
                              intro k hd208 hk hTk
                              refine at_iload_n C 3 dX7_takeAll_208 rfl ?_
                              refine at_bipush C dX7_takeAll_209 (by decide) (by decide) ?_
                              refine at_icmp_ge C 234 dX7_takeAll_211 (by decide) (⟨by omega, by omega⟩) (⟨by omega, by omega⟩) (fun h13 => ?_) (fun h13 => ?_)
                              · refine at_m (M' := (qTA5 M 271 a 18)) (by rw [show k = 18 by omega]) ?_
                                refine at_iconst C dX7_takeAll_234 ?_
                                refine at_istore_n C [(3, .int (sI (0))), (0, .ref (G.1 (258))), (1, .ref (G.1 (271))), (2, .int (sI ((a : Int))))] dX7_takeAll_235 (by decide) rfl ?_
                                have H236 : ∀ (fu : Nat) (k : Nat), 160 - k < fu → (k ≤ 160) → (TInv (qTA6 M 271 a k)) → sAt zp l ze (sRm 1 23) zs zm za zb zt zc D G 4 0 0 Q 236 [(0, .ref (G.1 (258))), (1, .ref (G.1 (271))), (2, .int (sI ((a : Int)))), (3, .int (sI ((k : Int))))] [] (qTA6 M 271 a k) L := by
                                  intro fu
                                  induction fu with
                                  | zero => intro k hd hk hTk; exact absurd hd (Nat.not_lt_zero _)
                                  | succ fu ih236 =>
                                    intro k hd236 hk hTk
                                    refine at_iload_n C 3 dX7_takeAll_236 rfl ?_
                                    refine at_sipush C dX7_takeAll_237 (by decide) (by decide) ?_
                                    refine at_icmp_ge C 263 dX7_takeAll_240 (by decide) (⟨by omega, by omega⟩) (⟨by omega, by omega⟩) (fun h14 => ?_) (fun h14 => ?_)
                                    · refine at_m (M' := (qTA M 271 a)) (by unfold qTA; rw [show k = 160 by omega]) ?_
                                      exact hret _ _ _ _ dX7_takeAll_263 (⟨rfl, (TInv_e (M := (qTA6 M 271 a k)) (N := (qTA M 271 a)) (by unfold qTA; rw [show k = 160 by omega]) hTk), rfl⟩)
                                    · have hv := hT 271 (a + 108 + k)
                                      rw [ra_un hr (by omega)] at hv
                                      refine at_aload_n C 0 dX7_takeAll_243 rfl ?_
                                      refine at_getf (v := .ref (G.1 (272))) C (obj_Ref G) (ci := 7) rfl inX7 (slot := 24) (by decide) qw_906 rfl rfl dX7_takeAll_244 ?_
                                      refine at_iload_n C 3 dX7_takeAll_247 rfl ?_
                                      refine at_aload_n C 1 dX7_takeAll_248 rfl ?_
                                      refine at_iload_n C 2 dX7_takeAll_249 rfl ?_
                                      refine at_bipush C dX7_takeAll_250 (by decide) (by decide) ?_
                                      refine at_iadd C dX7_takeAll_252 ?_
                                      refine at_iload_n C 3 dX7_takeAll_253 rfl ?_
                                      refine at_iadd C dX7_takeAll_254 ?_
                                      refine at_iald C ((a + 108) + k) (ar_271 G) (by omega) (by omega) dX7_takeAll_255 ?_
                                      refine at_ve (b := M 271 ((a + 108) + k)) (rfl) ?_
                                      refine at_iast C k (ar_272 G) (rfl) (by omega) dX7_takeAll_256 ?_
                                      have hT15 : TInv (sSt (qTA6 M 271 a k) 272 k (M 271 ((a + 108) + k))) := tv_st hTk (k := 272) (j := k) (lo := (rgM (k % 20)).1) (hi := (rgM (k % 20)).2) rfl (hv)
                                      refine at_iinc C 3 [(3, .int (sI ((k : Int) + 1))), (0, .ref (G.1 (258))), (1, .ref (G.1 (271))), (2, .int (sI ((a : Int))))] dX7_takeAll_257 rfl (by decide) rfl ?_
                                      refine at_goto C 236 dX7_takeAll_260 (by decide) ?_
                                      refine at_lv [1, 2, 3, 0] rfl ?_
                                      exact at_eq (ih236 (k + 1) (by omega) (by omega) (TInv_e (M := (sSt (qTA6 M 271 a k) 272 k (M 271 ((a + 108) + k)))) (fil_s (qTA5 M 271 a 18) 272 (fun j => M 271 (a + 108 + j)) k) hT15)) (lvc_s (lvc_s (lvc_s (lvc_i (by omega) rfl)))) rfl (fil_s (qTA5 M 271 a 18) 272 (fun j => M 271 (a + 108 + j)) k) (rfl)
                                refine at_lv [1, 2, 3, 0] rfl ?_
                                exact at_eq (H236 _ 0 (Nat.lt_succ_self _) (by omega) (TInv_e (M := (qTA5 M 271 a 18)) (fil_0 (qTA5 M 271 a 18) 272 (fun j => M 271 (a + 108 + j))) (TInv_e (M := (qTA5 M 271 a k)) (N := (qTA5 M 271 a 18)) (by rw [show k = 18 by omega]) hTk))) (lvc_s (lvc_s (lvc_s (lvc_i (rfl) rfl)))) rfl (fil_0 (qTA5 M 271 a 18) 272 (fun j => M 271 (a + 108 + j))) (rfl)
                              · have hv := tv hT (k := 271) (j := a + 90 + k) (lo := 0) (hi := 60) (ra_mk hr (by omega))
                                refine at_aload_n C 0 dX7_takeAll_214 rfl ?_
                                refine at_getf (v := .ref (G.1 (269))) C (obj_Ref G) (ci := 7) rfl inX7 (slot := 17) (by decide) qw_899 rfl rfl dX7_takeAll_215 ?_
                                refine at_iload_n C 3 dX7_takeAll_218 rfl ?_
                                refine at_aload_n C 1 dX7_takeAll_219 rfl ?_
                                refine at_iload_n C 2 dX7_takeAll_220 rfl ?_
                                refine at_bipush C dX7_takeAll_221 (by decide) (by decide) ?_
                                refine at_iadd C dX7_takeAll_223 ?_
                                refine at_iload_n C 3 dX7_takeAll_224 rfl ?_
                                refine at_iadd C dX7_takeAll_225 ?_
                                refine at_iald C ((a + 90) + k) (ar_271 G) (by omega) (by omega) dX7_takeAll_226 ?_
                                refine at_ve (b := M 271 ((a + 90) + k)) (rfl) ?_
                                refine at_iast C k (ar_269 G) (rfl) (by omega) dX7_takeAll_227 ?_
                                have hT16 : TInv (sSt (qTA5 M 271 a k) 269 k (M 271 ((a + 90) + k))) := tv_st hTk (k := 269) rfl (⟨by omega, by omega⟩)
                                refine at_iinc C 3 [(3, .int (sI ((k : Int) + 1))), (0, .ref (G.1 (258))), (1, .ref (G.1 (271))), (2, .int (sI ((a : Int))))] dX7_takeAll_228 rfl (by decide) rfl ?_
                                refine at_goto C 208 dX7_takeAll_231 (by decide) ?_
                                refine at_lv [1, 2, 3, 0] rfl ?_
                                exact at_eq (ih208 (k + 1) (by omega) (by omega) (TInv_e (M := (sSt (qTA5 M 271 a k) 269 k (M 271 ((a + 90) + k)))) (fil_s (qTA4 M 271 a 24) 269 (fun j => M 271 (a + 90 + j)) k) hT16)) (lvc_s (lvc_s (lvc_s (lvc_i (by omega) rfl)))) rfl (fil_s (qTA4 M 271 a 24) 269 (fun j => M 271 (a + 90 + j)) k) (rfl)
                          refine at_lv [1, 2, 3, 0] rfl ?_
                          exact at_eq (H208 _ 0 (Nat.lt_succ_self _) (by omega) (TInv_e (M := (qTA4 M 271 a 24)) (fil_0 (qTA4 M 271 a 24) 269 (fun j => M 271 (a + 90 + j))) (TInv_e (M := (qTA4 M 271 a k)) (N := (qTA4 M 271 a 24)) (by rw [show k = 24 by omega]) hTk))) (lvc_s (lvc_s (lvc_s (lvc_i (rfl) rfl)))) rfl (fil_0 (qTA4 M 271 a 24) 269 (fun j => M 271 (a + 90 + j))) (rfl)
                        · have hv := tv hT (k := 271) (j := a + 66 + k) (lo := 0) (hi := 99) (ra_no hr (by omega))
                          refine at_aload_n C 0 dX7_takeAll_186 rfl ?_
                          refine at_getf (v := .ref (G.1 (268))) C (obj_Ref G) (ci := 7) rfl inX7 (slot := 16) (by decide) qw_898 rfl rfl dX7_takeAll_187 ?_
                          refine at_iload_n C 3 dX7_takeAll_190 rfl ?_
                          refine at_aload_n C 1 dX7_takeAll_191 rfl ?_
                          refine at_iload_n C 2 dX7_takeAll_192 rfl ?_
                          refine at_bipush C dX7_takeAll_193 (by decide) (by decide) ?_
                          refine at_iadd C dX7_takeAll_195 ?_
                          refine at_iload_n C 3 dX7_takeAll_196 rfl ?_
                          refine at_iadd C dX7_takeAll_197 ?_
                          refine at_iald C ((a + 66) + k) (ar_271 G) (by omega) (by omega) dX7_takeAll_198 ?_
                          refine at_ve (b := M 271 ((a + 66) + k)) (rfl) ?_
                          refine at_iast C k (ar_268 G) (rfl) (by omega) dX7_takeAll_199 ?_
                          have hT17 : TInv (sSt (qTA4 M 271 a k) 268 k (M 271 ((a + 66) + k))) := tv_st hTk (k := 268) rfl (⟨by omega, by omega⟩)
                          refine at_iinc C 3 [(3, .int (sI ((k : Int) + 1))), (0, .ref (G.1 (258))), (1, .ref (G.1 (271))), (2, .int (sI ((a : Int))))] dX7_takeAll_200 rfl (by decide) rfl ?_
                          refine at_goto C 180 dX7_takeAll_203 (by decide) ?_
                          refine at_lv [1, 2, 3, 0] rfl ?_
                          exact at_eq (ih180 (k + 1) (by omega) (by omega) (TInv_e (M := (sSt (qTA4 M 271 a k) 268 k (M 271 ((a + 66) + k)))) (fil_s (qTA3 M 271 a 10) 268 (fun j => M 271 (a + 66 + j)) k) hT17)) (lvc_s (lvc_s (lvc_s (lvc_i (by omega) rfl)))) rfl (fil_s (qTA3 M 271 a 10) 268 (fun j => M 271 (a + 66 + j)) k) (rfl)
                    refine at_lv [1, 2, 3, 0] rfl ?_
                    exact at_eq (H180 _ 0 (Nat.lt_succ_self _) (by omega) (TInv_e (M := (qTA3 M 271 a 10)) (fil_0 (qTA3 M 271 a 10) 268 (fun j => M 271 (a + 66 + j))) (TInv_e (M := (qTA3 M 271 a k)) (N := (qTA3 M 271 a 10)) (by rw [show k = 10 by omega]) hTk))) (lvc_s (lvc_s (lvc_s (lvc_i (rfl) rfl)))) rfl (fil_0 (qTA3 M 271 a 10) 268 (fun j => M 271 (a + 66 + j))) (rfl)
                  · have hv := tv hT (k := 271) (j := a + 56 + k) (lo := 0) (hi := 60) (ra_se hr (by omega))
                    refine at_aload_n C 0 dX7_takeAll_158 rfl ?_
                    refine at_getf (v := .ref (G.1 (267))) C (obj_Ref G) (ci := 7) rfl inX7 (slot := 15) (by decide) qw_897 rfl rfl dX7_takeAll_159 ?_
                    refine at_iload_n C 3 dX7_takeAll_162 rfl ?_
                    refine at_aload_n C 1 dX7_takeAll_163 rfl ?_
                    refine at_iload_n C 2 dX7_takeAll_164 rfl ?_
                    refine at_bipush C dX7_takeAll_165 (by decide) (by decide) ?_
                    refine at_iadd C dX7_takeAll_167 ?_
                    refine at_iload_n C 3 dX7_takeAll_168 rfl ?_
                    refine at_iadd C dX7_takeAll_169 ?_
                    refine at_iald C ((a + 56) + k) (ar_271 G) (by omega) (by omega) dX7_takeAll_170 ?_
                    refine at_ve (b := M 271 ((a + 56) + k)) (rfl) ?_
                    refine at_iast C k (ar_267 G) (rfl) (by omega) dX7_takeAll_171 ?_
                    have hT18 : TInv (sSt (qTA3 M 271 a k) 267 k (M 271 ((a + 56) + k))) := tv_st hTk (k := 267) rfl (⟨by omega, by omega⟩)
                    refine at_iinc C 3 [(3, .int (sI ((k : Int) + 1))), (0, .ref (G.1 (258))), (1, .ref (G.1 (271))), (2, .int (sI ((a : Int))))] dX7_takeAll_172 rfl (by decide) rfl ?_
                    refine at_goto C 152 dX7_takeAll_175 (by decide) ?_
                    refine at_lv [1, 2, 3, 0] rfl ?_
                    exact at_eq (ih152 (k + 1) (by omega) (by omega) (TInv_e (M := (sSt (qTA3 M 271 a k) 267 k (M 271 ((a + 56) + k)))) (fil_s (qTA2 M 271 a 6) 267 (fun j => M 271 (a + 56 + j)) k) hT18)) (lvc_s (lvc_s (lvc_s (lvc_i (by omega) rfl)))) rfl (fil_s (qTA2 M 271 a 6) 267 (fun j => M 271 (a + 56 + j)) k) (rfl)
              refine at_lv [1, 2, 3, 0] rfl ?_
              exact at_eq (H152 _ 0 (Nat.lt_succ_self _) (by omega) (TInv_e (M := (qTA2 M 271 a 6)) (fil_0 (qTA2 M 271 a 6) 267 (fun j => M 271 (a + 56 + j))) (TInv_e (M := (qTA2 M 271 a k)) (N := (qTA2 M 271 a 6)) (by rw [show k = 6 by omega]) hTk))) (lvc_s (lvc_s (lvc_s (lvc_i (rfl) rfl)))) rfl (fil_0 (qTA2 M 271 a 6) 267 (fun j => M 271 (a + 56 + j))) (rfl)
            · have hv := tv hT (k := 271) (j := a + 38 + k) (lo := 0) (hi := 5) (ra_kd hr (by omega))
              have hv2 := tv hT (k := 271) (j := a + 44 + k) (lo := 0) (hi := 9) (ra_wt hr (by omega))
              have hv3 := tv hT (k := 271) (j := a + 50 + k) (lo := 0) (hi := 5) (ra_ck hr (by omega))
              refine at_aload_n C 0 dX7_takeAll_102 rfl ?_
              refine at_getf (v := .ref (G.1 (261))) C (obj_Ref G) (ci := 7) rfl inX7 (slot := 9) (by decide) qw_891 rfl rfl dX7_takeAll_103 ?_
              refine at_iload_n C 3 dX7_takeAll_106 rfl ?_
              refine at_aload_n C 1 dX7_takeAll_107 rfl ?_
              refine at_iload_n C 2 dX7_takeAll_108 rfl ?_
              refine at_bipush C dX7_takeAll_109 (by decide) (by decide) ?_
              refine at_iadd C dX7_takeAll_111 ?_
              refine at_iload_n C 3 dX7_takeAll_112 rfl ?_
              refine at_iadd C dX7_takeAll_113 ?_
              refine at_iald C ((a + 38) + k) (ar_271 G) (by omega) (by omega) dX7_takeAll_114 ?_
              refine at_ve (b := M 271 ((a + 38) + k)) (rfl) ?_
              refine at_iast C k (ar_261 G) (rfl) (by omega) dX7_takeAll_115 ?_
              have hT19 : TInv (sSt (qTA2 M 271 a k) 261 k (M 271 ((a + 38) + k))) := tv_st hTk (k := 261) rfl (⟨by omega, by omega⟩)
              refine at_aload_n C 0 dX7_takeAll_116 rfl ?_
              refine at_getf (v := .ref (G.1 (262))) C (obj_Ref G) (ci := 7) rfl inX7 (slot := 10) (by decide) qw_892 rfl rfl dX7_takeAll_117 ?_
              refine at_iload_n C 3 dX7_takeAll_120 rfl ?_
              refine at_aload_n C 1 dX7_takeAll_121 rfl ?_
              refine at_iload_n C 2 dX7_takeAll_122 rfl ?_
              refine at_bipush C dX7_takeAll_123 (by decide) (by decide) ?_
              refine at_iadd C dX7_takeAll_125 ?_
              refine at_iload_n C 3 dX7_takeAll_126 rfl ?_
              refine at_iadd C dX7_takeAll_127 ?_
              refine at_iald C ((a + 44) + k) (ar_271 G) (by omega) (by omega) dX7_takeAll_128 ?_
              refine at_ve (b := M 271 ((a + 44) + k)) (rfl) ?_
              refine at_iast C k (ar_262 G) (rfl) (by omega) dX7_takeAll_129 ?_
              have hT20 : TInv (sSt (sSt (qTA2 M 271 a k) 261 k (M 271 ((a + 38) + k))) 262 k (M 271 ((a + 44) + k))) := tv_st hT19 (k := 262) rfl (⟨by omega, by omega⟩)
              refine at_aload_n C 0 dX7_takeAll_130 rfl ?_
              refine at_getf (v := .ref (G.1 (266))) C (obj_Ref G) (ci := 7) rfl inX7 (slot := 14) (by decide) qw_896 rfl rfl dX7_takeAll_131 ?_
              refine at_iload_n C 3 dX7_takeAll_134 rfl ?_
              refine at_aload_n C 1 dX7_takeAll_135 rfl ?_
              refine at_iload_n C 2 dX7_takeAll_136 rfl ?_
              refine at_bipush C dX7_takeAll_137 (by decide) (by decide) ?_
              refine at_iadd C dX7_takeAll_139 ?_
              refine at_iload_n C 3 dX7_takeAll_140 rfl ?_
              refine at_iadd C dX7_takeAll_141 ?_
              refine at_iald C ((a + 50) + k) (ar_271 G) (by omega) (by omega) dX7_takeAll_142 ?_
              refine at_ve (b := M 271 ((a + 50) + k)) (rfl) ?_
              refine at_iast C k (ar_266 G) (rfl) (by omega) dX7_takeAll_143 ?_
              have hT21 : TInv (sSt (sSt (sSt (qTA2 M 271 a k) 261 k (M 271 ((a + 38) + k))) 262 k (M 271 ((a + 44) + k))) 266 k (M 271 ((a + 50) + k))) := tv_st hT20 (k := 266) rfl (⟨by omega, by omega⟩)
              refine at_iinc C 3 [(3, .int (sI ((k : Int) + 1))), (0, .ref (G.1 (258))), (1, .ref (G.1 (271))), (2, .int (sI ((a : Int))))] dX7_takeAll_144 rfl (by decide) rfl ?_
              refine at_goto C 96 dX7_takeAll_147 (by decide) ?_
              refine at_lv [1, 2, 3, 0] rfl ?_
              exact at_eq (ih96 (k + 1) (by omega) (by omega) (TInv_e (M := (sSt (sSt (sSt (qTA2 M 271 a k) 261 k (M 271 ((a + 38) + k))) 262 k (M 271 ((a + 44) + k))) 266 k (M 271 ((a + 50) + k)))) (fil3_s (qTA1 M 271 a 12) (c := 261) (d := 262) (e := 266) (fun j => M 271 (a + 38 + j)) (fun j => M 271 (a + 44 + j)) (fun j => M 271 (a + 50 + j)) k (by decide) (by decide) (by decide)) hT21)) (lvc_s (lvc_s (lvc_s (lvc_i (by omega) rfl)))) rfl (fil3_s (qTA1 M 271 a 12) (c := 261) (d := 262) (e := 266) (fun j => M 271 (a + 38 + j)) (fun j => M 271 (a + 44 + j)) (fun j => M 271 (a + 50 + j)) k (by decide) (by decide) (by decide)) (rfl)
        refine at_lv [1, 2, 3, 0] rfl ?_
        exact at_eq (H96 _ 0 (Nat.lt_succ_self _) (by omega) (TInv_e (M := (qTA1 M 271 a 12)) (fil3_0 (qTA1 M 271 a 12) 261 262 266 (fun j => M 271 (a + 38 + j)) (fun j => M 271 (a + 44 + j)) (fun j => M 271 (a + 50 + j))) (TInv_e (M := (qTA1 M 271 a k)) (N := (qTA1 M 271 a 12)) (by rw [show k = 12 by omega]) hTk))) (lvc_s (lvc_s (lvc_s (lvc_i (rfl) rfl)))) rfl (fil3_0 (qTA1 M 271 a 12) 261 262 266 (fun j => M 271 (a + 38 + j)) (fun j => M 271 (a + 44 + j)) (fun j => M 271 (a + 50 + j))) (rfl)
      · have hv := tv hT (k := 271) (j := a + 26 + k) (lo := -2) (hi := 2) (ra_cu hr (by omega))
        refine at_aload_n C 0 dX7_takeAll_74 rfl ?_
        refine at_getf (v := .ref (G.1 (260))) C (obj_Ref G) (ci := 7) rfl inX7 (slot := 8) (by decide) qw_890 rfl rfl dX7_takeAll_75 ?_
        refine at_iload_n C 3 dX7_takeAll_78 rfl ?_
        refine at_aload_n C 1 dX7_takeAll_79 rfl ?_
        refine at_iload_n C 2 dX7_takeAll_80 rfl ?_
        refine at_bipush C dX7_takeAll_81 (by decide) (by decide) ?_
        refine at_iadd C dX7_takeAll_83 ?_
        refine at_iload_n C 3 dX7_takeAll_84 rfl ?_
        refine at_iadd C dX7_takeAll_85 ?_
        refine at_iald C ((a + 26) + k) (ar_271 G) (by omega) (by omega) dX7_takeAll_86 ?_
        refine at_ve (b := M 271 ((a + 26) + k)) (rfl) ?_
        refine at_iast C k (ar_260 G) (rfl) (by omega) dX7_takeAll_87 ?_
        have hT22 : TInv (sSt (qTA1 M 271 a k) 260 k (M 271 ((a + 26) + k))) := tv_st hTk (k := 260) rfl (⟨by omega, by omega⟩)
        refine at_iinc C 3 [(3, .int (sI ((k : Int) + 1))), (0, .ref (G.1 (258))), (1, .ref (G.1 (271))), (2, .int (sI ((a : Int))))] dX7_takeAll_88 rfl (by decide) rfl ?_
        refine at_goto C 68 dX7_takeAll_91 (by decide) ?_
        refine at_lv [1, 2, 3, 0] rfl ?_
        exact at_eq (ih68 (k + 1) (by omega) (by omega) (TInv_e (M := (sSt (qTA1 M 271 a k) 260 k (M 271 ((a + 26) + k)))) (fil_s (qTA0 M 271 a) 260 (fun j => M 271 (a + 26 + j)) k) hT22)) (lvc_s (lvc_s (lvc_s (lvc_i (by omega) rfl)))) rfl (fil_s (qTA0 M 271 a) 260 (fun j => M 271 (a + 26 + j)) k) (rfl)
  refine at_lv [1, 2, 3, 0] rfl ?_
  exact at_eq (H68 _ 0 (Nat.lt_succ_self _) (by omega) (TInv_e (M := (qTA0 M 271 a)) (fil_0 (qTA0 M 271 a) 260 (fun j => M 271 (a + 26 + j))) hT8)) (lvc_s (lvc_s (lvc_s (lvc_i (rfl) rfl)))) rfl (fil_0 (qTA0 M 271 a) 260 (fun j => M 271 (a + 26 + j))) (rfl)

set_option maxHeartbeats 4000000 in
set_option maxRecDepth 100000 in
theorem c_X7_takeAll_278 (l : Launch) (D : va_G) (G : sG) {M : sM} {L : sL} (a : Nat) (hr : isRa 278 a 560) (hT : TInv M) : sKv l D G yX7_takeAll cX7_takeAll 4 1 23 [.ref (G.1 (258)), .ref (G.1 (278)), .int (sI ((a : Int)))] M L (fun M' L' => M' = qTA M 278 a ∧ TInv M' ∧ L = L') := by
  refine sKv_go (by decide) (Nat.le_of_ble_eq_true rfl) ?_
  intro zp ze zs zm za zb zt zc Q C hret
  refine at_eq (lv' := [(0, .ref (G.1 (258))), (1, .ref (G.1 (278))), (2, .int (sI ((a : Int))))]) (st' := []) (M' := M) (L' := L) ?_ rfl rfl rfl rfl
  have hqn := qn_r hT
  have hqc := qc_r hT
  have hqu := qu_r hT
  have hqt := qt_r hT
  have hqs := qs_r hT
  have hqo := qo_r hT
  have hqm := qm_r hT
  have hr2 := hr.2.1
  have hrc := isRa_c hr
  have h20 := tv hT (k := 278) (j := a + 20) (lo := 0) (hi := 6) ((hr.2.2 20 (by decide)).trans rfl)
  have h21 := tv hT (k := 278) (j := a + 21) (lo := 0) (hi := 6) ((hr.2.2 21 (by decide)).trans rfl)
  have h22 := tv hT (k := 278) (j := a + 22) (lo := 0) (hi := 5) ((hr.2.2 22 (by decide)).trans rfl)
  have h23 := tv hT (k := 278) (j := a + 23) (lo := 0) (hi := 6) ((hr.2.2 23 (by decide)).trans rfl)
  have h24 := tv hT (k := 278) (j := a + 24) (lo := 0) (hi := 6) ((hr.2.2 24 (by decide)).trans rfl)
  have h25 := tv hT (k := 278) (j := a + 25) (lo := 0) (hi := 8) ((hr.2.2 25 (by decide)).trans rfl)
  refine at_aload_n C 0 dX7_takeAll_0 rfl ?_
  refine at_aload_n C 1 dX7_takeAll_1 rfl ?_
  refine at_iload_n C 2 dX7_takeAll_2 rfl ?_
  refine at_call_v C (c_X7_takes l D G (b := 278) (a := a) (n := 560) (ar_278 G) hrc hT) (As := [.ref (G.1 (278)), .int (sI ((a : Int)))]) (obj_Ref G) (ci := 7) rfl qw_1196 qw_1193 qw_8 qw_1195 qp_69 ⟨by decide, by decide, show (parseMethodDescriptor yX7_takes.desc).map (fun d => d.parameters.length) = some 2 by decide +kernel⟩ ⟨by decide, by decide⟩ ⟨Nat.zero_le _, Nat.zero_le _⟩ (Nat.le_of_ble_eq_true rfl) dX7_takeAll_3 rfl (fun M' L' hp2 => ?_)
  obtain ⟨rfl, hT1, rfl⟩ := hp2
  refine at_aload_n C 0 dX7_takeAll_6 rfl ?_
  refine at_aload_n C 1 dX7_takeAll_7 rfl ?_
  refine at_iload_n C 2 dX7_takeAll_8 rfl ?_
  refine at_bipush C dX7_takeAll_9 (by decide) (by decide) ?_
  refine at_iadd C dX7_takeAll_11 ?_
  refine at_iald C (a + 20) (ar_278 G) (by omega) (by omega) dX7_takeAll_12 ?_
  refine at_ve (b := M 278 (a + 20)) (rfl) ?_
  refine at_putM (slot := 1) (ty := .int) C tyX7 (obj_Ref G) (ci := 7) rfl inX7 tyX7_ok nmX7 (by decide) qw_883 rfl rfl (by decide +kernel) rfl rfl (Nat.le_of_ble_eq_true rfl) rfl dX7_takeAll_13 ?_
  have hT3 : TInv (sSt (qTak M 278 a) 258 1 (M 278 (a + 20))) := tv_st hT1 (k := 258) (j := 1) rfl (⟨by omega, by omega⟩)
  refine at_aload_n C 0 dX7_takeAll_16 rfl ?_
  refine at_aload_n C 1 dX7_takeAll_17 rfl ?_
  refine at_iload_n C 2 dX7_takeAll_18 rfl ?_
  refine at_bipush C dX7_takeAll_19 (by decide) (by decide) ?_
  refine at_iadd C dX7_takeAll_21 ?_
  refine at_iald C (a + 21) (ar_278 G) (by omega) (by omega) dX7_takeAll_22 ?_
  refine at_ve (b := M 278 (a + 21)) (rfl) ?_
  refine at_putM (slot := 2) (ty := .int) C tyX7 (obj_Ref G) (ci := 7) rfl inX7 tyX7_ok nmX7 (by decide) qw_884 rfl rfl (by decide +kernel) rfl rfl (Nat.le_of_ble_eq_true rfl) rfl dX7_takeAll_23 ?_
  have hT4 : TInv (sSt (sSt (qTak M 278 a) 258 1 (M 278 (a + 20))) 258 2 (M 278 (a + 21))) := tv_st hT3 (k := 258) (j := 2) rfl (⟨by omega, by omega⟩)
  refine at_aload_n C 0 dX7_takeAll_26 rfl ?_
  refine at_aload_n C 1 dX7_takeAll_27 rfl ?_
  refine at_iload_n C 2 dX7_takeAll_28 rfl ?_
  refine at_bipush C dX7_takeAll_29 (by decide) (by decide) ?_
  refine at_iadd C dX7_takeAll_31 ?_
  refine at_iald C (a + 22) (ar_278 G) (by omega) (by omega) dX7_takeAll_32 ?_
  refine at_ve (b := M 278 (a + 22)) (rfl) ?_
  refine at_putM (slot := 5) (ty := .int) C tyX7 (obj_Ref G) (ci := 7) rfl inX7 tyX7_ok nmX7 (by decide) qw_887 rfl rfl (by decide +kernel) rfl rfl (Nat.le_of_ble_eq_true rfl) rfl dX7_takeAll_33 ?_
  have hT5 : TInv (sSt (sSt (sSt (qTak M 278 a) 258 1 (M 278 (a + 20))) 258 2 (M 278 (a + 21))) 258 5 (M 278 (a + 22))) := tv_st hT4 (k := 258) (j := 5) rfl (⟨by omega, by omega⟩)
  refine at_aload_n C 0 dX7_takeAll_36 rfl ?_
  refine at_aload_n C 1 dX7_takeAll_37 rfl ?_
  refine at_iload_n C 2 dX7_takeAll_38 rfl ?_
  refine at_bipush C dX7_takeAll_39 (by decide) (by decide) ?_
  refine at_iadd C dX7_takeAll_41 ?_
  refine at_iald C (a + 23) (ar_278 G) (by omega) (by omega) dX7_takeAll_42 ?_
  refine at_ve (b := M 278 (a + 23)) (rfl) ?_
  refine at_putM (slot := 6) (ty := .int) C tyX7 (obj_Ref G) (ci := 7) rfl inX7 tyX7_ok nmX7 (by decide) qw_888 rfl rfl (by decide +kernel) rfl rfl (Nat.le_of_ble_eq_true rfl) rfl dX7_takeAll_43 ?_
  have hT6 : TInv (sSt (sSt (sSt (sSt (qTak M 278 a) 258 1 (M 278 (a + 20))) 258 2 (M 278 (a + 21))) 258 5 (M 278 (a + 22))) 258 6 (M 278 (a + 23))) := tv_st hT5 (k := 258) (j := 6) rfl (⟨by omega, by omega⟩)
  refine at_aload_n C 0 dX7_takeAll_46 rfl ?_
  refine at_aload_n C 1 dX7_takeAll_47 rfl ?_
  refine at_iload_n C 2 dX7_takeAll_48 rfl ?_
  refine at_bipush C dX7_takeAll_49 (by decide) (by decide) ?_
  refine at_iadd C dX7_takeAll_51 ?_
  refine at_iald C (a + 24) (ar_278 G) (by omega) (by omega) dX7_takeAll_52 ?_
  refine at_ve (b := M 278 (a + 24)) (rfl) ?_
  refine at_putM (slot := 7) (ty := .int) C tyX7 (obj_Ref G) (ci := 7) rfl inX7 tyX7_ok nmX7 (by decide) qw_889 rfl rfl (by decide +kernel) rfl rfl (Nat.le_of_ble_eq_true rfl) rfl dX7_takeAll_53 ?_
  have hT7 : TInv (sSt (sSt (sSt (sSt (sSt (qTak M 278 a) 258 1 (M 278 (a + 20))) 258 2 (M 278 (a + 21))) 258 5 (M 278 (a + 22))) 258 6 (M 278 (a + 23))) 258 7 (M 278 (a + 24))) := tv_st hT6 (k := 258) (j := 7) rfl (⟨by omega, by omega⟩)
  refine at_aload_n C 0 dX7_takeAll_56 rfl ?_
  refine at_aload_n C 1 dX7_takeAll_57 rfl ?_
  refine at_iload_n C 2 dX7_takeAll_58 rfl ?_
  refine at_bipush C dX7_takeAll_59 (by decide) (by decide) ?_
  refine at_iadd C dX7_takeAll_61 ?_
  refine at_iald C (a + 25) (ar_278 G) (by omega) (by omega) dX7_takeAll_62 ?_
  refine at_ve (b := M 278 (a + 25)) (rfl) ?_
  refine at_putM (slot := 25) (ty := .int) C tyX7 (obj_Ref G) (ci := 7) rfl inX7 tyX7_ok nmX7 (by decide) qw_907 rfl rfl (by decide +kernel) rfl rfl (Nat.le_of_ble_eq_true rfl) rfl dX7_takeAll_63 ?_
  have hT8 : TInv (sSt (sSt (sSt (sSt (sSt (sSt (qTak M 278 a) 258 1 (M 278 (a + 20))) 258 2 (M 278 (a + 21))) 258 5 (M 278 (a + 22))) 258 6 (M 278 (a + 23))) 258 7 (M 278 (a + 24))) 258 25 (M 278 (a + 25))) := tv_st hT7 (k := 258) (j := 25) rfl (⟨by omega, by omega⟩)
  refine at_m (M' := (qTA0 M 278 a)) (rfl) ?_
  refine at_iconst C dX7_takeAll_66 ?_
  refine at_istore_n C [(3, .int (sI (0))), (0, .ref (G.1 (258))), (1, .ref (G.1 (278))), (2, .int (sI ((a : Int))))] dX7_takeAll_67 (by decide) rfl ?_
  have H68 : ∀ (fu : Nat) (k : Nat), 12 - k < fu → (k ≤ 12) → (TInv (qTA1 M 278 a k)) → sAt zp l ze (sRm 1 23) zs zm za zb zt zc D G 4 0 0 Q 68 [(0, .ref (G.1 (258))), (1, .ref (G.1 (278))), (2, .int (sI ((a : Int)))), (3, .int (sI ((k : Int))))] [] (qTA1 M 278 a k) L := by
    intro fu
    induction fu with
    | zero => intro k hd hk hTk; exact absurd hd (Nat.not_lt_zero _)
    | succ fu ih68 =>
      intro k hd68 hk hTk
      refine at_iload_n C 3 dX7_takeAll_68 rfl ?_
      refine at_bipush C dX7_takeAll_69 (by decide) (by decide) ?_
      refine at_icmp_ge C 94 dX7_takeAll_71 (by decide) (⟨by omega, by omega⟩) (⟨by omega, by omega⟩) (fun h9 => ?_) (fun h9 => ?_)
      · refine at_m (M' := (qTA1 M 278 a 12)) (by rw [show k = 12 by omega]) ?_
        refine at_iconst C dX7_takeAll_94 ?_
        refine at_istore_n C [(3, .int (sI (0))), (0, .ref (G.1 (258))), (1, .ref (G.1 (278))), (2, .int (sI ((a : Int))))] dX7_takeAll_95 (by decide) rfl ?_
        have H96 : ∀ (fu : Nat) (k : Nat), 6 - k < fu → (k ≤ 6) → (TInv (qTA2 M 278 a k)) → sAt zp l ze (sRm 1 23) zs zm za zb zt zc D G 4 0 0 Q 96 [(0, .ref (G.1 (258))), (1, .ref (G.1 (278))), (2, .int (sI ((a : Int)))), (3, .int (sI ((k : Int))))] [] (qTA2 M 278 a k) L := by
          intro fu
          induction fu with
          | zero => intro k hd hk hTk; exact absurd hd (Nat.not_lt_zero _)
          | succ fu ih96 =>
            intro k hd96 hk hTk
            refine at_iload_n C 3 dX7_takeAll_96 rfl ?_
            refine at_bipush C dX7_takeAll_97 (by decide) (by decide) ?_
            refine at_icmp_ge C 150 dX7_takeAll_99 (by decide) (⟨by omega, by omega⟩) (⟨by omega, by omega⟩) (fun h10 => ?_) (fun h10 => ?_)
            · refine at_m (M' := (qTA2 M 278 a 6)) (by rw [show k = 6 by omega]) ?_
              refine at_iconst C dX7_takeAll_150 ?_
              refine at_istore_n C [(3, .int (sI (0))), (0, .ref (G.1 (258))), (1, .ref (G.1 (278))), (2, .int (sI ((a : Int))))] dX7_takeAll_151 (by decide) rfl ?_
              have H152 : ∀ (fu : Nat) (k : Nat), 10 - k < fu → (k ≤ 10) → (TInv (qTA3 M 278 a k)) → sAt zp l ze (sRm 1 23) zs zm za zb zt zc D G 4 0 0 Q 152 [(0, .ref (G.1 (258))), (1, .ref (G.1 (278))), (2, .int (sI ((a : Int)))), (3, .int (sI ((k : Int))))] [] (qTA3 M 278 a k) L := by
                intro fu
                induction fu with
                | zero => intro k hd hk hTk; exact absurd hd (Nat.not_lt_zero _)
                | succ fu ih152 =>
                  intro k hd152 hk hTk
                  refine at_iload_n C 3 dX7_takeAll_152 rfl ?_
                  refine at_bipush C dX7_takeAll_153 (by decide) (by decide) ?_
                  refine at_icmp_ge C 178 dX7_takeAll_155 (by decide) (⟨by omega, by omega⟩) (⟨by omega, by omega⟩) (fun h11 => ?_) (fun h11 => ?_)
                  · refine at_m (M' := (qTA3 M 278 a 10)) (by rw [show k = 10 by omega]) ?_
                    refine at_iconst C dX7_takeAll_178 ?_
                    refine at_istore_n C [(3, .int (sI (0))), (0, .ref (G.1 (258))), (1, .ref (G.1 (278))), (2, .int (sI ((a : Int))))] dX7_takeAll_179 (by decide) rfl ?_
                    have H180 : ∀ (fu : Nat) (k : Nat), 24 - k < fu → (k ≤ 24) → (TInv (qTA4 M 278 a k)) → sAt zp l ze (sRm 1 23) zs zm za zb zt zc D G 4 0 0 Q 180 [(0, .ref (G.1 (258))), (1, .ref (G.1 (278))), (2, .int (sI ((a : Int)))), (3, .int (sI ((k : Int))))] [] (qTA4 M 278 a k) L := by
                      intro fu
                      induction fu with
                      | zero => intro k hd hk hTk; exact absurd hd (Nat.not_lt_zero _)
                      | succ fu ih180 =>
                        intro k hd180 hk hTk
                        refine at_iload_n C 3 dX7_takeAll_180 rfl ?_
                        refine at_bipush C dX7_takeAll_181 (by decide) (by decide) ?_
                        refine at_icmp_ge C 206 dX7_takeAll_183 (by decide) (⟨by omega, by omega⟩) (⟨by omega, by omega⟩) (fun h12 => ?_) (fun h12 => ?_)
                        · refine at_m (M' := (qTA4 M 278 a 24)) (by rw [show k = 24 by omega]) ?_
                          refine at_iconst C dX7_takeAll_206 ?_
                          refine at_istore_n C [(3, .int (sI (0))), (0, .ref (G.1 (258))), (1, .ref (G.1 (278))), (2, .int (sI ((a : Int))))] dX7_takeAll_207 (by decide) rfl ?_
                          have H208 : ∀ (fu : Nat) (k : Nat), 18 - k < fu → (k ≤ 18) → (TInv (qTA5 M 278 a k)) → sAt zp l ze (sRm 1 23) zs zm za zb zt zc D G 4 0 0 Q 208 [(0, .ref (G.1 (258))), (1, .ref (G.1 (278))), (2, .int (sI ((a : Int)))), (3, .int (sI ((k : Int))))] [] (qTA5 M 278 a k) L := by
                            intro fu
                            induction fu with
                            | zero => intro k hd hk hTk; exact absurd hd (Nat.not_lt_zero _)
                            | succ fu ih208 =>
                              intro k hd208 hk hTk
                              refine at_iload_n C 3 dX7_takeAll_208 rfl ?_
                              refine at_bipush C dX7_takeAll_209 (by decide) (by decide) ?_
                              refine at_icmp_ge C 234 dX7_takeAll_211 (by decide) (⟨by omega, by omega⟩) (⟨by omega, by omega⟩) (fun h13 => ?_) (fun h13 => ?_)
                              · refine at_m (M' := (qTA5 M 278 a 18)) (by rw [show k = 18 by omega]) ?_
                                refine at_iconst C dX7_takeAll_234 ?_
                                refine at_istore_n C [(3, .int (sI (0))), (0, .ref (G.1 (258))), (1, .ref (G.1 (278))), (2, .int (sI ((a : Int))))] dX7_takeAll_235 (by decide) rfl ?_
                                have H236 : ∀ (fu : Nat) (k : Nat), 160 - k < fu → (k ≤ 160) → (TInv (qTA6 M 278 a k)) → sAt zp l ze (sRm 1 23) zs zm za zb zt zc D G 4 0 0 Q 236 [(0, .ref (G.1 (258))), (1, .ref (G.1 (278))), (2, .int (sI ((a : Int)))), (3, .int (sI ((k : Int))))] [] (qTA6 M 278 a k) L := by
                                  intro fu
                                  induction fu with
                                  | zero => intro k hd hk hTk; exact absurd hd (Nat.not_lt_zero _)
                                  | succ fu ih236 =>
                                    intro k hd236 hk hTk
                                    refine at_iload_n C 3 dX7_takeAll_236 rfl ?_
                                    refine at_sipush C dX7_takeAll_237 (by decide) (by decide) ?_
                                    refine at_icmp_ge C 263 dX7_takeAll_240 (by decide) (⟨by omega, by omega⟩) (⟨by omega, by omega⟩) (fun h14 => ?_) (fun h14 => ?_)
                                    · refine at_m (M' := (qTA M 278 a)) (by unfold qTA; rw [show k = 160 by omega]) ?_
                                      exact hret _ _ _ _ dX7_takeAll_263 (⟨rfl, (TInv_e (M := (qTA6 M 278 a k)) (N := (qTA M 278 a)) (by unfold qTA; rw [show k = 160 by omega]) hTk), rfl⟩)
                                    · have hv := hT 278 (a + 108 + k)
                                      rw [ra_un hr (by omega)] at hv
                                      refine at_aload_n C 0 dX7_takeAll_243 rfl ?_
                                      refine at_getf (v := .ref (G.1 (272))) C (obj_Ref G) (ci := 7) rfl inX7 (slot := 24) (by decide) qw_906 rfl rfl dX7_takeAll_244 ?_
                                      refine at_iload_n C 3 dX7_takeAll_247 rfl ?_
                                      refine at_aload_n C 1 dX7_takeAll_248 rfl ?_
                                      refine at_iload_n C 2 dX7_takeAll_249 rfl ?_
                                      refine at_bipush C dX7_takeAll_250 (by decide) (by decide) ?_
                                      refine at_iadd C dX7_takeAll_252 ?_
                                      refine at_iload_n C 3 dX7_takeAll_253 rfl ?_
                                      refine at_iadd C dX7_takeAll_254 ?_
                                      refine at_iald C ((a + 108) + k) (ar_278 G) (by omega) (by omega) dX7_takeAll_255 ?_
                                      refine at_ve (b := M 278 ((a + 108) + k)) (rfl) ?_
                                      refine at_iast C k (ar_272 G) (rfl) (by omega) dX7_takeAll_256 ?_
                                      have hT15 : TInv (sSt (qTA6 M 278 a k) 272 k (M 278 ((a + 108) + k))) := tv_st hTk (k := 272) (j := k) (lo := (rgM (k % 20)).1) (hi := (rgM (k % 20)).2) rfl (hv)
                                      refine at_iinc C 3 [(3, .int (sI ((k : Int) + 1))), (0, .ref (G.1 (258))), (1, .ref (G.1 (278))), (2, .int (sI ((a : Int))))] dX7_takeAll_257 rfl (by decide) rfl ?_
                                      refine at_goto C 236 dX7_takeAll_260 (by decide) ?_
                                      refine at_lv [1, 2, 3, 0] rfl ?_
                                      exact at_eq (ih236 (k + 1) (by omega) (by omega) (TInv_e (M := (sSt (qTA6 M 278 a k) 272 k (M 278 ((a + 108) + k)))) (fil_s (qTA5 M 278 a 18) 272 (fun j => M 278 (a + 108 + j)) k) hT15)) (lvc_s (lvc_s (lvc_s (lvc_i (by omega) rfl)))) rfl (fil_s (qTA5 M 278 a 18) 272 (fun j => M 278 (a + 108 + j)) k) (rfl)
                                refine at_lv [1, 2, 3, 0] rfl ?_
                                exact at_eq (H236 _ 0 (Nat.lt_succ_self _) (by omega) (TInv_e (M := (qTA5 M 278 a 18)) (fil_0 (qTA5 M 278 a 18) 272 (fun j => M 278 (a + 108 + j))) (TInv_e (M := (qTA5 M 278 a k)) (N := (qTA5 M 278 a 18)) (by rw [show k = 18 by omega]) hTk))) (lvc_s (lvc_s (lvc_s (lvc_i (rfl) rfl)))) rfl (fil_0 (qTA5 M 278 a 18) 272 (fun j => M 278 (a + 108 + j))) (rfl)
                              · have hv := tv hT (k := 278) (j := a + 90 + k) (lo := 0) (hi := 60) (ra_mk hr (by omega))
                                refine at_aload_n C 0 dX7_takeAll_214 rfl ?_
                                refine at_getf (v := .ref (G.1 (269))) C (obj_Ref G) (ci := 7) rfl inX7 (slot := 17) (by decide) qw_899 rfl rfl dX7_takeAll_215 ?_
                                refine at_iload_n C 3 dX7_takeAll_218 rfl ?_
                                refine at_aload_n C 1 dX7_takeAll_219 rfl ?_
                                refine at_iload_n C 2 dX7_takeAll_220 rfl ?_
                                refine at_bipush C dX7_takeAll_221 (by decide) (by decide) ?_
                                refine at_iadd C dX7_takeAll_223 ?_
                                refine at_iload_n C 3 dX7_takeAll_224 rfl ?_
                                refine at_iadd C dX7_takeAll_225 ?_
                                refine at_iald C ((a + 90) + k) (ar_278 G) (by omega) (by omega) dX7_takeAll_226 ?_
                                refine at_ve (b := M 278 ((a + 90) + k)) (rfl) ?_
                                refine at_iast C k (ar_269 G) (rfl) (by omega) dX7_takeAll_227 ?_
                                have hT16 : TInv (sSt (qTA5 M 278 a k) 269 k (M 278 ((a + 90) + k))) := tv_st hTk (k := 269) rfl (⟨by omega, by omega⟩)
                                refine at_iinc C 3 [(3, .int (sI ((k : Int) + 1))), (0, .ref (G.1 (258))), (1, .ref (G.1 (278))), (2, .int (sI ((a : Int))))] dX7_takeAll_228 rfl (by decide) rfl ?_
                                refine at_goto C 208 dX7_takeAll_231 (by decide) ?_
                                refine at_lv [1, 2, 3, 0] rfl ?_
                                exact at_eq (ih208 (k + 1) (by omega) (by omega) (TInv_e (M := (sSt (qTA5 M 278 a k) 269 k (M 278 ((a + 90) + k)))) (fil_s (qTA4 M 278 a 24) 269 (fun j => M 278 (a + 90 + j)) k) hT16)) (lvc_s (lvc_s (lvc_s (lvc_i (by omega) rfl)))) rfl (fil_s (qTA4 M 278 a 24) 269 (fun j => M 278 (a + 90 + j)) k) (rfl)
                          refine at_lv [1, 2, 3, 0] rfl ?_
                          exact at_eq (H208 _ 0 (Nat.lt_succ_self _) (by omega) (TInv_e (M := (qTA4 M 278 a 24)) (fil_0 (qTA4 M 278 a 24) 269 (fun j => M 278 (a + 90 + j))) (TInv_e (M := (qTA4 M 278 a k)) (N := (qTA4 M 278 a 24)) (by rw [show k = 24 by omega]) hTk))) (lvc_s (lvc_s (lvc_s (lvc_i (rfl) rfl)))) rfl (fil_0 (qTA4 M 278 a 24) 269 (fun j => M 278 (a + 90 + j))) (rfl)
                        · have hv := tv hT (k := 278) (j := a + 66 + k) (lo := 0) (hi := 99) (ra_no hr (by omega))
                          refine at_aload_n C 0 dX7_takeAll_186 rfl ?_
                          refine at_getf (v := .ref (G.1 (268))) C (obj_Ref G) (ci := 7) rfl inX7 (slot := 16) (by decide) qw_898 rfl rfl dX7_takeAll_187 ?_
                          refine at_iload_n C 3 dX7_takeAll_190 rfl ?_
                          refine at_aload_n C 1 dX7_takeAll_191 rfl ?_
                          refine at_iload_n C 2 dX7_takeAll_192 rfl ?_
                          refine at_bipush C dX7_takeAll_193 (by decide) (by decide) ?_
                          refine at_iadd C dX7_takeAll_195 ?_
                          refine at_iload_n C 3 dX7_takeAll_196 rfl ?_
                          refine at_iadd C dX7_takeAll_197 ?_
                          refine at_iald C ((a + 66) + k) (ar_278 G) (by omega) (by omega) dX7_takeAll_198 ?_
                          refine at_ve (b := M 278 ((a + 66) + k)) (rfl) ?_
                          refine at_iast C k (ar_268 G) (rfl) (by omega) dX7_takeAll_199 ?_
                          have hT17 : TInv (sSt (qTA4 M 278 a k) 268 k (M 278 ((a + 66) + k))) := tv_st hTk (k := 268) rfl (⟨by omega, by omega⟩)
                          refine at_iinc C 3 [(3, .int (sI ((k : Int) + 1))), (0, .ref (G.1 (258))), (1, .ref (G.1 (278))), (2, .int (sI ((a : Int))))] dX7_takeAll_200 rfl (by decide) rfl ?_
                          refine at_goto C 180 dX7_takeAll_203 (by decide) ?_
                          refine at_lv [1, 2, 3, 0] rfl ?_
                          exact at_eq (ih180 (k + 1) (by omega) (by omega) (TInv_e (M := (sSt (qTA4 M 278 a k) 268 k (M 278 ((a + 66) + k)))) (fil_s (qTA3 M 278 a 10) 268 (fun j => M 278 (a + 66 + j)) k) hT17)) (lvc_s (lvc_s (lvc_s (lvc_i (by omega) rfl)))) rfl (fil_s (qTA3 M 278 a 10) 268 (fun j => M 278 (a + 66 + j)) k) (rfl)
                    refine at_lv [1, 2, 3, 0] rfl ?_
                    exact at_eq (H180 _ 0 (Nat.lt_succ_self _) (by omega) (TInv_e (M := (qTA3 M 278 a 10)) (fil_0 (qTA3 M 278 a 10) 268 (fun j => M 278 (a + 66 + j))) (TInv_e (M := (qTA3 M 278 a k)) (N := (qTA3 M 278 a 10)) (by rw [show k = 10 by omega]) hTk))) (lvc_s (lvc_s (lvc_s (lvc_i (rfl) rfl)))) rfl (fil_0 (qTA3 M 278 a 10) 268 (fun j => M 278 (a + 66 + j))) (rfl)
                  · have hv := tv hT (k := 278) (j := a + 56 + k) (lo := 0) (hi := 60) (ra_se hr (by omega))
                    refine at_aload_n C 0 dX7_takeAll_158 rfl ?_
                    refine at_getf (v := .ref (G.1 (267))) C (obj_Ref G) (ci := 7) rfl inX7 (slot := 15) (by decide) qw_897 rfl rfl dX7_takeAll_159 ?_
                    refine at_iload_n C 3 dX7_takeAll_162 rfl ?_
                    refine at_aload_n C 1 dX7_takeAll_163 rfl ?_
                    refine at_iload_n C 2 dX7_takeAll_164 rfl ?_
                    refine at_bipush C dX7_takeAll_165 (by decide) (by decide) ?_
                    refine at_iadd C dX7_takeAll_167 ?_
                    refine at_iload_n C 3 dX7_takeAll_168 rfl ?_
                    refine at_iadd C dX7_takeAll_169 ?_
                    refine at_iald C ((a + 56) + k) (ar_278 G) (by omega) (by omega) dX7_takeAll_170 ?_
                    refine at_ve (b := M 278 ((a + 56) + k)) (rfl) ?_
                    refine at_iast C k (ar_267 G) (rfl) (by omega) dX7_takeAll_171 ?_
                    have hT18 : TInv (sSt (qTA3 M 278 a k) 267 k (M 278 ((a + 56) + k))) := tv_st hTk (k := 267) rfl (⟨by omega, by omega⟩)
                    refine at_iinc C 3 [(3, .int (sI ((k : Int) + 1))), (0, .ref (G.1 (258))), (1, .ref (G.1 (278))), (2, .int (sI ((a : Int))))] dX7_takeAll_172 rfl (by decide) rfl ?_
                    refine at_goto C 152 dX7_takeAll_175 (by decide) ?_
                    refine at_lv [1, 2, 3, 0] rfl ?_
                    exact at_eq (ih152 (k + 1) (by omega) (by omega) (TInv_e (M := (sSt (qTA3 M 278 a k) 267 k (M 278 ((a + 56) + k)))) (fil_s (qTA2 M 278 a 6) 267 (fun j => M 278 (a + 56 + j)) k) hT18)) (lvc_s (lvc_s (lvc_s (lvc_i (by omega) rfl)))) rfl (fil_s (qTA2 M 278 a 6) 267 (fun j => M 278 (a + 56 + j)) k) (rfl)
              refine at_lv [1, 2, 3, 0] rfl ?_
              exact at_eq (H152 _ 0 (Nat.lt_succ_self _) (by omega) (TInv_e (M := (qTA2 M 278 a 6)) (fil_0 (qTA2 M 278 a 6) 267 (fun j => M 278 (a + 56 + j))) (TInv_e (M := (qTA2 M 278 a k)) (N := (qTA2 M 278 a 6)) (by rw [show k = 6 by omega]) hTk))) (lvc_s (lvc_s (lvc_s (lvc_i (rfl) rfl)))) rfl (fil_0 (qTA2 M 278 a 6) 267 (fun j => M 278 (a + 56 + j))) (rfl)
            · have hv := tv hT (k := 278) (j := a + 38 + k) (lo := 0) (hi := 5) (ra_kd hr (by omega))
              have hv2 := tv hT (k := 278) (j := a + 44 + k) (lo := 0) (hi := 9) (ra_wt hr (by omega))
              have hv3 := tv hT (k := 278) (j := a + 50 + k) (lo := 0) (hi := 5) (ra_ck hr (by omega))
              refine at_aload_n C 0 dX7_takeAll_102 rfl ?_
              refine at_getf (v := .ref (G.1 (261))) C (obj_Ref G) (ci := 7) rfl inX7 (slot := 9) (by decide) qw_891 rfl rfl dX7_takeAll_103 ?_
              refine at_iload_n C 3 dX7_takeAll_106 rfl ?_
              refine at_aload_n C 1 dX7_takeAll_107 rfl ?_
              refine at_iload_n C 2 dX7_takeAll_108 rfl ?_
              refine at_bipush C dX7_takeAll_109 (by decide) (by decide) ?_
              refine at_iadd C dX7_takeAll_111 ?_
              refine at_iload_n C 3 dX7_takeAll_112 rfl ?_
              refine at_iadd C dX7_takeAll_113 ?_
              refine at_iald C ((a + 38) + k) (ar_278 G) (by omega) (by omega) dX7_takeAll_114 ?_
              refine at_ve (b := M 278 ((a + 38) + k)) (rfl) ?_
              refine at_iast C k (ar_261 G) (rfl) (by omega) dX7_takeAll_115 ?_
              have hT19 : TInv (sSt (qTA2 M 278 a k) 261 k (M 278 ((a + 38) + k))) := tv_st hTk (k := 261) rfl (⟨by omega, by omega⟩)
              refine at_aload_n C 0 dX7_takeAll_116 rfl ?_
              refine at_getf (v := .ref (G.1 (262))) C (obj_Ref G) (ci := 7) rfl inX7 (slot := 10) (by decide) qw_892 rfl rfl dX7_takeAll_117 ?_
              refine at_iload_n C 3 dX7_takeAll_120 rfl ?_
              refine at_aload_n C 1 dX7_takeAll_121 rfl ?_
              refine at_iload_n C 2 dX7_takeAll_122 rfl ?_
              refine at_bipush C dX7_takeAll_123 (by decide) (by decide) ?_
              refine at_iadd C dX7_takeAll_125 ?_
              refine at_iload_n C 3 dX7_takeAll_126 rfl ?_
              refine at_iadd C dX7_takeAll_127 ?_
              refine at_iald C ((a + 44) + k) (ar_278 G) (by omega) (by omega) dX7_takeAll_128 ?_
              refine at_ve (b := M 278 ((a + 44) + k)) (rfl) ?_
              refine at_iast C k (ar_262 G) (rfl) (by omega) dX7_takeAll_129 ?_
              have hT20 : TInv (sSt (sSt (qTA2 M 278 a k) 261 k (M 278 ((a + 38) + k))) 262 k (M 278 ((a + 44) + k))) := tv_st hT19 (k := 262) rfl (⟨by omega, by omega⟩)
              refine at_aload_n C 0 dX7_takeAll_130 rfl ?_
              refine at_getf (v := .ref (G.1 (266))) C (obj_Ref G) (ci := 7) rfl inX7 (slot := 14) (by decide) qw_896 rfl rfl dX7_takeAll_131 ?_
              refine at_iload_n C 3 dX7_takeAll_134 rfl ?_
              refine at_aload_n C 1 dX7_takeAll_135 rfl ?_
              refine at_iload_n C 2 dX7_takeAll_136 rfl ?_
              refine at_bipush C dX7_takeAll_137 (by decide) (by decide) ?_
              refine at_iadd C dX7_takeAll_139 ?_
              refine at_iload_n C 3 dX7_takeAll_140 rfl ?_
              refine at_iadd C dX7_takeAll_141 ?_
              refine at_iald C ((a + 50) + k) (ar_278 G) (by omega) (by omega) dX7_takeAll_142 ?_
              refine at_ve (b := M 278 ((a + 50) + k)) (rfl) ?_
              refine at_iast C k (ar_266 G) (rfl) (by omega) dX7_takeAll_143 ?_
              have hT21 : TInv (sSt (sSt (sSt (qTA2 M 278 a k) 261 k (M 278 ((a + 38) + k))) 262 k (M 278 ((a + 44) + k))) 266 k (M 278 ((a + 50) + k))) := tv_st hT20 (k := 266) rfl (⟨by omega, by omega⟩)
              refine at_iinc C 3 [(3, .int (sI ((k : Int) + 1))), (0, .ref (G.1 (258))), (1, .ref (G.1 (278))), (2, .int (sI ((a : Int))))] dX7_takeAll_144 rfl (by decide) rfl ?_
              refine at_goto C 96 dX7_takeAll_147 (by decide) ?_
              refine at_lv [1, 2, 3, 0] rfl ?_
              exact at_eq (ih96 (k + 1) (by omega) (by omega) (TInv_e (M := (sSt (sSt (sSt (qTA2 M 278 a k) 261 k (M 278 ((a + 38) + k))) 262 k (M 278 ((a + 44) + k))) 266 k (M 278 ((a + 50) + k)))) (fil3_s (qTA1 M 278 a 12) (c := 261) (d := 262) (e := 266) (fun j => M 278 (a + 38 + j)) (fun j => M 278 (a + 44 + j)) (fun j => M 278 (a + 50 + j)) k (by decide) (by decide) (by decide)) hT21)) (lvc_s (lvc_s (lvc_s (lvc_i (by omega) rfl)))) rfl (fil3_s (qTA1 M 278 a 12) (c := 261) (d := 262) (e := 266) (fun j => M 278 (a + 38 + j)) (fun j => M 278 (a + 44 + j)) (fun j => M 278 (a + 50 + j)) k (by decide) (by decide) (by decide)) (rfl)
        refine at_lv [1, 2, 3, 0] rfl ?_
        exact at_eq (H96 _ 0 (Nat.lt_succ_self _) (by omega) (TInv_e (M := (qTA1 M 278 a 12)) (fil3_0 (qTA1 M 278 a 12) 261 262 266 (fun j => M 278 (a + 38 + j)) (fun j => M 278 (a + 44 + j)) (fun j => M 278 (a + 50 + j))) (TInv_e (M := (qTA1 M 278 a k)) (N := (qTA1 M 278 a 12)) (by rw [show k = 12 by omega]) hTk))) (lvc_s (lvc_s (lvc_s (lvc_i (rfl) rfl)))) rfl (fil3_0 (qTA1 M 278 a 12) 261 262 266 (fun j => M 278 (a + 38 + j)) (fun j => M 278 (a + 44 + j)) (fun j => M 278 (a + 50 + j))) (rfl)
      · have hv := tv hT (k := 278) (j := a + 26 + k) (lo := -2) (hi := 2) (ra_cu hr (by omega))
        refine at_aload_n C 0 dX7_takeAll_74 rfl ?_
        refine at_getf (v := .ref (G.1 (260))) C (obj_Ref G) (ci := 7) rfl inX7 (slot := 8) (by decide) qw_890 rfl rfl dX7_takeAll_75 ?_
        refine at_iload_n C 3 dX7_takeAll_78 rfl ?_
        refine at_aload_n C 1 dX7_takeAll_79 rfl ?_
        refine at_iload_n C 2 dX7_takeAll_80 rfl ?_
        refine at_bipush C dX7_takeAll_81 (by decide) (by decide) ?_
        refine at_iadd C dX7_takeAll_83 ?_
        refine at_iload_n C 3 dX7_takeAll_84 rfl ?_
        refine at_iadd C dX7_takeAll_85 ?_
        refine at_iald C ((a + 26) + k) (ar_278 G) (by omega) (by omega) dX7_takeAll_86 ?_
        refine at_ve (b := M 278 ((a + 26) + k)) (rfl) ?_
        refine at_iast C k (ar_260 G) (rfl) (by omega) dX7_takeAll_87 ?_
        have hT22 : TInv (sSt (qTA1 M 278 a k) 260 k (M 278 ((a + 26) + k))) := tv_st hTk (k := 260) rfl (⟨by omega, by omega⟩)
        refine at_iinc C 3 [(3, .int (sI ((k : Int) + 1))), (0, .ref (G.1 (258))), (1, .ref (G.1 (278))), (2, .int (sI ((a : Int))))] dX7_takeAll_88 rfl (by decide) rfl ?_
        refine at_goto C 68 dX7_takeAll_91 (by decide) ?_
        refine at_lv [1, 2, 3, 0] rfl ?_
        exact at_eq (ih68 (k + 1) (by omega) (by omega) (TInv_e (M := (sSt (qTA1 M 278 a k) 260 k (M 278 ((a + 26) + k)))) (fil_s (qTA0 M 278 a) 260 (fun j => M 278 (a + 26 + j)) k) hT22)) (lvc_s (lvc_s (lvc_s (lvc_i (by omega) rfl)))) rfl (fil_s (qTA0 M 278 a) 260 (fun j => M 278 (a + 26 + j)) k) (rfl)
  refine at_lv [1, 2, 3, 0] rfl ?_
  exact at_eq (H68 _ 0 (Nat.lt_succ_self _) (by omega) (TInv_e (M := (qTA0 M 278 a)) (fil_0 (qTA0 M 278 a) 260 (fun j => M 278 (a + 26 + j))) hT8)) (lvc_s (lvc_s (lvc_s (lvc_i (rfl) rfl)))) rfl (fil_0 (qTA0 M 278 a) 260 (fun j => M 278 (a + 26 + j))) (rfl)

set_option maxHeartbeats 4000000 in
set_option maxRecDepth 100000 in
theorem c_X7_image (l : Launch) (D : va_G) (G : sG) {M : sM} {L : sL} (i : Int) (hir : InR i) (hT : TInv M) (hc : qCt M) : sKi l D G yX7_image cX7_image 2 .int 2 46 [.ref (G.1 (258)), .int (sI (i))] M L (fun r M' L' => r = sI (qrImage i) ∧ M' = qmImage M i ∧ TInv M' ∧ L = L') := by
  refine sKi_go (by decide) (Nat.le_of_ble_eq_true rfl) ?_
  intro zp ze zs zm za zb zt zc Q C hret
  refine at_eq (lv' := [(0, .ref (G.1 (258))), (1, .int (sI (i)))]) (st' := []) (M' := M) (L' := L) ?_ rfl rfl rfl rfl
  have hqn := qn_r hT
  have hqc := qc_r hT
  have hqu := qu_r hT
  have hqt := qt_r hT
  have hqs := qs_r hT
  have hqo := qo_r hT
  have hqm := qm_r hT
  refine at_iload_n C 1 dX7_image_0 rfl ?_
  refine at_iconst C dX7_image_1 ?_
  refine at_iconst C dX7_image_2 ?_
  refine at_stat_i C (c_X7_in l D G i 0 1 ⟨by omega, by omega⟩ ⟨by omega, by omega⟩ ⟨by omega, by omega⟩) (As := [.int (sI (i)), .int (sI (0)), .int (sI (1))]) qw_1004 qw_1002 qw_8 qw_1003 ⟨by decide, by decide, show (parseMethodDescriptor yX7_in.desc).map (fun d => d.parameters.length) = some 3 by decide +kernel⟩ ⟨by decide, by decide⟩ ⟨Nat.zero_le _, Nat.zero_le _⟩ (Nat.le_of_ble_eq_true rfl) dX7_image_3 rfl (fun r M' L' hp1 => ?_)
  obtain ⟨rfl, rfl, rfl⟩ := hp1
  refine at_if_neB C 14 dX7_image_6 (by decide) (fun h2 => ?_) (fun h2 => ?_)
  · obtain ⟨n, rfl⟩ : ∃ n : Nat, i = (n : Int) := ⟨i.toNat, by omega⟩
    refine at_aload_n C 0 dX7_image_14 rfl ?_
    refine at_getf (v := .ref (G.1 (279))) C (obj_Ref G) (ci := 7) rfl inX7 (slot := 34) (by decide) qw_916 rfl rfl dX7_image_15 ?_
    refine at_iload_n C 1 dX7_image_18 rfl ?_
    refine at_iconst C dX7_image_19 ?_
    refine at_iast C n (ar_279 G) (rfl) (by omega) dX7_image_20 ?_
    have hT3 : TInv (sSt M 279 n 1) := tv_st hT (k := 279) rfl (⟨by omega, by omega⟩)
    refine at_aload_n C 0 dX7_image_21 rfl ?_
    refine at_aload_n C 0 dX7_image_22 rfl ?_
    refine at_getf (v := .ref (G.1 (278))) C (obj_Ref G) (ci := 7) rfl inX7 (slot := 33) (by decide) qw_915 rfl rfl dX7_image_23 ?_
    refine at_sipush C dX7_image_26 (by decide) (by decide) ?_
    refine at_iload_n C 1 dX7_image_29 rfl ?_
    refine at_imul C dX7_image_30 ?_
    refine at_call_v C (c_X7_layAll_278 l D G (280 * n) (isRa_278 (by omega)) hT3) (As := [.ref (G.1 (278)), .int (sI (280 * (n : Int)))]) (obj_Ref G) (ci := 7) rfl qw_1048 qw_1045 qw_8 qw_1047 qp_38 ⟨by decide, by decide, show (parseMethodDescriptor yX7_layAll.desc).map (fun d => d.parameters.length) = some 2 by decide +kernel⟩ ⟨by decide, by decide⟩ ⟨Nat.zero_le _, Nat.zero_le _⟩ (Nat.le_of_ble_eq_true rfl) dX7_image_31 rfl (fun M' L' hp4 => ?_)
    obtain ⟨rfl, hTr, rfl⟩ := hp4
    refine at_iconst C dX7_image_34 ?_
    exact hret _ _ _ _ _ dX7_image_35 (⟨congrArg sI (if_pos (by first | omega | (simp only [Int.toNat_natCast]; omega))).symm, (if_pos (by first | omega | (simp only [Int.toNat_natCast]; omega))).symm, hTr, rfl⟩)
  · refine at_aload_n C 0 dX7_image_9 rfl ?_
    refine at_call_i C (c_X7_bad l D G hT ⟨by omega, by omega, by omega⟩) (As := []) (obj_Ref G) (ci := 7) rfl qw_1012 qw_1009 qw_8 qw_1011 qp_34 ⟨by decide, by decide, show (parseMethodDescriptor yX7_bad.desc).map (fun d => d.parameters.length) = some 0 by decide +kernel⟩ ⟨by decide, by decide⟩ ⟨Nat.zero_le _, Nat.zero_le _⟩ (Nat.le_of_ble_eq_true rfl) dX7_image_10 rfl (fun r M' L' hp6 => ?_)
    obtain ⟨rfl, rfl, hT5, rfl⟩ := hp6
    exact hret _ _ _ _ _ dX7_image_13 (⟨congrArg sI (if_neg (by first | omega | (simp only [Int.toNat_natCast]; omega))).symm, (if_neg (by first | omega | (simp only [Int.toNat_natCast]; omega))).symm, hT5, rfl⟩)

set_option maxHeartbeats 4000000 in
set_option maxRecDepth 100000 in
theorem c_X7_from (l : Launch) (D : va_G) (G : sG) {M : sM} {L : sL} (i : Int) (hir : InR i) (hT : TInv M) (hc : qCt M) : sKi l D G yX7_from cX7_from 2 .int 2 46 [.ref (G.1 (258)), .int (sI (i))] M L (fun r M' L' => r = sI (qrFrom M i) ∧ M' = qmFrom M i ∧ TInv M' ∧ L = L') := by
  refine sKi_go (by decide) (Nat.le_of_ble_eq_true rfl) ?_
  intro zp ze zs zm za zb zt zc Q C hret
  refine at_eq (lv' := [(0, .ref (G.1 (258))), (1, .int (sI (i)))]) (st' := []) (M' := M) (L' := L) ?_ rfl rfl rfl rfl
  have hqn := qn_r hT
  have hqc := qc_r hT
  have hqu := qu_r hT
  have hqt := qt_r hT
  have hqs := qs_r hT
  have hqo := qo_r hT
  have hqm := qm_r hT
  refine at_iload_n C 1 dX7_from_0 rfl ?_
  refine at_iconst C dX7_from_1 ?_
  refine at_iconst C dX7_from_2 ?_
  refine at_stat_i C (c_X7_in l D G i 0 1 ⟨by omega, by omega⟩ ⟨by omega, by omega⟩ ⟨by omega, by omega⟩) (As := [.int (sI (i)), .int (sI (0)), .int (sI (1))]) qw_1004 qw_1002 qw_8 qw_1003 ⟨by decide, by decide, show (parseMethodDescriptor yX7_in.desc).map (fun d => d.parameters.length) = some 3 by decide +kernel⟩ ⟨by decide, by decide⟩ ⟨Nat.zero_le _, Nat.zero_le _⟩ (Nat.le_of_ble_eq_true rfl) dX7_from_3 rfl (fun r M' L' hp1 => ?_)
  obtain ⟨rfl, rfl, rfl⟩ := hp1
  refine at_if_neB C 14 dX7_from_6 (by decide) (fun h2 => ?_) (fun h2 => ?_)
  · obtain ⟨n, rfl⟩ : ∃ n : Nat, i = (n : Int) := ⟨i.toNat, by omega⟩
    refine at_aload_n C 0 dX7_from_14 rfl ?_
    refine at_getf (v := .ref (G.1 (279))) C (obj_Ref G) (ci := 7) rfl inX7 (slot := 34) (by decide) qw_916 rfl rfl dX7_from_15 ?_
    refine at_iload_n C 1 dX7_from_18 rfl ?_
    refine at_iald C n (ar_279 G) (rfl) (by omega) dX7_from_19 ?_
    have hb3 : _ ≤ M 279 n ∧ M 279 n ≤ _ := tv hT (k := 279) (j := n) rfl
    refine at_if_ne C 28 dX7_from_20 (by decide) (⟨by omega, by omega⟩) (fun h4 => ?_) (fun h4 => ?_)
    · refine at_aload_n C 0 dX7_from_28 rfl ?_
      refine at_aload_n C 0 dX7_from_29 rfl ?_
      refine at_getf (v := .ref (G.1 (278))) C (obj_Ref G) (ci := 7) rfl inX7 (slot := 33) (by decide) qw_915 rfl rfl dX7_from_30 ?_
      refine at_sipush C dX7_from_33 (by decide) (by decide) ?_
      refine at_iload_n C 1 dX7_from_36 rfl ?_
      refine at_imul C dX7_from_37 ?_
      refine at_call_v C (c_X7_takeAll_278 l D G (280 * n) (isRa_278 (by omega)) hT) (As := [.ref (G.1 (278)), .int (sI (280 * (n : Int)))]) (obj_Ref G) (ci := 7) rfl qw_1192 qw_1189 qw_8 qw_1191 qp_68 ⟨by decide, by decide, show (parseMethodDescriptor yX7_takeAll.desc).map (fun d => d.parameters.length) = some 2 by decide +kernel⟩ ⟨by decide, by decide⟩ ⟨Nat.zero_le _, Nat.zero_le _⟩ (Nat.le_of_ble_eq_true rfl) dX7_from_38 rfl (fun M' L' hp5 => ?_)
      obtain ⟨rfl, hTr, rfl⟩ := hp5
      refine at_iconst C dX7_from_41 ?_
      exact hret _ _ _ _ _ dX7_from_42 (⟨congrArg sI ((if_pos (by first | omega | (simp only [Int.toNat_natCast]; omega))).trans (if_neg (by first | omega | (simp only [Int.toNat_natCast]; omega)))).symm, ((if_pos (by first | omega | (simp only [Int.toNat_natCast]; omega))).trans (if_neg (by first | omega | (simp only [Int.toNat_natCast]; omega)))).symm, hTr, rfl⟩)
    · refine at_aload_n C 0 dX7_from_23 rfl ?_
      refine at_call_i C (c_X7_no l D G hT ⟨by omega, by omega, by omega⟩) (As := []) (obj_Ref G) (ci := 7) rfl qw_1216 qw_1213 qw_8 qw_1215 qp_72 ⟨by decide, by decide, show (parseMethodDescriptor yX7_no.desc).map (fun d => d.parameters.length) = some 0 by decide +kernel⟩ ⟨by decide, by decide⟩ ⟨Nat.zero_le _, Nat.zero_le _⟩ (Nat.le_of_ble_eq_true rfl) dX7_from_24 rfl (fun r M' L' hp7 => ?_)
      obtain ⟨rfl, rfl, hT6, rfl⟩ := hp7
      exact hret _ _ _ _ _ dX7_from_27 (⟨congrArg sI ((if_pos (by first | omega | (simp only [Int.toNat_natCast]; omega))).trans (if_pos (by first | omega | (simp only [Int.toNat_natCast]; omega)))).symm, ((if_pos (by first | omega | (simp only [Int.toNat_natCast]; omega))).trans (if_pos (by first | omega | (simp only [Int.toNat_natCast]; omega)))).symm, hT6, rfl⟩)
  · refine at_aload_n C 0 dX7_from_9 rfl ?_
    refine at_call_i C (c_X7_bad l D G hT ⟨by omega, by omega, by omega⟩) (As := []) (obj_Ref G) (ci := 7) rfl qw_1012 qw_1009 qw_8 qw_1011 qp_34 ⟨by decide, by decide, show (parseMethodDescriptor yX7_bad.desc).map (fun d => d.parameters.length) = some 0 by decide +kernel⟩ ⟨by decide, by decide⟩ ⟨Nat.zero_le _, Nat.zero_le _⟩ (Nat.le_of_ble_eq_true rfl) dX7_from_10 rfl (fun r M' L' hp9 => ?_)
    obtain ⟨rfl, rfl, hT8, rfl⟩ := hp9
    exact hret _ _ _ _ _ dX7_from_13 (⟨congrArg sI (if_neg (by first | omega | (simp only [Int.toNat_natCast]; omega))).symm, (if_neg (by first | omega | (simp only [Int.toNat_natCast]; omega))).symm, hT8, rfl⟩)

set_option maxHeartbeats 4000000 in
set_option maxRecDepth 100000 in
theorem c_X7_mix (l : Launch) (D : va_G) (G : sG) {M : sM} {L : sL} (v h : Int64) : sKv l D G yX7_mix cX7_mix 3 0 0 [.ref (G.1 (258)), .long (v)] M (sSl L 258 35 h) (fun M' L' => M = M' ∧ L' = sSl L 258 35 (31 * h + v)) := by
  refine sKv_go (by decide) (Nat.le_of_ble_eq_true rfl) ?_
  intro zp ze zs zm za zb zt zc Q C hret
  refine at_eq (lv' := [(0, .ref (G.1 (258))), (1, .long (v))]) (st' := []) (M' := M) (L' := (sSl L 258 35 h)) ?_ rfl rfl rfl rfl
  refine at_aload_n C 0 dX7_mix_0 rfl ?_
  refine at_ldc2 C qw_1429 dX7_mix_1 ?_
  refine at_aload_n C 0 dX7_mix_4 rfl ?_
  refine at_getf (v := .long ((sSl L 258 35 h) 258 35)) C (obj_Ref G) (ci := 7) rfl inX7 (slot := 35) (by decide) qw_917 rfl rfl dX7_mix_5 ?_
  refine at_vl (y := h) (sSl_eq) ?_
  refine at_lmul C dX7_mix_8 ?_
  refine at_lload_n C 1 dX7_mix_9 rfl ?_
  refine at_ladd C dX7_mix_10 ?_
  refine at_putL (slot := 35) (ty := .long) C tyX7 (obj_Ref G) (ci := 7) rfl inX7 tyX7_ok nmX7 (by decide) qw_917 rfl rfl (by decide +kernel) rfl rfl (Nat.le_of_ble_eq_true rfl) rfl dX7_mix_11 ?_
  exact hret _ _ _ _ dX7_mix_14 (⟨rfl, sSl_tw _ _ _ _ _⟩)

set_option maxHeartbeats 4000000 in
set_option maxRecDepth 100000 in
theorem c_X7_digest (l : Launch) (D : va_G) (G : sG) {M : sM} {L : sL} (hT : TInv M) : sKl l D G yX7_digest cX7_digest 3 4 87 [.ref (G.1 (258))] M L (fun r M' L' => r = qdig M L ∧ M = M' ∧ L' = sSl L 258 35 (qdig M L)) := by
  refine sKl_go (by decide) (Nat.le_of_ble_eq_true rfl) ?_
  intro zp ze zs zm za zb zt zc Q C hret
  refine at_eq (lv' := [(0, .ref (G.1 (258)))]) (st' := []) (M' := M) (L' := L) ?_ rfl rfl rfl rfl
  have hqn := qn_r hT
  have hqc := qc_r hT
  have hqu := qu_r hT
  have hqt := qt_r hT
  have hqs := qs_r hT
  have hqo := qo_r hT
  have hqm := qm_r hT
  refine at_aload_n C 0 dX7_digest_0 rfl ?_
  refine at_ldc2 C qw_1424 dX7_digest_1 ?_
  refine at_putL (slot := 35) (ty := .long) C tyX7 (obj_Ref G) (ci := 7) rfl inX7 tyX7_ok nmX7 (by decide) qw_917 rfl rfl (by decide +kernel) rfl rfl (Nat.le_of_ble_eq_true rfl) rfl dX7_digest_4 ?_
  refine at_iconst C dX7_digest_7 ?_
  refine at_istore_n C [(1, .int (sI (0))), (0, .ref (G.1 (258)))] dX7_digest_8 (by decide) rfl ?_
  have H9 : ∀ (fu : Nat) (k : Nat), 11 - k < fu → (k ≤ 11) → sAt zp l ze (sRm 4 87) zs zm za zb zt zc D G 3 0 0 Q 9 [(0, .ref (G.1 (258))), (1, .int (sI ((k : Int))))] [] M (sSl L 258 35 (mixR (fun w => qrCount0 M w) k 1613)) := by
    intro fu
    induction fu with
    | zero => intro k hd hk; exact absurd hd (Nat.not_lt_zero _)
    | succ fu ih9 =>
      intro k hd9 hk
      refine at_iload_n C 1 dX7_digest_9 rfl ?_
      refine at_bipush C dX7_digest_10 (by decide) (by decide) ?_
      refine at_icmp_gt C 31 dX7_digest_12 (by decide) (⟨by omega, by omega⟩) (⟨by omega, by omega⟩) (fun h1 => ?_) (fun h1 => ?_)
      · refine at_L (L' := (sSl L 258 35 (qd1 M))) (by rw [show k = 11 by omega, qd1_e]) ?_
        refine at_iconst C dX7_digest_31 ?_
        refine at_istore_n C [(1, .int (sI (0))), (0, .ref (G.1 (258)))] dX7_digest_32 (by decide) rfl ?_
        have H33 : ∀ (fu : Nat) (k : Nat), 12 - k < fu → (k ≤ 12) → sAt zp l ze (sRm 4 87) zs zm za zb zt zc D G 3 0 0 Q 33 [(0, .ref (G.1 (258))), (1, .int (sI ((k : Int))))] [] M (sSl L 258 35 (mixR (M 260) k (qd1 M))) := by
          intro fu
          induction fu with
          | zero => intro k hd hk; exact absurd hd (Nat.not_lt_zero _)
          | succ fu ih33 =>
            intro k hd33 hk
            refine at_iload_n C 1 dX7_digest_33 rfl ?_
            refine at_bipush C dX7_digest_34 (by decide) (by decide) ?_
            refine at_icmp_ge C 56 dX7_digest_36 (by decide) (⟨by omega, by omega⟩) (⟨by omega, by omega⟩) (fun h2 => ?_) (fun h2 => ?_)
            · refine at_L (L' := (sSl L 258 35 (qd2 M))) (by rw [show k = 12 by omega, qd2_e]) ?_
              refine at_iconst C dX7_digest_56 ?_
              refine at_istore_n C [(1, .int (sI (0))), (0, .ref (G.1 (258)))] dX7_digest_57 (by decide) rfl ?_
              have H58 : ∀ (fu : Nat) (k : Nat), qn M - k < fu → (k ≤ qn M) → sAt zp l ze (sRm 4 87) zs zm za zb zt zc D G 3 0 0 Q 58 [(0, .ref (G.1 (258))), (1, .int (sI ((k : Int))))] [] M (sSl L 258 35 (qdS M k (qd2 M))) := by
                intro fu
                induction fu with
                | zero => intro k hd hk; exact absurd hd (Nat.not_lt_zero _)
                | succ fu ih58 =>
                  intro k hd58 hk
                  refine at_iload_n C 1 dX7_digest_58 rfl ?_
                  refine at_aload_n C 0 dX7_digest_59 rfl ?_
                  refine at_getf (v := .int (sI (M 258 1))) C (obj_Ref G) (ci := 7) rfl inX7 (slot := 1) (by decide) qw_883 rfl rfl dX7_digest_60 ?_
                  have hb3 : _ ≤ M 258 1 ∧ M 258 1 ≤ _ := tv hT (k := 258) (j := 1) rfl
                  refine at_ve (b := (((qn M) : Nat) : Int)) (hqn.2) ?_
                  refine at_icmp_ge C 96 dX7_digest_63 (by decide) (⟨by omega, by omega⟩) (⟨by omega, by omega⟩) (fun h4 => ?_) (fun h4 => ?_)
                  · refine at_L (L' := (sSl L 258 35 (qd3 M))) (by rw [show k = qn M by omega, qd3_e]) ?_
                    refine at_iconst C dX7_digest_96 ?_
                    refine at_istore_n C [(1, .int (sI (0))), (0, .ref (G.1 (258)))] dX7_digest_97 (by decide) rfl ?_
                    have H98 : ∀ (fu : Nat) (k : Nat), qc M - k < fu → (k ≤ qc M) → sAt zp l ze (sRm 4 87) zs zm za zb zt zc D G 3 0 0 Q 98 [(0, .ref (G.1 (258))), (1, .int (sI ((k : Int))))] [] M (sSl L 258 35 (mixR (M 266) k (qd3 M))) := by
                      intro fu
                      induction fu with
                      | zero => intro k hd hk; exact absurd hd (Nat.not_lt_zero _)
                      | succ fu ih98 =>
                        intro k hd98 hk
                        refine at_iload_n C 1 dX7_digest_98 rfl ?_
                        refine at_aload_n C 0 dX7_digest_99 rfl ?_
                        refine at_getf (v := .int (sI (M 258 2))) C (obj_Ref G) (ci := 7) rfl inX7 (slot := 2) (by decide) qw_884 rfl rfl dX7_digest_100 ?_
                        have hb5 : _ ≤ M 258 2 ∧ M 258 2 ≤ _ := tv hT (k := 258) (j := 2) rfl
                        refine at_ve (b := (((qc M) : Nat) : Int)) (hqc.2) ?_
                        refine at_icmp_ge C 123 dX7_digest_103 (by decide) (⟨by omega, by omega⟩) (⟨by omega, by omega⟩) (fun h6 => ?_) (fun h6 => ?_)
                        · refine at_L (L' := (sSl L 258 35 (qd4 M))) (by rw [show k = qc M by omega, qd4_e]) ?_
                          refine at_iconst C dX7_digest_123 ?_
                          refine at_istore_n C [(1, .int (sI (0))), (0, .ref (G.1 (258)))] dX7_digest_124 (by decide) rfl ?_
                          have H125 : ∀ (fu : Nat) (k : Nat), 2 * qs M - k < fu → (k ≤ 2 * qs M) → sAt zp l ze (sRm 4 87) zs zm za zb zt zc D G 3 0 0 Q 125 [(0, .ref (G.1 (258))), (1, .int (sI ((k : Int))))] [] M (sSl L 258 35 (mixR (M 267) k (qd4 M))) := by
                            intro fu
                            induction fu with
                            | zero => intro k hd hk; exact absurd hd (Nat.not_lt_zero _)
                            | succ fu ih125 =>
                              intro k hd125 hk
                              refine at_iload_n C 1 dX7_digest_125 rfl ?_
                              refine at_iconst C dX7_digest_126 ?_
                              refine at_aload_n C 0 dX7_digest_127 rfl ?_
                              refine at_getf (v := .int (sI (M 258 5))) C (obj_Ref G) (ci := 7) rfl inX7 (slot := 5) (by decide) qw_887 rfl rfl dX7_digest_128 ?_
                              have hb7 : _ ≤ M 258 5 ∧ M 258 5 ≤ _ := tv hT (k := 258) (j := 5) rfl
                              refine at_ve (b := (((qs M) : Nat) : Int)) (hqs.2) ?_
                              refine at_imul C dX7_digest_131 ?_
                              refine at_icmp_ge C 152 dX7_digest_132 (by decide) (⟨by omega, by omega⟩) (⟨by omega, by omega⟩) (fun h8 => ?_) (fun h8 => ?_)
                              · refine at_L (L' := (sSl L 258 35 (qd5 M))) (by rw [show k = 2 * qs M by omega, qd5_e]) ?_
                                refine at_iconst C dX7_digest_152 ?_
                                refine at_istore_n C [(1, .int (sI (0))), (0, .ref (G.1 (258)))] dX7_digest_153 (by decide) rfl ?_
                                have H154 : ∀ (fu : Nat) (k : Nat), 4 * qo M - k < fu → (k ≤ 4 * qo M) → sAt zp l ze (sRm 4 87) zs zm za zb zt zc D G 3 0 0 Q 154 [(0, .ref (G.1 (258))), (1, .int (sI ((k : Int))))] [] M (sSl L 258 35 (mixR (M 268) k (qd5 M))) := by
                                  intro fu
                                  induction fu with
                                  | zero => intro k hd hk; exact absurd hd (Nat.not_lt_zero _)
                                  | succ fu ih154 =>
                                    intro k hd154 hk
                                    refine at_iload_n C 1 dX7_digest_154 rfl ?_
                                    refine at_iconst C dX7_digest_155 ?_
                                    refine at_aload_n C 0 dX7_digest_156 rfl ?_
                                    refine at_getf (v := .int (sI (M 258 6))) C (obj_Ref G) (ci := 7) rfl inX7 (slot := 6) (by decide) qw_888 rfl rfl dX7_digest_157 ?_
                                    have hb9 : _ ≤ M 258 6 ∧ M 258 6 ≤ _ := tv hT (k := 258) (j := 6) rfl
                                    refine at_ve (b := (((qo M) : Nat) : Int)) (hqo.2) ?_
                                    refine at_imul C dX7_digest_160 ?_
                                    refine at_icmp_ge C 181 dX7_digest_161 (by decide) (⟨by omega, by omega⟩) (⟨by omega, by omega⟩) (fun h10 => ?_) (fun h10 => ?_)
                                    · refine at_L (L' := (sSl L 258 35 (qd6 M))) (by rw [show k = 4 * qo M by omega, qd6_e]) ?_
                                      refine at_iconst C dX7_digest_181 ?_
                                      refine at_istore_n C [(1, .int (sI (0))), (0, .ref (G.1 (258)))] dX7_digest_182 (by decide) rfl ?_
                                      have H183 : ∀ (fu : Nat) (k : Nat), 3 * qm M - k < fu → (k ≤ 3 * qm M) → sAt zp l ze (sRm 4 87) zs zm za zb zt zc D G 3 0 0 Q 183 [(0, .ref (G.1 (258))), (1, .int (sI ((k : Int))))] [] M (sSl L 258 35 (mixR (M 269) k (qd6 M))) := by
                                        intro fu
                                        induction fu with
                                        | zero => intro k hd hk; exact absurd hd (Nat.not_lt_zero _)
                                        | succ fu ih183 =>
                                          intro k hd183 hk
                                          refine at_iload_n C 1 dX7_digest_183 rfl ?_
                                          refine at_iconst C dX7_digest_184 ?_
                                          refine at_aload_n C 0 dX7_digest_185 rfl ?_
                                          refine at_getf (v := .int (sI (M 258 7))) C (obj_Ref G) (ci := 7) rfl inX7 (slot := 7) (by decide) qw_889 rfl rfl dX7_digest_186 ?_
                                          have hb11 : _ ≤ M 258 7 ∧ M 258 7 ≤ _ := tv hT (k := 258) (j := 7) rfl
                                          refine at_ve (b := (((qm M) : Nat) : Int)) (hqm.2) ?_
                                          refine at_imul C dX7_digest_189 ?_
                                          refine at_icmp_ge C 210 dX7_digest_190 (by decide) (⟨by omega, by omega⟩) (⟨by omega, by omega⟩) (fun h12 => ?_) (fun h12 => ?_)
                                          · refine at_L (L' := (sSl L 258 35 (qd7 M))) (by rw [show k = 3 * qm M by omega, qd7_e]) ?_
                                            refine at_aload_n C 0 dX7_digest_210 rfl ?_
                                            refine at_aload_n C 0 dX7_digest_211 rfl ?_
                                            refine at_getf (v := .long ((sSl L 258 35 (qd7 M)) 258 31)) C (obj_Ref G) (ci := 7) rfl inX7 (slot := 31) (by decide) qw_913 rfl rfl dX7_digest_212 ?_
                                            refine at_vl (y := L 258 31) (by rw [sSl_at, if_neg (by decide)]) ?_
                                            refine at_call_v C (c_X7_mix l D G (M := M) (L := L) (L 258 31) (qd7 M)) (As := [.long (L 258 31)]) (obj_Ref G) (ci := 7) rfl qw_1428 qw_1425 qw_8 qw_1427 qp_89 ⟨by decide, by decide, show (parseMethodDescriptor yX7_mix.desc).map (fun d => d.parameters.length) = some 1 by decide +kernel⟩ ⟨by decide, by decide⟩ ⟨Nat.zero_le _, Nat.zero_le _⟩ (Nat.le_of_ble_eq_true rfl) dX7_digest_215 rfl (fun M' L' hp13 => ?_)
                                            obtain ⟨rfl, rfl⟩ := hp13
                                            refine at_aload_n C 0 dX7_digest_218 rfl ?_
                                            refine at_aload_n C 0 dX7_digest_219 rfl ?_
                                            refine at_getf (v := .long ((sSl L 258 35 (31 * (qd7 M) + (L 258 31))) 258 32)) C (obj_Ref G) (ci := 7) rfl inX7 (slot := 32) (by decide) qw_914 rfl rfl dX7_digest_220 ?_
                                            refine at_vl (y := L 258 32) (by rw [sSl_at, if_neg (by decide)]) ?_
                                            refine at_call_v C (c_X7_mix l D G (M := M) (L := L) (L 258 32) (31 * (qd7 M) + (L 258 31))) (As := [.long (L 258 32)]) (obj_Ref G) (ci := 7) rfl qw_1428 qw_1425 qw_8 qw_1427 qp_89 ⟨by decide, by decide, show (parseMethodDescriptor yX7_mix.desc).map (fun d => d.parameters.length) = some 1 by decide +kernel⟩ ⟨by decide, by decide⟩ ⟨Nat.zero_le _, Nat.zero_le _⟩ (Nat.le_of_ble_eq_true rfl) dX7_digest_223 rfl (fun M' L' hp14 => ?_)
                                            obtain ⟨rfl, rfl⟩ := hp14
                                            refine at_aload_n C 0 dX7_digest_226 rfl ?_
                                            refine at_getf (v := .long ((sSl L 258 35 (31 * (31 * (qd7 M) + (L 258 31)) + (L 258 32))) 258 35)) C (obj_Ref G) (ci := 7) rfl inX7 (slot := 35) (by decide) qw_917 rfl rfl dX7_digest_227 ?_
                                            refine at_vl (y := qdig M L) (sSl_eq.trans (qdig_e M L)) ?_
                                            exact hret _ _ _ _ _ dX7_digest_230 (⟨rfl, rfl, by rw [qdig_e]⟩)
                                          · refine at_aload_n C 0 dX7_digest_193 rfl ?_
                                            refine at_aload_n C 0 dX7_digest_194 rfl ?_
                                            refine at_getf (v := .ref (G.1 (269))) C (obj_Ref G) (ci := 7) rfl inX7 (slot := 17) (by decide) qw_899 rfl rfl dX7_digest_195 ?_
                                            refine at_iload_n C 1 dX7_digest_198 rfl ?_
                                            refine at_iald C k (ar_269 G) (rfl) (by omega) dX7_digest_199 ?_
                                            have hb15 : _ ≤ M 269 k ∧ M 269 k ≤ _ := tv hT (k := 269) (j := k) rfl
                                            refine at_i2l C dX7_digest_200 ?_
                                            refine at_call_v C (c_X7_mix l D G (M := M) (L := L) (((sI (M 269 k))).toInt64) (mixR (M 269) k (qd6 M))) (As := [.long (((sI (M 269 k))).toInt64)]) (obj_Ref G) (ci := 7) rfl qw_1428 qw_1425 qw_8 qw_1427 qp_89 ⟨by decide, by decide, show (parseMethodDescriptor yX7_mix.desc).map (fun d => d.parameters.length) = some 1 by decide +kernel⟩ ⟨by decide, by decide⟩ ⟨Nat.zero_le _, Nat.zero_le _⟩ (Nat.le_of_ble_eq_true rfl) dX7_digest_201 rfl (fun M' L' hp16 => ?_)
                                            obtain ⟨rfl, rfl⟩ := hp16
                                            refine at_iinc C 1 [(1, .int (sI ((k : Int) + 1))), (0, .ref (G.1 (258)))] dX7_digest_204 rfl (by decide) rfl ?_
                                            refine at_goto C 183 dX7_digest_207 (by decide) ?_
                                            refine at_lv [1, 0] rfl ?_
                                            exact at_eq (ih183 (k + 1) (by omega) (by omega)) (lvc_s (lvc_i (by omega) rfl)) rfl (rfl) (by rw [← mix_s])
                                      refine at_lv [1, 0] rfl ?_
                                      exact at_eq (H183 _ 0 (Nat.lt_succ_self _) (by omega)) (lvc_s (lvc_i (rfl) rfl)) rfl (rfl) (by rw [← mix_0])
                                    · refine at_aload_n C 0 dX7_digest_164 rfl ?_
                                      refine at_aload_n C 0 dX7_digest_165 rfl ?_
                                      refine at_getf (v := .ref (G.1 (268))) C (obj_Ref G) (ci := 7) rfl inX7 (slot := 16) (by decide) qw_898 rfl rfl dX7_digest_166 ?_
                                      refine at_iload_n C 1 dX7_digest_169 rfl ?_
                                      refine at_iald C k (ar_268 G) (rfl) (by omega) dX7_digest_170 ?_
                                      have hb17 : _ ≤ M 268 k ∧ M 268 k ≤ _ := tv hT (k := 268) (j := k) rfl
                                      refine at_i2l C dX7_digest_171 ?_
                                      refine at_call_v C (c_X7_mix l D G (M := M) (L := L) (((sI (M 268 k))).toInt64) (mixR (M 268) k (qd5 M))) (As := [.long (((sI (M 268 k))).toInt64)]) (obj_Ref G) (ci := 7) rfl qw_1428 qw_1425 qw_8 qw_1427 qp_89 ⟨by decide, by decide, show (parseMethodDescriptor yX7_mix.desc).map (fun d => d.parameters.length) = some 1 by decide +kernel⟩ ⟨by decide, by decide⟩ ⟨Nat.zero_le _, Nat.zero_le _⟩ (Nat.le_of_ble_eq_true rfl) dX7_digest_172 rfl (fun M' L' hp18 => ?_)
                                      obtain ⟨rfl, rfl⟩ := hp18
                                      refine at_iinc C 1 [(1, .int (sI ((k : Int) + 1))), (0, .ref (G.1 (258)))] dX7_digest_175 rfl (by decide) rfl ?_
                                      refine at_goto C 154 dX7_digest_178 (by decide) ?_
                                      refine at_lv [1, 0] rfl ?_
                                      exact at_eq (ih154 (k + 1) (by omega) (by omega)) (lvc_s (lvc_i (by omega) rfl)) rfl (rfl) (by rw [← mix_s])
                                refine at_lv [1, 0] rfl ?_
                                exact at_eq (H154 _ 0 (Nat.lt_succ_self _) (by omega)) (lvc_s (lvc_i (rfl) rfl)) rfl (rfl) (by rw [← mix_0])
                              · refine at_aload_n C 0 dX7_digest_135 rfl ?_
                                refine at_aload_n C 0 dX7_digest_136 rfl ?_
                                refine at_getf (v := .ref (G.1 (267))) C (obj_Ref G) (ci := 7) rfl inX7 (slot := 15) (by decide) qw_897 rfl rfl dX7_digest_137 ?_
                                refine at_iload_n C 1 dX7_digest_140 rfl ?_
                                refine at_iald C k (ar_267 G) (rfl) (by omega) dX7_digest_141 ?_
                                have hb19 : _ ≤ M 267 k ∧ M 267 k ≤ _ := tv hT (k := 267) (j := k) rfl
                                refine at_i2l C dX7_digest_142 ?_
                                refine at_call_v C (c_X7_mix l D G (M := M) (L := L) (((sI (M 267 k))).toInt64) (mixR (M 267) k (qd4 M))) (As := [.long (((sI (M 267 k))).toInt64)]) (obj_Ref G) (ci := 7) rfl qw_1428 qw_1425 qw_8 qw_1427 qp_89 ⟨by decide, by decide, show (parseMethodDescriptor yX7_mix.desc).map (fun d => d.parameters.length) = some 1 by decide +kernel⟩ ⟨by decide, by decide⟩ ⟨Nat.zero_le _, Nat.zero_le _⟩ (Nat.le_of_ble_eq_true rfl) dX7_digest_143 rfl (fun M' L' hp20 => ?_)
                                obtain ⟨rfl, rfl⟩ := hp20
                                refine at_iinc C 1 [(1, .int (sI ((k : Int) + 1))), (0, .ref (G.1 (258)))] dX7_digest_146 rfl (by decide) rfl ?_
                                refine at_goto C 125 dX7_digest_149 (by decide) ?_
                                refine at_lv [1, 0] rfl ?_
                                exact at_eq (ih125 (k + 1) (by omega) (by omega)) (lvc_s (lvc_i (by omega) rfl)) rfl (rfl) (by rw [← mix_s])
                          refine at_lv [1, 0] rfl ?_
                          exact at_eq (H125 _ 0 (Nat.lt_succ_self _) (by omega)) (lvc_s (lvc_i (rfl) rfl)) rfl (rfl) (by rw [← mix_0])
                        · refine at_aload_n C 0 dX7_digest_106 rfl ?_
                          refine at_aload_n C 0 dX7_digest_107 rfl ?_
                          refine at_getf (v := .ref (G.1 (266))) C (obj_Ref G) (ci := 7) rfl inX7 (slot := 14) (by decide) qw_896 rfl rfl dX7_digest_108 ?_
                          refine at_iload_n C 1 dX7_digest_111 rfl ?_
                          refine at_iald C k (ar_266 G) (rfl) (by omega) dX7_digest_112 ?_
                          have hb21 : _ ≤ M 266 k ∧ M 266 k ≤ _ := tv hT (k := 266) (j := k) rfl
                          refine at_i2l C dX7_digest_113 ?_
                          refine at_call_v C (c_X7_mix l D G (M := M) (L := L) (((sI (M 266 k))).toInt64) (mixR (M 266) k (qd3 M))) (As := [.long (((sI (M 266 k))).toInt64)]) (obj_Ref G) (ci := 7) rfl qw_1428 qw_1425 qw_8 qw_1427 qp_89 ⟨by decide, by decide, show (parseMethodDescriptor yX7_mix.desc).map (fun d => d.parameters.length) = some 1 by decide +kernel⟩ ⟨by decide, by decide⟩ ⟨Nat.zero_le _, Nat.zero_le _⟩ (Nat.le_of_ble_eq_true rfl) dX7_digest_114 rfl (fun M' L' hp22 => ?_)
                          obtain ⟨rfl, rfl⟩ := hp22
                          refine at_iinc C 1 [(1, .int (sI ((k : Int) + 1))), (0, .ref (G.1 (258)))] dX7_digest_117 rfl (by decide) rfl ?_
                          refine at_goto C 98 dX7_digest_120 (by decide) ?_
                          refine at_lv [1, 0] rfl ?_
                          exact at_eq (ih98 (k + 1) (by omega) (by omega)) (lvc_s (lvc_i (by omega) rfl)) rfl (rfl) (by rw [← mix_s])
                    refine at_lv [1, 0] rfl ?_
                    exact at_eq (H98 _ 0 (Nat.lt_succ_self _) (by omega)) (lvc_s (lvc_i (rfl) rfl)) rfl (rfl) (by rw [← mix_0])
                  · refine at_iconst C dX7_digest_66 ?_
                    refine at_istore_n C [(2, .int (sI (0))), (0, .ref (G.1 (258))), (1, .int (sI ((k : Int))))] dX7_digest_67 (by decide) rfl ?_
                    have H68 : ∀ (fu : Nat) (w : Nat), 5 - w < fu → (w ≤ 5) → sAt zp l ze (sRm 4 87) zs zm za zb zt zc D G 3 0 0 Q 68 [(0, .ref (G.1 (258))), (1, .int (sI ((k : Int)))), (2, .int (sI ((w : Int))))] [] M (sSl L 258 35 (mixR (fun w => qTel M k w) w (qdS M k (qd2 M)))) := by
                      intro fu
                      induction fu with
                      | zero => intro w hd hw; exact absurd hd (Nat.not_lt_zero _)
                      | succ fu ih68 =>
                        intro w hd68 hw
                        refine at_iload_n C 2 dX7_digest_68 rfl ?_
                        refine at_iconst C dX7_digest_69 ?_
                        refine at_icmp_gt C 90 dX7_digest_70 (by decide) (⟨by omega, by omega⟩) (⟨by omega, by omega⟩) (fun h23 => ?_) (fun h23 => ?_)
                        · refine at_L (L' := (sSl L 258 35 (qdS M (k + 1) (qd2 M)))) (by rw [show w = 5 by omega, qdS_e]) ?_
                          refine at_iinc C 1 [(1, .int (sI ((k : Int) + 1))), (0, .ref (G.1 (258))), (2, .int (sI ((w : Int))))] dX7_digest_90 rfl (by decide) rfl ?_
                          refine at_goto C 58 dX7_digest_93 (by decide) ?_
                          refine at_lv [1, 0] rfl ?_
                          exact at_eq (ih58 (k + 1) (by omega) (by omega)) (lvc_s (lvc_i (by omega) rfl)) rfl (rfl) (rfl)
                        · refine at_aload_n C 0 dX7_digest_73 rfl ?_
                          refine at_aload_n C 0 dX7_digest_74 rfl ?_
                          refine at_iload_n C 1 dX7_digest_75 rfl ?_
                          refine at_iload_n C 2 dX7_digest_76 rfl ?_
                          refine at_call_i C (c_X7_soulTells l D G k (by omega) (w : Int) ⟨by omega, by omega⟩ hT) (As := [.int (sI ((k : Int))), .int (sI ((w : Int)))]) (obj_Ref G) (ci := 7) rfl qw_1240 qw_1237 qw_8 qw_1239 qp_74 ⟨by decide, by decide, show (parseMethodDescriptor yX7_soulTells.desc).map (fun d => d.parameters.length) = some 2 by decide +kernel⟩ ⟨by decide, by decide⟩ ⟨Nat.zero_le _, Nat.zero_le _⟩ (Nat.le_of_ble_eq_true rfl) dX7_digest_77 rfl (fun r M' L' hp24 => ?_)
                          obtain ⟨rfl, rfl, rfl⟩ := hp24
                          refine at_i2l C dX7_digest_80 ?_
                          refine at_call_v C (c_X7_mix l D G (M := M) (L := L) (((sI (qTel M k (w : Int)))).toInt64) (mixR (fun w => qTel M k w) w (qdS M k (qd2 M)))) (As := [.long (((sI (qTel M k (w : Int)))).toInt64)]) (obj_Ref G) (ci := 7) rfl qw_1428 qw_1425 qw_8 qw_1427 qp_89 ⟨by decide, by decide, show (parseMethodDescriptor yX7_mix.desc).map (fun d => d.parameters.length) = some 1 by decide +kernel⟩ ⟨by decide, by decide⟩ ⟨Nat.zero_le _, Nat.zero_le _⟩ (Nat.le_of_ble_eq_true rfl) dX7_digest_81 rfl (fun M' L' hp25 => ?_)
                          obtain ⟨rfl, rfl⟩ := hp25
                          refine at_iinc C 2 [(2, .int (sI ((w : Int) + 1))), (0, .ref (G.1 (258))), (1, .int (sI ((k : Int))))] dX7_digest_84 rfl (by decide) rfl ?_
                          refine at_goto C 68 dX7_digest_87 (by decide) ?_
                          refine at_lv [1, 2, 0] rfl ?_
                          exact at_eq (ih68 (w + 1) (by omega) (by omega)) (lvc_s (lvc_s (lvc_i (by omega) rfl))) rfl (rfl) (by rw [← mix_s])
                    refine at_lv [1, 2, 0] rfl ?_
                    exact at_eq (H68 _ 0 (Nat.lt_succ_self _) (by omega)) (lvc_s (lvc_s (lvc_i (rfl) rfl))) rfl (rfl) (by rw [← mix_0])
              refine at_lv [1, 0] rfl ?_
              exact at_eq (H58 _ 0 (Nat.lt_succ_self _) (by omega)) (lvc_s (lvc_i (rfl) rfl)) rfl (rfl) (rfl)
            · refine at_aload_n C 0 dX7_digest_39 rfl ?_
              refine at_aload_n C 0 dX7_digest_40 rfl ?_
              refine at_getf (v := .ref (G.1 (260))) C (obj_Ref G) (ci := 7) rfl inX7 (slot := 8) (by decide) qw_890 rfl rfl dX7_digest_41 ?_
              refine at_iload_n C 1 dX7_digest_44 rfl ?_
              refine at_iald C k (ar_260 G) (rfl) (by omega) dX7_digest_45 ?_
              have hb26 : _ ≤ M 260 k ∧ M 260 k ≤ _ := tv hT (k := 260) (j := k) rfl
              refine at_i2l C dX7_digest_46 ?_
              refine at_call_v C (c_X7_mix l D G (M := M) (L := L) (((sI (M 260 k))).toInt64) (mixR (M 260) k (qd1 M))) (As := [.long (((sI (M 260 k))).toInt64)]) (obj_Ref G) (ci := 7) rfl qw_1428 qw_1425 qw_8 qw_1427 qp_89 ⟨by decide, by decide, show (parseMethodDescriptor yX7_mix.desc).map (fun d => d.parameters.length) = some 1 by decide +kernel⟩ ⟨by decide, by decide⟩ ⟨Nat.zero_le _, Nat.zero_le _⟩ (Nat.le_of_ble_eq_true rfl) dX7_digest_47 rfl (fun M' L' hp27 => ?_)
              obtain ⟨rfl, rfl⟩ := hp27
              refine at_iinc C 1 [(1, .int (sI ((k : Int) + 1))), (0, .ref (G.1 (258)))] dX7_digest_50 rfl (by decide) rfl ?_
              refine at_goto C 33 dX7_digest_53 (by decide) ?_
              refine at_lv [1, 0] rfl ?_
              exact at_eq (ih33 (k + 1) (by omega) (by omega)) (lvc_s (lvc_i (by omega) rfl)) rfl (rfl) (by rw [← mix_s])
        refine at_lv [1, 0] rfl ?_
        exact at_eq (H33 _ 0 (Nat.lt_succ_self _) (by omega)) (lvc_s (lvc_i (rfl) rfl)) rfl (rfl) (by rw [← mix_0])
      · refine at_aload_n C 0 dX7_digest_15 rfl ?_
        refine at_aload_n C 0 dX7_digest_16 rfl ?_
        refine at_iload_n C 1 dX7_digest_17 rfl ?_
        refine at_call_i C (c_X7_countOf l D G (k : Int) ⟨by omega, by omega⟩ hT) (As := [.int (sI ((k : Int)))]) (obj_Ref G) (ci := 7) rfl qw_1419 qw_1416 qw_8 qw_1418 qp_88 ⟨by decide, by decide, show (parseMethodDescriptor yX7_countOf.desc).map (fun d => d.parameters.length) = some 1 by decide +kernel⟩ ⟨by decide, by decide⟩ ⟨Nat.zero_le _, Nat.zero_le _⟩ (Nat.le_of_ble_eq_true rfl) dX7_digest_18 rfl (fun r M' L' hp28 => ?_)
        obtain ⟨rfl, rfl, rfl⟩ := hp28
        refine at_i2l C dX7_digest_21 ?_
        refine at_call_v C (c_X7_mix l D G (M := M) (L := L) (((sI (qrCount0 M (k : Int)))).toInt64) (mixR (fun w => qrCount0 M w) k 1613)) (As := [.long (((sI (qrCount0 M (k : Int)))).toInt64)]) (obj_Ref G) (ci := 7) rfl qw_1428 qw_1425 qw_8 qw_1427 qp_89 ⟨by decide, by decide, show (parseMethodDescriptor yX7_mix.desc).map (fun d => d.parameters.length) = some 1 by decide +kernel⟩ ⟨by decide, by decide⟩ ⟨Nat.zero_le _, Nat.zero_le _⟩ (Nat.le_of_ble_eq_true rfl) dX7_digest_22 rfl (fun M' L' hp29 => ?_)
        obtain ⟨rfl, rfl⟩ := hp29
        refine at_iinc C 1 [(1, .int (sI ((k : Int) + 1))), (0, .ref (G.1 (258)))] dX7_digest_25 rfl (by decide) rfl ?_
        refine at_goto C 9 dX7_digest_28 (by decide) ?_
        refine at_lv [1, 0] rfl ?_
        exact at_eq (ih9 (k + 1) (by omega) (by omega)) (lvc_s (lvc_i (by omega) rfl)) rfl (rfl) (by rw [← mix_s])
  refine at_lv [1, 0] rfl ?_
  exact at_eq (H9 _ 0 (Nat.lt_succ_self _) (by omega)) (lvc_s (lvc_i (rfl) rfl)) rfl (rfl) (by rw [← mix_0])
