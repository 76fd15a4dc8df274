set_option maxHeartbeats 4000000 in
set_option maxRecDepth 100000 in
theorem c_X5_find (l : Launch) (D : va_G) (G : sG) {M : sM} {L : sL} (souls : Nat) (hsl : souls < 64) (hst : ∀ j, M 250 j ≤ M 245 7) (hs7 : M 245 7 < 800000000) (hT : TInv M) : sKi l D G yX5_find cX5_find 5 .boolean 3 68 [.ref (G.1 (245)), .ref (G.1 (1)), .int (sI ((souls : Int)))] M L (fun r M' L' => r = sB (wFnd M souls) ∧ (wEnd M L souls M' L' ∧ TInv M')) := by
  refine sKz_go (by decide) (Nat.le_of_ble_eq_true rfl) ?_
  intro zp ze zs zm za zb zt zc Q C hret
  refine at_eq (lv' := [(0, .ref (G.1 (245))), (1, .ref (G.1 (1))), (2, .int (sI ((souls : Int))))]) (st' := []) (M' := M) (L' := L) ?_ rfl rfl rfl rfl
  have hn := nS_r hT (Or.inl rfl)
  have hwl := wL_r hT souls
  have hxl0 := wx_r hT souls
  refine at_iconst C dX5_find_0 ?_
  refine at_istore_n C [(3, .int (sI (0))), (0, .ref (G.1 (245))), (1, .ref (G.1 (1))), (2, .int (sI ((souls : Int))))] dX5_find_1 (by decide) rfl ?_
  refine at_iconst C dX5_find_2 ?_
  refine at_istore C [(4, .int (sI (0))), (3, .int (sI (0))), (0, .ref (G.1 (245))), (1, .ref (G.1 (1))), (2, .int (sI ((souls : Int))))] dX5_find_3 (by decide) rfl ?_
  have H5 : ∀ (fu : Nat) (k : Nat), nS M 1 - k < fu → (k ≤ nS M 1) → (TInv (sSr M 251 (clR M k))) → sAt zp l ze (sRm 3 68) zs zm za zb zt zc D G 5 0 0 Q 5 [(0, .ref (G.1 (245))), (1, .ref (G.1 (1))), (2, .int (sI ((souls : Int)))), (3, .int (sI ((((bits (fun s => souls.testBit s = true ∧ adr M 1 s) k) : Nat) : Int)))), (4, .int (sI ((k : Int))))] [] (sSr M 251 (clR M k)) L := by
    intro fu
    induction fu with
    | zero => intro k hd hk hTk; exact absurd hd (Nat.not_lt_zero _)
    | succ fu ih5 =>
      intro k hd5 hk hTk
      refine at_iload C 4 dX5_find_5 rfl ?_
      refine at_aload_n C 1 dX5_find_7 rfl ?_
      refine at_getf (v := .int (sI ((sSr M 251 (clR M k)) 1 9))) C (obj_Bea G (Or.inl rfl)) (ci := 0) rfl inX0 (slot := 9) (by decide) qw_105 rfl rfl dX5_find_8 ?_
      have hb1 := tv_souls hTk (Or.inl rfl)
      refine at_ve (b := M 1 9) (by rw [sSr_ne (by decide)]) ?_
      refine at_icmp_ge C 62 dX5_find_11 (by decide) (⟨by omega, by omega⟩) (⟨by omega, by omega⟩) (fun h2 => ?_) (fun h2 => ?_)
      · have hwk : bits (fun s => souls.testBit s = true ∧ adr M 1 s) k = wL M souls := by rw [show k = nS M 1 by omega]; rfl
        refine at_aload_n C 0 dX5_find_62 rfl ?_
        refine at_lconst (v := 0) C dX5_find_63 (by decide) ?_
        refine at_putL (slot := 10) (ty := .long) C tyX5 (obj_Wal G) (ci := 5) rfl inX5 tyX5_ok nmX5 (by decide) qw_193 rfl rfl (by decide +kernel) rfl rfl (Nat.le_of_ble_eq_true rfl) rfl dX5_find_64 ?_
        refine at_aload_n C 0 dX5_find_67 rfl ?_
        refine at_getf (v := .ref (G.1 (246))) C (obj_Wal G) (ci := 5) rfl inX5 (slot := 0) (by decide) qw_182 rfl rfl dX5_find_68 ?_
        refine at_iconst C dX5_find_71 ?_
        refine at_aload_n C 1 dX5_find_72 rfl ?_
        refine at_getf (v := .ref (G.1 (6))) C (obj_Bea G (Or.inl rfl)) (ci := 0) rfl inX0 (slot := 4) (by decide) qw_94 rfl rfl dX5_find_73 ?_
        refine at_getf (v := .int (sI ((sSr M 251 (clR M k)) 6 3))) C ((isMo_now G (Or.inl rfl)).1) (ci := 1) rfl inX1 (slot := 3) (by decide) qw_47 rfl rfl dX5_find_76 ?_
        have hb3 := tv_comber hTk (Or.inl rfl)
        refine at_ve (b := (((M 6 3).toNat : Nat) : Int)) (by rw [sSr_ne (by decide)]; have h2 : _ ≤ M 6 3 ∧ M 6 3 ≤ _ := tv_comber hT (o := 1) (Or.inl rfl); omega) ?_
        have hcb : _ ≤ M 6 3 ∧ M 6 3 ≤ _ := tv_comber hT (o := 1) (Or.inl rfl)
        refine at_bipush C dX5_find_79 (by decide) (by decide) ?_
        refine at_imul C dX5_find_81 ?_
        refine at_iload_n C 3 dX5_find_82 rfl ?_
        refine at_iadd C dX5_find_83 ?_
        have hxk : True := trivial
        refine at_ve (b := (((wx M souls) : Nat) : Int)) (by rw [hwk]; rfl) ?_
        refine at_iast C 0 (ar_246 G) (rfl) (by omega) dX5_find_84 ?_
        have hT4 : TInv (sSt (sSr M 251 (clR M k)) 246 0 (((wx M souls) : Nat) : Int)) := tv_st hTk (k := 246) rfl (⟨by omega, by omega⟩)
        refine at_aload_n C 0 dX5_find_85 rfl ?_
        refine at_getf (v := .ref (G.1 (248))) C (obj_Wal G) (ci := 5) rfl inX5 (slot := 2) (by decide) qw_184 rfl rfl dX5_find_86 ?_
        refine at_iconst C dX5_find_89 ?_
        refine at_lconst (v := 0) C dX5_find_90 (by decide) ?_
        refine at_last C 0 (ar_248 G) (rfl) (by omega) dX5_find_91 ?_
        refine at_aload_n C 0 dX5_find_92 rfl ?_
        refine at_iconst C dX5_find_93 ?_
        refine at_putM (slot := 8) (ty := .int) C tyX5 (obj_Wal G) (ci := 5) rfl inX5 tyX5_ok nmX5 (by decide) qw_190 rfl rfl (by decide +kernel) rfl rfl (Nat.le_of_ble_eq_true rfl) rfl dX5_find_94 ?_
        have hT5 : TInv (sSt (sSt (sSr M 251 (clR M k)) 246 0 (((wx M souls) : Nat) : Int)) 245 8 1) := tv_st hT4 (k := 245) (j := 8) rfl (⟨by omega, by omega⟩)
        refine at_iload_n C 3 dX5_find_97 rfl ?_
        refine at_if_ne C 105 dX5_find_98 (by decide) (⟨by omega, by omega⟩) (fun h6 => ?_) (fun h6 => ?_)
        · refine at_iconst C dX5_find_105 ?_
          refine at_istore C [(4, .int (sI (0))), (0, .ref (G.1 (245))), (1, .ref (G.1 (1))), (2, .int (sI ((souls : Int)))), (3, .int (sI ((((bits (fun s => souls.testBit s = true ∧ adr M 1 s) k) : Nat) : Int))))] dX5_find_106 (by decide) rfl ?_
          refine at_aload_n C 1 dX5_find_108 rfl ?_
          refine at_iconst C dX5_find_109 ?_
          refine at_putM (slot := 9) (ty := .int) C tyX5 (obj_Wal G) (ci := 5) rfl inX5 tyX5_ok nmX5 (by decide) qw_191 rfl rfl (by decide +kernel) rfl rfl (Nat.le_of_ble_eq_true rfl) rfl dX5_find_110 ?_
          have hT7 : TInv (sSt (sSt (sSt (sSr M 251 (clR M k)) 246 0 (((wx M souls) : Nat) : Int)) 245 8 1) 245 9 0) := tv_st hT5 (k := 245) (j := 9) rfl (⟨by omega, by omega⟩)
          have H113 : ∀ (fu : Nat) (t : Nat) (b : Int) (M1 : sM) (L1 : sL), 20 - t < fu → (t ≤ 20) → (TInv M1) → (wfI M souls t b M1 L1) → (wfr M L t M1 L1) → (b = 0 ∨ b = 1) → sAt zp l ze (sRm 3 68) zs zm za zb zt zc D G 5 0 0 Q 113 [(0, .ref (G.1 (245))), (1, .ref (G.1 (1))), (3, .int (sI ((((wL M souls) : Nat) : Int)))), (4, .int (sI (b)))] [] M1 L1 := by
            intro fu
            induction fu with
            | zero => intro t b M1 L1 hd ht hT1 hw hf1 hb01; exact absurd hd (Nat.not_lt_zero _)
            | succ fu ih113 =>
              intro t b M1 L1 hd113 ht hT1 hw hf1 hb01
              refine at_aload_n C 0 dX5_find_113 rfl ?_
              refine at_getf (v := .int (sI (M1 245 9))) C (obj_Wal G) (ci := 5) rfl inX5 (slot := 9) (by decide) qw_191 rfl rfl dX5_find_114 ?_
              have hb8 := tv hT1 (k := 245) (j := 9) rfl
              refine at_ve (b := (t : Int)) (hf1.2.2.1) ?_
              refine at_bipush C dX5_find_117 (by decide) (by decide) ?_
              refine at_icmp_ge C 158 dX5_find_119 (by decide) (⟨by omega, by omega⟩) (⟨by omega, by omega⟩) (fun h9 => ?_) (fun h9 => ?_)
              · refine at_iload C 3 dX5_find_158 rfl ?_
                exact hret _ _ _ _ _ dX5_find_160 ((wEnd_i hw hf1 ht (by omega)).1) ⟨(wEnd_i hw hf1 ht (by omega)).2, hT1⟩
              · refine at_iload C 3 dX5_find_122 rfl ?_
                refine at_if_ne C 158 dX5_find_124 (by decide) (⟨by omega, by omega⟩) (fun h10 => ?_) (fun h10 => ?_)
                · refine at_iload C 3 dX5_find_158 rfl ?_
                  exact hret _ _ _ _ _ dX5_find_160 ((wEnd_i hw hf1 ht (by omega)).1) ⟨(wEnd_i hw hf1 ht (by omega)).2, hT1⟩
                · obtain ⟨n, cs, vs, hw0⟩ : ∃ n cs vs, wf0 M souls t n cs vs M1 L1 := by rcases hw with z | z; exact z.2; omega
                  have hcell1 : ∀ s, s < nS M1 1 → (wL M souls).testBit s = true → 0 ≤ M1 251 s := fun s _ hb => wf0_c hT hw0 hb
                  refine at_aload_n C 0 dX5_find_127 rfl ?_
                  refine at_aload_n C 1 dX5_find_128 rfl ?_
                  refine at_iload_n C 2 dX5_find_129 rfl ?_
                  refine at_call_v C (c_X5_layOut l D G (wL M souls) (by omega) hcell1 hT1) (As := [.ref (G.1 (1)), .int (sI ((((wL M souls) : Nat) : Int)))]) (obj_Wal G) (ci := 5) rfl qw_649 qw_646 qw_6 qw_648 qp_17 ⟨by decide, by decide, show (parseMethodDescriptor yX5_layOut.desc).map (fun d => d.parameters.length) = some 2 by decide +kernel⟩ ⟨by decide, by decide⟩ ⟨Nat.zero_le _, Nat.zero_le _⟩ (Nat.le_of_ble_eq_true rfl) dX5_find_130 rfl (fun M' L' hp12 => ?_)
                  obtain ⟨rfl, hT11, rfl⟩ := hp12
                  refine at_aload_n C 0 dX5_find_133 rfl ?_
                  have h8b : (sSr M1 252 (lyR M1 (wL M souls) (nS M1 1))) 245 8 = (n : Int) := by rw [sSr_ne (by decide)]; exact hw0.2.1
                  have hxl := wx_r hT souls
                  have hcsb : ∀ i, i < n → (sSr M1 252 (lyR M1 (wL M souls) (nS M1 1))) 246 i = (cs i : Int) ∧ cs i < 768 := fun i hi => ⟨by rw [sSr_ne (by decide)]; exact hw0.2.2.1 i hi, by rw [(hw0.2.2.2.2.1.1 i hi).1]; exact runC_lt hxl.1 t _⟩
                  have h248b : ∀ i, i < n → L1 248 i = lN (vs i) := hw0.2.2.2.1
                  have hlyb : ∀ c, c < 12 → (sSr M1 252 (lyR M1 (wL M souls) (nS M1 1))) 252 c = ((wly M (wL M souls) t) c : Int) ∧ (wly M (wL M souls) t) c < 64 := fun c hc => ⟨by rw [sSr_eq]; unfold lyR; rw [if_pos hc, show nS M1 1 = nS M 1 by unfold nS; rw [hf1.1 1 (by omega)], wf0_ly hw0 c], wly_lt hT _ _ _⟩
                  have hstb : ∀ j, (sSr M1 252 (lyR M1 (wL M souls) (nS M1 1))) 250 j ≤ (sSr M1 252 (lyR M1 (wL M souls) (nS M1 1))) 245 7 := fun j => by rw [sSr_ne (by decide), sSr_ne (by decide)]; exact hf1.2.2.2.1 j
                  have hs7b : (sSr M1 252 (lyR M1 (wL M souls) (nS M1 1))) 245 7 < 900000000 := by rw [sSr_ne (by decide), hf1.2.1]; omega
                  refine at_call_i C (c_X5_stepOn l D G n (wly M (wL M souls) t) cs vs h8b hcsb h248b hw0.2.2.2.2.1.2.1 hlyb hstb hs7b hT11) (As := []) (obj_Wal G) (ci := 5) rfl qw_653 qw_650 qw_6 qw_652 qp_18 ⟨by decide, by decide, show (parseMethodDescriptor yX5_stepOn.desc).map (fun d => d.parameters.length) = some 0 by decide +kernel⟩ ⟨by decide, by decide⟩ ⟨Nat.zero_le _, Nat.zero_le _⟩ (Nat.le_of_ble_eq_true rfl) dX5_find_134 rfl (fun r M14 L15 hp13 => ?_)
                  obtain ⟨rfl, hY3, hF3, hX3, hT3⟩ := hp13
                  obtain ⟨b2, hb2, hb2c⟩ := sB_ex (fnd (wly M (wL M souls) t) cs n)
                  refine at_vi (y := (sI (b2))) (hb2) ?_
                  refine at_istore C [(4, .int (sI (b2))), (0, .ref (G.1 (245))), (1, .ref (G.1 (1))), (3, .int (sI ((((wL M souls) : Nat) : Int))))] dX5_find_137 (by decide) rfl ?_
                  have hcell2 : ∀ s, s < nS M14 1 → (wL M souls).testBit s = true → 0 ≤ M14 251 s := fun s _ hb => by rw [hX3.1 251 (by omega), sSr_ne (by decide)]; exact wf0_c hT hw0 hb
                  refine at_aload_n C 1 dX5_find_139 rfl ?_
                  refine at_aload_n C 2 dX5_find_140 rfl ?_
                  refine at_iload_n C 3 dX5_find_141 rfl ?_
                  refine at_call_v C (c_X5_drift l D G (wL M souls) (by omega) hcell2 hT3) (As := [.ref (G.1 (1)), .int (sI ((((wL M souls) : Nat) : Int)))]) (obj_Wal G) (ci := 5) rfl qw_661 qw_658 qw_6 qw_660 qp_19 ⟨by decide, by decide, show (parseMethodDescriptor yX5_drift.desc).map (fun d => d.parameters.length) = some 2 by decide +kernel⟩ ⟨by decide, by decide⟩ ⟨Nat.zero_le _, Nat.zero_le _⟩ (Nat.le_of_ble_eq_true rfl) dX5_find_142 rfl (fun M' L' hp17 => ?_)
                  obtain ⟨rfl, hT16, rfl⟩ := hp17
                  refine at_aload_n C 1 dX5_find_145 rfl ?_
                  refine at_dup C dX5_find_146 rfl ?_
                  refine at_getf (v := .int (sI ((sSr M14 251 (drR M14 (wL M souls) (nS M14 1))) 245 9))) C (obj_Wal G) (ci := 5) rfl inX5 (slot := 9) (by decide) qw_191 rfl rfl dX5_find_147 ?_
                  have hb18 := tv hT16 (k := 245) (j := 9) rfl
                  refine at_ve (b := (t : Int)) (by rw [sSr_ne (by decide), hX3.2.2.1, sSr_ne (by decide)]; exact hf1.2.2.1) ?_
                  refine at_iconst C dX5_find_150 ?_
                  refine at_iadd C dX5_find_151 ?_
                  refine at_putM (slot := 9) (ty := .int) C tyX5 (obj_Wal G) (ci := 5) rfl inX5 tyX5_ok nmX5 (by decide) qw_191 rfl rfl (by decide +kernel) rfl rfl (Nat.le_of_ble_eq_true rfl) rfl dX5_find_152 ?_
                  have hT19 : TInv (sSt (sSr M14 251 (drR M14 (wL M souls) (nS M14 1))) 245 9 ((t : Int) + 1)) := tv_st hT16 (k := 245) (j := 9) rfl (⟨by omega, by omega⟩)
                  refine at_goto C 113 dX5_find_155 (by decide) ?_
                  refine at_lv [1, 2, 3, 0] rfl ?_
                  exact at_eq (ih113 (t + 1) b2 (sSt (sSr M14 251 (drR M14 (wL M souls) (nS M14 1))) 245 9 ((t : Int) + 1)) L15 (by omega) (by omega) (hT19) ((wfI_s hw0 hf1 hY3 hF3 hX3 hb2c).1) ((wfI_s hw0 hf1 hY3 hF3 hX3 hb2c).2) (by rcases hb2c with z | z; exact Or.inr z.1; exact Or.inl z.1)) rfl rfl (rfl) (rfl)
          refine at_lv [1, 2, 4, 0] rfl ?_
          exact at_eq (H113 _ 0 0 (sSt (sSt (sSt (sSr M 251 (clR M k)) 246 0 (((wx M souls) : Nat) : Int)) 245 8 1) 245 9 0) (sSl (sSl L 245 10 0) 248 0 0) (Nat.lt_succ_self _) (by omega) (hT7) ((by have e : nS M 1 = k := (by omega); have w := wfI_0 (L := L) hT souls hst (b := 0) (Or.inr ⟨rfl, by omega⟩); rw [e] at w; exact w.1)) ((by have e : nS M 1 = k := (by omega); have w := wfI_0 (L := L) hT souls hst (b := 0) (Or.inr ⟨rfl, by omega⟩); rw [e] at w; exact w.2)) (by omega)) (lvc_s (lvc_s (lvc_i (by rw [show k = nS M 1 by omega]; rfl) (lvc_s rfl)))) rfl (rfl) (rfl)
        · refine at_iconst C dX5_find_101 ?_
          refine at_goto C 106 dX5_find_102 (by decide) ?_
          refine at_istore C [(4, .int (sI (1))), (0, .ref (G.1 (245))), (1, .ref (G.1 (1))), (2, .int (sI ((souls : Int)))), (3, .int (sI ((((bits (fun s => souls.testBit s = true ∧ adr M 1 s) k) : Nat) : Int))))] dX5_find_106 (by decide) rfl ?_
          refine at_aload_n C 1 dX5_find_108 rfl ?_
          refine at_iconst C dX5_find_109 ?_
          refine at_putM (slot := 9) (ty := .int) C tyX5 (obj_Wal G) (ci := 5) rfl inX5 tyX5_ok nmX5 (by decide) qw_191 rfl rfl (by decide +kernel) rfl rfl (Nat.le_of_ble_eq_true rfl) rfl dX5_find_110 ?_
          have hT20 : TInv (sSt (sSt (sSt (sSr M 251 (clR M k)) 246 0 (((wx M souls) : Nat) : Int)) 245 8 1) 245 9 0) := tv_st hT5 (k := 245) (j := 9) rfl (⟨by omega, by omega⟩)
          have H113 : ∀ (fu : Nat) (t : Nat) (b : Int) (M1 : sM) (L1 : sL), 20 - t < fu → (t ≤ 20) → (TInv M1) → (wfI M souls t b M1 L1) → (wfr M L t M1 L1) → (b = 0 ∨ b = 1) → sAt zp l ze (sRm 3 68) zs zm za zb zt zc D G 5 0 0 Q 113 [(0, .ref (G.1 (245))), (1, .ref (G.1 (1))), (3, .int (sI ((((wL M souls) : Nat) : Int)))), (4, .int (sI (b)))] [] M1 L1 := by
            intro fu
            induction fu with
            | zero => intro t b M1 L1 hd ht hT1 hw hf1 hb01; exact absurd hd (Nat.not_lt_zero _)
            | succ fu ih113 =>
              intro t b M1 L1 hd113 ht hT1 hw hf1 hb01
              refine at_aload_n C 0 dX5_find_113 rfl ?_
              refine at_getf (v := .int (sI (M1 245 9))) C (obj_Wal G) (ci := 5) rfl inX5 (slot := 9) (by decide) qw_191 rfl rfl dX5_find_114 ?_
              have hb21 := tv hT1 (k := 245) (j := 9) rfl
              refine at_ve (b := (t : Int)) (hf1.2.2.1) ?_
              refine at_bipush C dX5_find_117 (by decide) (by decide) ?_
              refine at_icmp_ge C 158 dX5_find_119 (by decide) (⟨by omega, by omega⟩) (⟨by omega, by omega⟩) (fun h22 => ?_) (fun h22 => ?_)
              · refine at_iload C 3 dX5_find_158 rfl ?_
                exact hret _ _ _ _ _ dX5_find_160 ((wEnd_i hw hf1 ht (by omega)).1) ⟨(wEnd_i hw hf1 ht (by omega)).2, hT1⟩
              · refine at_iload C 3 dX5_find_122 rfl ?_
                refine at_if_ne C 158 dX5_find_124 (by decide) (⟨by omega, by omega⟩) (fun h23 => ?_) (fun h23 => ?_)
                · refine at_iload C 3 dX5_find_158 rfl ?_
                  exact hret _ _ _ _ _ dX5_find_160 ((wEnd_i hw hf1 ht (by omega)).1) ⟨(wEnd_i hw hf1 ht (by omega)).2, hT1⟩
                · obtain ⟨n, cs, vs, hw0⟩ : ∃ n cs vs, wf0 M souls t n cs vs M1 L1 := by rcases hw with z | z; exact z.2; omega
                  have hcell1 : ∀ s, s < nS M1 1 → (wL M souls).testBit s = true → 0 ≤ M1 251 s := fun s _ hb => wf0_c hT hw0 hb
                  refine at_aload_n C 0 dX5_find_127 rfl ?_
                  refine at_aload_n C 1 dX5_find_128 rfl ?_
                  refine at_iload_n C 2 dX5_find_129 rfl ?_
                  refine at_call_v C (c_X5_layOut l D G (wL M souls) (by omega) hcell1 hT1) (As := [.ref (G.1 (1)), .int (sI ((((wL M souls) : Nat) : Int)))]) (obj_Wal G) (ci := 5) rfl qw_649 qw_646 qw_6 qw_648 qp_17 ⟨by decide, by decide, show (parseMethodDescriptor yX5_layOut.desc).map (fun d => d.parameters.length) = some 2 by decide +kernel⟩ ⟨by decide, by decide⟩ ⟨Nat.zero_le _, Nat.zero_le _⟩ (Nat.le_of_ble_eq_true rfl) dX5_find_130 rfl (fun M' L' hp25 => ?_)
                  obtain ⟨rfl, hT24, rfl⟩ := hp25
                  refine at_aload_n C 0 dX5_find_133 rfl ?_
                  have h8b : (sSr M1 252 (lyR M1 (wL M souls) (nS M1 1))) 245 8 = (n : Int) := by rw [sSr_ne (by decide)]; exact hw0.2.1
                  have hxl := wx_r hT souls
                  have hcsb : ∀ i, i < n → (sSr M1 252 (lyR M1 (wL M souls) (nS M1 1))) 246 i = (cs i : Int) ∧ cs i < 768 := fun i hi => ⟨by rw [sSr_ne (by decide)]; exact hw0.2.2.1 i hi, by rw [(hw0.2.2.2.2.1.1 i hi).1]; exact runC_lt hxl.1 t _⟩
                  have h248b : ∀ i, i < n → L1 248 i = lN (vs i) := hw0.2.2.2.1
                  have hlyb : ∀ c, c < 12 → (sSr M1 252 (lyR M1 (wL M souls) (nS M1 1))) 252 c = ((wly M (wL M souls) t) c : Int) ∧ (wly M (wL M souls) t) c < 64 := fun c hc => ⟨by rw [sSr_eq]; unfold lyR; rw [if_pos hc, show nS M1 1 = nS M 1 by unfold nS; rw [hf1.1 1 (by omega)], wf0_ly hw0 c], wly_lt hT _ _ _⟩
                  have hstb : ∀ j, (sSr M1 252 (lyR M1 (wL M souls) (nS M1 1))) 250 j ≤ (sSr M1 252 (lyR M1 (wL M souls) (nS M1 1))) 245 7 := fun j => by rw [sSr_ne (by decide), sSr_ne (by decide)]; exact hf1.2.2.2.1 j
                  have hs7b : (sSr M1 252 (lyR M1 (wL M souls) (nS M1 1))) 245 7 < 900000000 := by rw [sSr_ne (by decide), hf1.2.1]; omega
                  refine at_call_i C (c_X5_stepOn l D G n (wly M (wL M souls) t) cs vs h8b hcsb h248b hw0.2.2.2.2.1.2.1 hlyb hstb hs7b hT24) (As := []) (obj_Wal G) (ci := 5) rfl qw_653 qw_650 qw_6 qw_652 qp_18 ⟨by decide, by decide, show (parseMethodDescriptor yX5_stepOn.desc).map (fun d => d.parameters.length) = some 0 by decide +kernel⟩ ⟨by decide, by decide⟩ ⟨Nat.zero_le _, Nat.zero_le _⟩ (Nat.le_of_ble_eq_true rfl) dX5_find_134 rfl (fun r M27 L28 hp26 => ?_)
                  obtain ⟨rfl, hY3, hF3, hX3, hT3⟩ := hp26
                  obtain ⟨b2, hb2, hb2c⟩ := sB_ex (fnd (wly M (wL M souls) t) cs n)
                  refine at_vi (y := (sI (b2))) (hb2) ?_
                  refine at_istore C [(4, .int (sI (b2))), (0, .ref (G.1 (245))), (1, .ref (G.1 (1))), (3, .int (sI ((((wL M souls) : Nat) : Int))))] dX5_find_137 (by decide) rfl ?_
                  have hcell2 : ∀ s, s < nS M27 1 → (wL M souls).testBit s = true → 0 ≤ M27 251 s := fun s _ hb => by rw [hX3.1 251 (by omega), sSr_ne (by decide)]; exact wf0_c hT hw0 hb
                  refine at_aload_n C 1 dX5_find_139 rfl ?_
                  refine at_aload_n C 2 dX5_find_140 rfl ?_
                  refine at_iload_n C 3 dX5_find_141 rfl ?_
                  refine at_call_v C (c_X5_drift l D G (wL M souls) (by omega) hcell2 hT3) (As := [.ref (G.1 (1)), .int (sI ((((wL M souls) : Nat) : Int)))]) (obj_Wal G) (ci := 5) rfl qw_661 qw_658 qw_6 qw_660 qp_19 ⟨by decide, by decide, show (parseMethodDescriptor yX5_drift.desc).map (fun d => d.parameters.length) = some 2 by decide +kernel⟩ ⟨by decide, by decide⟩ ⟨Nat.zero_le _, Nat.zero_le _⟩ (Nat.le_of_ble_eq_true rfl) dX5_find_142 rfl (fun M' L' hp30 => ?_)
                  obtain ⟨rfl, hT29, rfl⟩ := hp30
                  refine at_aload_n C 1 dX5_find_145 rfl ?_
                  refine at_dup C dX5_find_146 rfl ?_
                  refine at_getf (v := .int (sI ((sSr M27 251 (drR M27 (wL M souls) (nS M27 1))) 245 9))) C (obj_Wal G) (ci := 5) rfl inX5 (slot := 9) (by decide) qw_191 rfl rfl dX5_find_147 ?_
                  have hb31 := tv hT29 (k := 245) (j := 9) rfl
                  refine at_ve (b := (t : Int)) (by rw [sSr_ne (by decide), hX3.2.2.1, sSr_ne (by decide)]; exact hf1.2.2.1) ?_
                  refine at_iconst C dX5_find_150 ?_
                  refine at_iadd C dX5_find_151 ?_
                  refine at_putM (slot := 9) (ty := .int) C tyX5 (obj_Wal G) (ci := 5) rfl inX5 tyX5_ok nmX5 (by decide) qw_191 rfl rfl (by decide +kernel) rfl rfl (Nat.le_of_ble_eq_true rfl) rfl dX5_find_152 ?_
                  have hT32 : TInv (sSt (sSr M27 251 (drR M27 (wL M souls) (nS M27 1))) 245 9 ((t : Int) + 1)) := tv_st hT29 (k := 245) (j := 9) rfl (⟨by omega, by omega⟩)
                  refine at_goto C 113 dX5_find_155 (by decide) ?_
                  refine at_lv [1, 2, 3, 0] rfl ?_
                  exact at_eq (ih113 (t + 1) b2 (sSt (sSr M27 251 (drR M27 (wL M souls) (nS M27 1))) 245 9 ((t : Int) + 1)) L28 (by omega) (by omega) (hT32) ((wfI_s hw0 hf1 hY3 hF3 hX3 hb2c).1) ((wfI_s hw0 hf1 hY3 hF3 hX3 hb2c).2) (by rcases hb2c with z | z; exact Or.inr z.1; exact Or.inl z.1)) rfl rfl (rfl) (rfl)
          refine at_lv [1, 2, 4, 0] rfl ?_
          exact at_eq (H113 _ 0 1 (sSt (sSt (sSt (sSr M 251 (clR M k)) 246 0 (((wx M souls) : Nat) : Int)) 245 8 1) 245 9 0) (sSl (sSl L 245 10 0) 248 0 0) (Nat.lt_succ_self _) (by omega) (hT20) ((by have e : nS M 1 = k := (by omega); have w := wfI_0 (L := L) hT souls hst (b := 1) (Or.inl ⟨rfl, by omega⟩); rw [e] at w; exact w.1)) ((by have e : nS M 1 = k := (by omega); have w := wfI_0 (L := L) hT souls hst (b := 1) (Or.inl ⟨rfl, by omega⟩); rw [e] at w; exact w.2)) (by omega)) (lvc_s (lvc_s (lvc_i (by rw [show k = nS M 1 by omega]; rfl) (lvc_s rfl)))) rfl (rfl) (rfl)
      · refine at_aload_n C 0 dX5_find_14 rfl ?_
        refine at_getf (v := .ref (G.1 (251))) C (obj_Wal G) (ci := 5) rfl inX5 (slot := 5) (by decide) qw_187 rfl rfl dX5_find_15 ?_
        refine at_iload C 4 dX5_find_18 rfl ?_
        refine at_aload_n C 1 dX5_find_20 rfl ?_
        refine at_getf (v := .ref (G.1 (6))) C (obj_Bea G (Or.inl rfl)) (ci := 0) rfl inX0 (slot := 4) (by decide) qw_94 rfl rfl dX5_find_21 ?_
        refine at_getf (v := .ref (G.1 (7))) C ((isMo_now G (Or.inl rfl)).1) (ci := 1) rfl inX1 (slot := 0) (by decide) qw_36 rfl rfl dX5_find_24 ?_
        refine at_iload C 4 dX5_find_27 rfl ?_
        refine at_iald C k (arI_cell G (Or.inl rfl)) (rfl) (by omega) dX5_find_29 ?_
        have hb33 := tv_cell hTk (Or.inl rfl) k
        refine at_ve (b := M 7 k) (by rw [sSr_ne (by decide)]) ?_
        have hcr : _ ≤ M 7 k ∧ M 7 k ≤ _ := tv_cell hT (o := 1) (Or.inl rfl) k
        refine at_iast C k (ar_251 G) (rfl) (by omega) dX5_find_30 ?_
        have hT34 : TInv (sSt (sSr M 251 (clR M k)) 251 k (M 7 k)) := tv_st hTk (k := 251) rfl (⟨by omega, by omega⟩)
        have hTk2 : TInv (sSr M 251 (clR M (k + 1))) := (clR_s M k) ▸ hT34
        refine at_m (M' := (sSr M 251 (clR M (k + 1)))) (clR_s M k) ?_
        refine at_iload_n C 2 dX5_find_31 rfl ?_
        refine at_iload C 4 dX5_find_32 rfl ?_
        refine at_nest_i C (c_X6_contains l D G souls k (by omega) (by omega)) (As := [.int (sI ((souls : Int))), .int (sI ((k : Int)))]) qw_644 (host := RX6) (List.mem_of_getElem? (i := 8) rfl) qw_1 qw_643 ⟨by decide, by decide, show (parseMethodDescriptor yX6_contains.desc).map (fun d => d.parameters.length) = some 2 by decide +kernel⟩ ⟨by decide, by decide⟩ ⟨Nat.zero_le _, Nat.zero_le _⟩ (Nat.le_of_ble_eq_true rfl) dX5_find_34 rfl (fun r M' L' hp35 => ?_)
        obtain ⟨rfl, rfl, rfl⟩ := hp35
        refine at_if_eqB C 56 dX5_find_37 (by decide) (fun h36 => ?_) (fun h36 => ?_)
        · refine at_iinc C 4 [(4, .int (sI ((k : Int) + 1))), (0, .ref (G.1 (245))), (1, .ref (G.1 (1))), (2, .int (sI ((souls : Int)))), (3, .int (sI ((((bits (fun s => souls.testBit s = true ∧ adr M 1 s) k) : Nat) : Int))))] dX5_find_56 rfl (by decide) rfl ?_
          refine at_goto C 5 dX5_find_59 (by decide) ?_
          refine at_lv [1, 2, 3, 4, 0] rfl ?_
          exact at_eq (ih5 (k + 1) (by omega) (by omega) (hTk2)) (lvc_s (lvc_s (lvc_s (lvc_i (by rw [bits_n (p := fun s => souls.testBit s = true ∧ adr M 1 s) (fun z => absurd z.1 (by assumption))]) (lvc_i (by omega) rfl))))) rfl (rfl) (rfl)
        · refine at_aload_n C 1 dX5_find_40 rfl ?_
          refine at_iload C 4 dX5_find_41 rfl ?_
          refine at_call_i C (c_X0_adrift l D G (Or.inl rfl) hTk2 k (by omega)) (As := [.int (sI ((k : Int)))]) (obj_Bea G (Or.inl rfl)) (ci := 0) rfl qw_481 qw_645 qw_2 qw_479 qw_480 ⟨by decide, by decide, show (parseMethodDescriptor yX0_adrift.desc).map (fun d => d.parameters.length) = some 1 by decide +kernel⟩ ⟨by decide, by decide⟩ ⟨Nat.zero_le _, Nat.zero_le _⟩ (Nat.le_of_ble_eq_true rfl) dX5_find_43 rfl (fun r M' L' hp37 => ?_)
          obtain ⟨rfl, rfl, rfl⟩ := hp37
          refine at_vi (y := sB (adr (sSr M 251 (clR M (k + 1))) 1 k)) rfl ?_
          refine at_vi (y := (sB (adr M 1 k))) (rfl) ?_
          refine at_if_eqB C 56 dX5_find_46 (by decide) (fun h38 => ?_) (fun h38 => ?_)
          · refine at_iinc C 4 [(4, .int (sI ((k : Int) + 1))), (0, .ref (G.1 (245))), (1, .ref (G.1 (1))), (2, .int (sI ((souls : Int)))), (3, .int (sI ((((bits (fun s => souls.testBit s = true ∧ adr M 1 s) k) : Nat) : Int))))] dX5_find_56 rfl (by decide) rfl ?_
            refine at_goto C 5 dX5_find_59 (by decide) ?_
            refine at_lv [1, 2, 3, 4, 0] rfl ?_
            exact at_eq (ih5 (k + 1) (by omega) (by omega) (hTk2)) (lvc_s (lvc_s (lvc_s (lvc_i (by rw [bits_n (p := fun s => souls.testBit s = true ∧ adr M 1 s) (fun z => absurd z.2 (by assumption))]) (lvc_i (by omega) rfl))))) rfl (rfl) (rfl)
          · refine at_iload_n C 3 dX5_find_49 rfl ?_
            refine at_iconst C dX5_find_50 ?_
            refine at_iload C 4 dX5_find_51 rfl ?_
            refine at_ishl C ((((2 ^ k) : Nat) : Int)) dX5_find_53 (zb_shl (by omega)) ?_
            refine at_ior C ((((bits (fun s => souls.testBit s = true ∧ adr M 1 s) k ||| 2 ^ k) : Nat) : Int)) dX5_find_54 (zb_or _ _) ?_
            refine at_istore_n C [(3, .int (sI ((((bits (fun s => souls.testBit s = true ∧ adr M 1 s) k ||| 2 ^ k) : Nat) : Int)))), (0, .ref (G.1 (245))), (1, .ref (G.1 (1))), (2, .int (sI ((souls : Int)))), (4, .int (sI ((k : Int))))] dX5_find_55 (by decide) rfl ?_
            refine at_iinc C 4 [(4, .int (sI ((k : Int) + 1))), (3, .int (sI ((((bits (fun s => souls.testBit s = true ∧ adr M 1 s) k ||| 2 ^ k) : Nat) : Int)))), (0, .ref (G.1 (245))), (1, .ref (G.1 (1))), (2, .int (sI ((souls : Int))))] dX5_find_56 rfl (by decide) rfl ?_
            refine at_goto C 5 dX5_find_59 (by decide) ?_
            refine at_lv [2, 3, 4, 1, 0] rfl ?_
            exact at_eq (ih5 (k + 1) (by omega) (by omega) (hTk2)) (lvc_s (lvc_s (lvc_s (lvc_i (by rw [bits_y (p := fun s => souls.testBit s = true ∧ adr M 1 s) ⟨by assumption, by assumption⟩]) (lvc_i (by omega) rfl))))) rfl (rfl) (rfl)
  refine at_lv [2, 3, 4, 1, 0] rfl ?_
  exact at_eq (H5 _ 0 (Nat.lt_succ_self _) (by omega) ((clR_0 M) ▸ hT)) (lvc_s (lvc_s (lvc_s (lvc_i (rfl) (lvc_i (rfl) rfl))))) rfl (clR_0 M) (rfl)

set_option maxHeartbeats 4000000 in
set_option maxRecDepth 100000 in
theorem c_X5_stepAt (l : Launch) (D : va_G) (G : sG) {M : sM} {L : sL} (k T v : Nat) (hT20 : T ≤ 20) (hv : v < 3 ^ T) (hk : k < T) (h9 : M 245 9 = (T : Int)) (hL : L 245 10 = lN v) (hT : TInv M) : sKi l D G yX5_stepAt cX5_stepAt 5 .int 0 0 [.ref (G.1 (245)), .int (sI ((k : Int)))] M L (fun r M' L' => r = sI (((dv3 v (T - 1 - k) % 3 : Nat) : Int)) ∧ M = M' ∧ L = L') := by
  refine sKi_go (by decide) (Nat.le_of_ble_eq_true rfl) ?_
  intro zp ze zs zm za zb zt zc Q C hret
  refine at_eq (lv' := [(0, .ref (G.1 (245))), (1, .int (sI ((k : Int))))]) (st' := []) (M' := M) (L' := L) ?_ rfl rfl rfl rfl
  have hv9 := p3_20 hT20 hv
  refine at_aload_n C 0 dX5_stepAt_0 rfl ?_
  refine at_getf (v := .long (L 245 10)) C (obj_Wal G) (ci := 5) rfl inX5 (slot := 10) (by decide) qw_193 rfl rfl dX5_stepAt_1 ?_
  refine at_lstore_n C [(2, .long (L 245 10)), (0, .ref (G.1 (245))), (1, .int (sI ((k : Int))))] dX5_stepAt_4 (by decide) rfl ?_
  refine at_aload_n C 1 dX5_stepAt_5 rfl ?_
  refine at_getf (v := .int (sI (M 245 9))) C (obj_Wal G) (ci := 5) rfl inX5 (slot := 9) (by decide) qw_191 rfl rfl dX5_stepAt_6 ?_
  have hb1 : _ ≤ M 245 9 ∧ M 245 9 ≤ _ := tv hT (k := 245) (j := 9) rfl
  refine at_ve (b := (T : Int)) (h9) ?_
  refine at_iconst C dX5_stepAt_9 ?_
  refine at_isub C dX5_stepAt_10 ?_
  refine at_istore C [(4, .int (sI ((T : Int) - 1))), (2, .long (L 245 10)), (0, .ref (G.1 (245))), (1, .int (sI ((k : Int))))] dX5_stepAt_11 (by decide) rfl ?_
  have H13 : ∀ (fu : Nat) (n : Nat), T - 1 - k - n < fu → (n ≤ T - 1 - k) → sAt zp l ze (sRm 0 0) zs zm za zb zt zc D G 5 0 0 Q 13 [(0, .ref (G.1 (245))), (1, .int (sI ((k : Int)))), (2, .long (lN (dv3 v n))), (4, .int (sI (((T - 1 - n : Nat) : Int))))] [] M L := by
    intro fu
    induction fu with
    | zero => intro n hd hn; exact absurd hd (Nat.not_lt_zero _)
    | succ fu ih13 =>
      intro n hd13 hn
      have hdl := dv3_le v n
      refine at_iload C 3 dX5_stepAt_13 rfl ?_
      refine at_iload_n C 1 dX5_stepAt_15 rfl ?_
      refine at_icmp_le C 31 dX5_stepAt_16 (by decide) (⟨by omega, by omega⟩) (⟨by omega, by omega⟩) (fun h2 => ?_) (fun h2 => ?_)
      · refine at_lload_n C 2 dX5_stepAt_31 rfl ?_
        refine at_ldc2 C qw_656 dX5_stepAt_32 ?_
        refine at_lrem C dX5_stepAt_35 (by decide) ?_
        refine at_l2i C ((((dv3 v n % 3) : Nat) : Int)) dX5_stepAt_36 (lN_rem (by omega)) ?_
        exact hret _ _ _ _ _ dX5_stepAt_37 (⟨congrArg sI (by rw [show T - 1 - k = n by omega]), rfl, rfl⟩)
      · refine at_lload_n C 2 dX5_stepAt_19 rfl ?_
        refine at_ldc2 C qw_656 dX5_stepAt_20 ?_
        refine at_ldiv C dX5_stepAt_23 (by decide) ?_
        refine at_vl (y := lN (dv3 v (n + 1))) (lN_div (by omega)) ?_
        refine at_lstore_n C [(2, .long (lN (dv3 v (n + 1)))), (0, .ref (G.1 (245))), (1, .int (sI ((k : Int)))), (4, .int (sI (((T - 1 - n : Nat) : Int))))] dX5_stepAt_24 (by decide) rfl ?_
        refine at_iinc C 3 [(4, .int (sI (((T - 1 - n : Nat) : Int) + (-1)))), (2, .long (lN (dv3 v (n + 1)))), (0, .ref (G.1 (245))), (1, .int (sI ((k : Int))))] dX5_stepAt_25 rfl (by decide) rfl ?_
        refine at_goto C 13 dX5_stepAt_28 (by decide) ?_
        refine at_lv [2, 3, 1, 0] rfl ?_
        exact at_eq (ih13 (n + 1) (by omega) (by omega)) (lvc_s (lvc_s (lvc_s (lvc_i (by omega) rfl)))) rfl (rfl) (rfl)
  refine at_lv [2, 3, 1, 0] rfl ?_
  exact at_eq (H13 _ 0 (Nat.lt_succ_self _) (by omega)) (lvc_s (lvc_s (lvc_l (hL) (lvc_i (by omega) rfl)))) rfl (rfl) (rfl)

set_option maxHeartbeats 4000000 in
set_option maxRecDepth 100000 in
theorem c_X6_walk (l : Launch) (D : va_G) (G : sG) {M : sM} {L : sL} (a k : Int) (har : InR a) (hkr : InR k) (hst : ∀ j, M 250 j ≤ M 245 7) (hs7 : M 245 7 < 800000000) (hT : TInv M) (hc : sCt M) : sKi l D G yX6_walk cX6_walk 3 .int 4 92 [.ref (G.1 (0)), .int (sI (a)), .int (sI (k))] M L (fun r M' L' => (¬ okWalk M a k → r = sI (-10) ∧ M' = sBad M ∧ L = L') ∧ (okWalk M a k → (∃ q, r = sI q ∧ wAns M a k q) ∧ (∀ c, c < 245 ∨ 252 < c → M' c = M c) ∧ M' 245 7 ≤ M 245 7 + 20 ∧ (∀ j, M' 250 j ≤ M' 245 7) ∧ (∀ c, c ≠ 245 → c ≠ 248 → c ≠ 249 → L' c = L c)) ∧ TInv M') := by
  refine sKi_go (by decide) (Nat.le_of_ble_eq_true rfl) ?_
  intro zp ze zs zm za zb zt zc Q C hret
  refine at_eq (lv' := [(0, .ref (G.1 (0))), (1, .int (sI (a))), (2, .int (sI (k)))]) (st' := []) (M' := M) (L' := L) ?_ rfl rfl rfl rfl
  have hn := nS_r hT (Or.inl rfl)
  have hpw := pw_s hn.1
  have hpp : 0 < 2 ^ nS M 1 := Nat.two_pow_pos _
  refine at_iload_n C 1 dX6_walk_0 rfl ?_
  refine at_iconst C dX6_walk_1 ?_
  refine at_iconst C dX6_walk_2 ?_
  refine at_aload_n C 0 dX6_walk_3 rfl ?_
  refine at_getf (v := .ref (G.1 (1))) C (obj_Sho G) (ci := 6) rfl inX6 (slot := 0) (by decide) qw_249 rfl rfl dX6_walk_4 ?_
  refine at_getf (v := .int (sI (M 1 9))) C (obj_Bea G (Or.inl rfl)) (ci := 0) rfl inX0 (slot := 9) (by decide) qw_104 rfl rfl dX6_walk_7 ?_
  have hb1 : _ ≤ M 1 9 ∧ M 1 9 ≤ _ := tv_souls hT (Or.inl rfl)
  refine at_ve (b := ((nS M 1 : Nat) : Int)) (hn.2) ?_
  refine at_ishl C ((((2 ^ nS M 1) : Nat) : Int)) dX6_walk_10 (zb_shl (by omega)) ?_
  refine at_iconst C dX6_walk_11 ?_
  refine at_isub C dX6_walk_12 ?_
  refine at_stat_i C (c_X6_within l D G a 0 ((((2 ^ nS M 1) : Nat) : Int) - 1) ⟨by omega, by omega⟩ ⟨by omega, by omega⟩ ⟨by omega, by omega⟩) (As := [.int (sI (a)), .int (sI (0)), .int (sI ((((2 ^ nS M 1) : Nat) : Int) - 1))]) qw_307 qw_305 qw_1 qw_306 ⟨by decide, by decide, show (parseMethodDescriptor yX6_within.desc).map (fun d => d.parameters.length) = some 3 by decide +kernel⟩ ⟨by decide, by decide⟩ ⟨Nat.zero_le _, Nat.zero_le _⟩ (Nat.le_of_ble_eq_true rfl) dX6_walk_13 rfl (fun r M' L' hp2 => ?_)
  obtain ⟨rfl, rfl, rfl⟩ := hp2
  refine at_if_eqB C 30 dX6_walk_16 (by decide) (fun h3 => ?_) (fun h3 => ?_)
  · refine at_aload_n C 0 dX6_walk_30 rfl ?_
    refine at_bipush C dX6_walk_31 (by decide) (by decide) ?_
    refine at_call_i C (c_X6_refuseBad l D G (-10) hT ⟨by omega, by omega, by omega⟩) (As := [.int (sI (-10))]) (obj_Sho G) (ci := 6) rfl qw_311 qw_308 qw_1 qw_310 qp_0 ⟨by decide, by decide, show (parseMethodDescriptor yX6_refuseBad.desc).map (fun d => d.parameters.length) = some 1 by decide +kernel⟩ ⟨by decide, by decide⟩ ⟨Nat.zero_le _, Nat.zero_le _⟩ (Nat.le_of_ble_eq_true rfl) dX6_walk_33 rfl (fun r M' L' hp5 => ?_)
    obtain ⟨rfl, rfl, hT4, rfl⟩ := hp5
    exact hret _ _ _ _ _ dX6_walk_36 (⟨fun _ => ⟨rfl, rfl, rfl⟩, fun z => by omega, hT4⟩)
  · refine at_iload_n C 2 dX6_walk_19 rfl ?_
    refine at_bipush C dX6_walk_20 (by decide) (by decide) ?_
    refine at_icmp_lt C 30 dX6_walk_22 (by decide) (⟨by omega, by omega⟩) (⟨by omega, by omega⟩) (fun h6 => ?_) (fun h6 => ?_)
    · refine at_aload_n C 0 dX6_walk_30 rfl ?_
      refine at_bipush C dX6_walk_31 (by decide) (by decide) ?_
      refine at_call_i C (c_X6_refuseBad l D G (-10) hT ⟨by omega, by omega, by omega⟩) (As := [.int (sI (-10))]) (obj_Sho G) (ci := 6) rfl qw_311 qw_308 qw_1 qw_310 qp_0 ⟨by decide, by decide, show (parseMethodDescriptor yX6_refuseBad.desc).map (fun d => d.parameters.length) = some 1 by decide +kernel⟩ ⟨by decide, by decide⟩ ⟨Nat.zero_le _, Nat.zero_le _⟩ (Nat.le_of_ble_eq_true rfl) dX6_walk_33 rfl (fun r M' L' hp8 => ?_)
      obtain ⟨rfl, rfl, hT7, rfl⟩ := hp8
      exact hret _ _ _ _ _ dX6_walk_36 (⟨fun _ => ⟨rfl, rfl, rfl⟩, fun z => by omega, hT7⟩)
    · refine at_iload_n C 2 dX6_walk_25 rfl ?_
      refine at_iconst C dX6_walk_26 ?_
      refine at_icmp_ne C 37 dX6_walk_27 (by decide) (⟨by omega, by omega⟩) (⟨by omega, by omega⟩) (fun h9 => ?_) (fun h9 => ?_)
      · refine at_aload_n C 0 dX6_walk_37 rfl ?_
        refine at_getf (v := .ref (G.1 (245))) C (obj_Sho G) (ci := 6) rfl inX6 (slot := 5) (by decide) qw_254 rfl rfl dX6_walk_38 ?_
        refine at_aload_n C 0 dX6_walk_41 rfl ?_
        refine at_getf (v := .ref (G.1 (1))) C (obj_Sho G) (ci := 6) rfl inX6 (slot := 0) (by decide) qw_249 rfl rfl dX6_walk_42 ?_
        refine at_iload_n C 1 dX6_walk_45 rfl ?_
        refine at_ve (b := ((a.toNat : Nat) : Int)) (by omega) ?_
        refine at_call_i C (c_X5_find l D G a.toNat (by omega) hst hs7 hT) (As := [.ref (G.1 (1)), .int (sI (((a.toNat : Nat) : Int)))]) (obj_Wal G) (ci := 5) rfl qw_641 qw_638 qw_6 qw_639 qw_640 ⟨by decide, by decide, show (parseMethodDescriptor yX5_find.desc).map (fun d => d.parameters.length) = some 2 by decide +kernel⟩ ⟨by decide, by decide⟩ ⟨Nat.zero_le _, Nat.zero_le _⟩ (Nat.le_of_ble_eq_true rfl) dX6_walk_46 rfl (fun r M11 L12 hp10 => ?_)
        obtain ⟨rfl, hE, hT1⟩ := hp10
        refine at_if_neB C 55 dX6_walk_49 (by decide) (fun h13 => ?_) (fun h13 => ?_)
        · obtain ⟨T, v, hT20, hvB, h9, h10⟩ := hE.1 (by assumption)
          refine at_iload_n C 2 dX6_walk_55 rfl ?_
          refine at_bipush C dX6_walk_56 (by decide) (by decide) ?_
          refine at_icmp_ne C 69 dX6_walk_58 (by decide) (⟨by omega, by omega⟩) (⟨by omega, by omega⟩) (fun h14 => ?_) (fun h14 => ?_)
          · refine at_iload_n C 2 dX6_walk_69 rfl ?_
            refine at_aload_n C 0 dX6_walk_70 rfl ?_
            refine at_getf (v := .ref (G.1 (245))) C (obj_Sho G) (ci := 6) rfl inX6 (slot := 5) (by decide) qw_254 rfl rfl dX6_walk_71 ?_
            refine at_getf (v := .int (sI (M11 245 9))) C (obj_Wal G) (ci := 5) rfl inX5 (slot := 9) (by decide) qw_192 rfl rfl dX6_walk_74 ?_
            have hb15 := tv hT1 (k := 245) (j := 9) rfl
            refine at_ve (b := (T : Int)) (h9) ?_
            refine at_icmp_ge C 91 dX6_walk_77 (by decide) (⟨by omega, by omega⟩) (⟨by omega, by omega⟩) (fun h16 => ?_) (fun h16 => ?_)
            · refine at_bipush C dX6_walk_91 (by decide) (by decide) ?_
              exact hret _ _ _ _ _ dX6_walk_93 (⟨fun z => absurd ⟨⟨by omega, by omega⟩, by omega⟩ z, fun _ => ⟨⟨_, rfl, Or.inr ⟨T, v, hT20, hvB, ((if_neg (by omega)).trans (if_neg (by omega))).symm⟩⟩, hE.2⟩, hT1⟩)
            · refine at_aload_n C 0 dX6_walk_80 rfl ?_
              refine at_getf (v := .ref (G.1 (245))) C (obj_Sho G) (ci := 6) rfl inX6 (slot := 5) (by decide) qw_254 rfl rfl dX6_walk_81 ?_
              refine at_iload_n C 2 dX6_walk_84 rfl ?_
              refine at_ve (b := ((k.toNat : Nat) : Int)) (by omega) ?_
              refine at_call_i C (c_X5_stepAt l D G k.toNat T v hT20 hvB.1 (by omega) h9 h10 hT1) (As := [.int (sI (((k.toNat : Nat) : Int)))]) (obj_Wal G) (ci := 5) rfl qw_666 qw_663 qw_6 qw_664 qw_665 ⟨by decide, by decide, show (parseMethodDescriptor yX5_stepAt.desc).map (fun d => d.parameters.length) = some 1 by decide +kernel⟩ ⟨by decide, by decide⟩ ⟨Nat.zero_le _, Nat.zero_le _⟩ (Nat.le_of_ble_eq_true rfl) dX6_walk_85 rfl (fun r M' L' hp17 => ?_)
              obtain ⟨rfl, rfl, rfl⟩ := hp17
              refine at_goto C 93 dX6_walk_88 (by decide) ?_
              exact hret _ _ _ _ _ dX6_walk_93 (⟨fun z => absurd ⟨⟨by omega, by omega⟩, by omega⟩ z, fun _ => ⟨⟨_, rfl, Or.inr ⟨T, v, hT20, hvB, ((if_neg (by omega)).trans (if_pos (by omega))).symm⟩⟩, hE.2⟩, hT1⟩)
          · refine at_aload_n C 0 dX6_walk_61 rfl ?_
            refine at_getf (v := .ref (G.1 (245))) C (obj_Sho G) (ci := 6) rfl inX6 (slot := 5) (by decide) qw_254 rfl rfl dX6_walk_62 ?_
            refine at_getf (v := .int (sI (M11 245 9))) C (obj_Wal G) (ci := 5) rfl inX5 (slot := 9) (by decide) qw_192 rfl rfl dX6_walk_65 ?_
            have hb18 := tv hT1 (k := 245) (j := 9) rfl
            refine at_ve (b := (T : Int)) (h9) ?_
            exact hret _ _ _ _ _ dX6_walk_68 (⟨fun z => absurd ⟨⟨by omega, by omega⟩, by omega⟩ z, fun _ => ⟨⟨_, rfl, Or.inr ⟨T, v, hT20, hvB, (if_pos (by omega)).symm⟩⟩, hE.2⟩, hT1⟩)
        · refine at_bipush C dX6_walk_52 (by decide) (by decide) ?_
          exact hret _ _ _ _ _ dX6_walk_54 (⟨fun z => absurd ⟨⟨by omega, by omega⟩, by omega⟩ z, fun _ => ⟨⟨-6, rfl, Or.inl ⟨by assumption, rfl⟩⟩, hE.2⟩, hT1⟩)
      · refine at_aload_n C 0 dX6_walk_30 rfl ?_
        refine at_bipush C dX6_walk_31 (by decide) (by decide) ?_
        refine at_call_i C (c_X6_refuseBad l D G (-10) hT ⟨by omega, by omega, by omega⟩) (As := [.int (sI (-10))]) (obj_Sho G) (ci := 6) rfl qw_311 qw_308 qw_1 qw_310 qp_0 ⟨by decide, by decide, show (parseMethodDescriptor yX6_refuseBad.desc).map (fun d => d.parameters.length) = some 1 by decide +kernel⟩ ⟨by decide, by decide⟩ ⟨Nat.zero_le _, Nat.zero_le _⟩ (Nat.le_of_ble_eq_true rfl) dX6_walk_33 rfl (fun r M' L' hp20 => ?_)
        obtain ⟨rfl, rfl, hT19, rfl⟩ := hp20
        exact hret _ _ _ _ _ dX6_walk_36 (⟨fun _ => ⟨rfl, rfl, rfl⟩, fun z => by omega, hT19⟩)
