theorem swp_is (M : sM) (a b : Nat) : sSt (sSt M 254 a (M 254 b)) 254 b (M 254 a) = sSr M 254 (swp (M 254) a b) := by
  funext c j
  rw [sSt_at, sSt_at, sSr_at]
  unfold swp
  by_cases hc : c = 254
  · subst hc
    by_cases h1 : j = b
    · rw [if_pos ⟨rfl, h1⟩, if_pos rfl, if_pos h1]
    · rw [if_neg (fun z => h1 z.2), if_pos rfl, if_neg h1]
      by_cases h2 : j = a
      · rw [if_pos ⟨rfl, h2⟩, if_pos h2]
      · rw [if_neg (fun z => h2 z.2), if_neg h2]
  · rw [if_neg (fun z => hc z.1), if_neg (fun z => hc z.1), if_neg hc]
theorem sSr_sw (M : sM) (q : Nat → Int) (a b : Nat) : sSr (sSr M 254 q) 254 (swp (sSr M 254 q 254) a b) = sSr M 254 (swp q a b) := by
  funext c
  unfold sSr
  by_cases hc : c = 254
  · rw [if_pos hc, if_pos hc]; rfl
  · rw [if_neg hc, if_neg hc, if_neg hc]
theorem pvt_s {r : Nat → Int} {t : Nat} (h : r t > r (t + 1)) : pvt r (t + 1) = pvt r t := if_pos h
theorem pvt_e {r : Nat → Int} {t : Nat} (h : r t ≤ r (t + 1)) : pvt r (t + 1) = t := if_neg (by omega)
theorem jx_y {r : Nat → Int} {v : Int} {lo j : Nat} (h : lo < j) (h2 : r j < v) : jx r v lo j = jx r v lo (j - 1) := by
  obtain ⟨i, rfl⟩ : ∃ i, j = i + 1 := ⟨j - 1, by omega⟩
  exact if_pos ⟨h, h2⟩
theorem jx_e {r : Nat → Int} {v : Int} {lo j : Nat} (h : j ≤ lo ∨ v ≤ r j) : jx r v lo j = j := by
  cases j with
  | zero => rfl
  | succ i => exact if_neg (by omega)
set_option maxHeartbeats 4000000 in
set_option maxRecDepth 100000 in
theorem c_X2_exchange (l : Launch) (D : va_G) (G : sG) {M : sM} {L : sL} (a b : Nat) (ha : a < 6) (hb : b < 6) (hT : TInv M) : sKv l D G yX2_exchange cX2_exchange 4 0 0 [.ref (G.1 (253)), .int (sI ((a : Int))), .int (sI ((b : Int)))] M L (fun M' L' => M' = sSr M 254 (swp (M 254) a b) ∧ TInv M' ∧ L = L') := by
  refine sKv_go (by decide) (Nat.le_of_ble_eq_true rfl) ?_
  intro zp ze zs zm za zb zt zc Q C hret
  refine at_eq (lv' := [(0, .ref (G.1 (253))), (1, .int (sI ((a : Int)))), (2, .int (sI ((b : Int))))]) (st' := []) (M' := M) (L' := L) ?_ rfl rfl rfl rfl
  refine at_aload_n C 0 dX2_exchange_0 rfl ?_
  refine at_getf (v := .ref (G.1 (254))) C (obj_Ord G) (ci := 2) rfl inX2 (slot := 0) (by decide) qw_224 rfl rfl dX2_exchange_1 ?_
  refine at_iload_n C 1 dX2_exchange_4 rfl ?_
  refine at_iald C a (ar_254 G) (rfl) (by omega) dX2_exchange_5 ?_
  have hb1 : _ ≤ M 254 a ∧ M 254 a ≤ _ := tv hT (k := 254) (j := a) rfl
  refine at_istore_n C [(3, .int (sI (M 254 a))), (0, .ref (G.1 (253))), (1, .int (sI ((a : Int)))), (2, .int (sI ((b : Int))))] dX2_exchange_6 (by decide) rfl ?_
  refine at_aload_n C 1 dX2_exchange_7 rfl ?_
  refine at_getf (v := .ref (G.1 (254))) C (obj_Ord G) (ci := 2) rfl inX2 (slot := 0) (by decide) qw_224 rfl rfl dX2_exchange_8 ?_
  refine at_iload_n C 2 dX2_exchange_11 rfl ?_
  refine at_aload_n C 1 dX2_exchange_12 rfl ?_
  refine at_getf (v := .ref (G.1 (254))) C (obj_Ord G) (ci := 2) rfl inX2 (slot := 0) (by decide) qw_224 rfl rfl dX2_exchange_13 ?_
  refine at_iload_n C 3 dX2_exchange_16 rfl ?_
  refine at_iald C b (ar_254 G) (rfl) (by omega) dX2_exchange_17 ?_
  have hb2 : _ ≤ M 254 b ∧ M 254 b ≤ _ := tv hT (k := 254) (j := b) rfl
  refine at_iast C a (ar_254 G) (rfl) (by omega) dX2_exchange_18 ?_
  have hT3 : TInv (sSt M 254 a (M 254 b)) := tv_st hT (k := 254) rfl (⟨by omega, by omega⟩)
  refine at_aload_n C 1 dX2_exchange_19 rfl ?_
  refine at_getf (v := .ref (G.1 (254))) C (obj_Ord G) (ci := 2) rfl inX2 (slot := 0) (by decide) qw_224 rfl rfl dX2_exchange_20 ?_
  refine at_iload_n C 3 dX2_exchange_23 rfl ?_
  refine at_iload_n C 0 dX2_exchange_24 rfl ?_
  refine at_iast C b (ar_254 G) (rfl) (by omega) dX2_exchange_25 ?_
  have hT4 : TInv (sSt (sSt M 254 a (M 254 b)) 254 b (M 254 a)) := tv_st hT3 (k := 254) rfl (⟨by omega, by omega⟩)
  exact hret _ _ _ _ dX2_exchange_26 (⟨swp_is M a b, hT4, rfl⟩)

set_option maxHeartbeats 4000000 in
set_option maxRecDepth 100000 in
theorem c_X2_nextRow (l : Launch) (D : va_G) (G : sG) {M : sM} {L : sL} (n : Nat) (hn : M 253 4 = (n : Int)) (hT : TInv M) : sKi l D G yX2_nextRow cX2_nextRow 5 .boolean 1 23 [.ref (G.1 (253))] M L (fun r M' L' => r = sB (hasN (M 254) n) ∧ (M' = (if hasN (M 254) n then sSr M 254 (nxt (M 254) n) else M) ∧ TInv M' ∧ L = L')) := by
  refine sKz_go (by decide) (Nat.le_of_ble_eq_true rfl) ?_
  intro zp ze zs zm za zb zt zc Q C hret
  refine at_eq (lv' := [(0, .ref (G.1 (253)))]) (st' := []) (M' := M) (L' := L) ?_ rfl rfl rfl rfl
  have hsz : _ ≤ M 253 4 ∧ M 253 4 ≤ _ := tv hT (k := 253) (j := 4) (lo := 0) (hi := 6) rfl
  have hpr := pvt_r (M 254) (n - 1)
  refine at_aload_n C 0 dX2_nextRow_0 rfl ?_
  refine at_getf (v := .int (sI (M 253 4))) C (obj_Ord G) (ci := 2) rfl inX2 (slot := 4) (by decide) qw_229 rfl rfl dX2_nextRow_1 ?_
  have hb1 : _ ≤ M 253 4 ∧ M 253 4 ≤ _ := tv hT (k := 253) (j := 4) rfl
  refine at_iconst C dX2_nextRow_4 ?_
  refine at_isub C dX2_nextRow_5 ?_
  refine at_istore_n C [(1, .int (sI ((M 253 4) - 2))), (0, .ref (G.1 (253)))] dX2_nextRow_6 (by decide) rfl ?_
  have H7 : ∀ (fu : Nat) (t : Int), (t + 2).toNat < fu → (-2 ≤ t ∧ t + 2 ≤ n) → (pvt (M 254) (n - 1) = pvt (M 254) (t + 1).toNat) → sAt zp l ze (sRm 1 23) zs zm za zb zt zc D G 5 0 0 Q 7 [(0, .ref (G.1 (253))), (1, .int (sI (t)))] [] M L := by
    intro fu
    induction fu with
    | zero => intro t hd ht hp; exact absurd hd (Nat.not_lt_zero _)
    | succ fu ih7 =>
      intro t hd7 ht hp
      refine at_iload_n C 1 dX2_nextRow_7 rfl ?_
      refine at_if_lt C 34 dX2_nextRow_8 (by decide) (⟨by omega, by omega⟩) (fun h2 => ?_) (fun h2 => ?_)
      · refine at_iload_n C 1 dX2_nextRow_34 rfl ?_
        refine at_if_ge C 40 dX2_nextRow_35 (by decide) (⟨by omega, by omega⟩) (fun h3 => ?_) (fun h3 => ?_)
        · obtain ⟨k, rfl⟩ : ∃ k : Nat, t = (k : Int) := ⟨t.toNat, by omega⟩
          have hpk : pvt (M 254) (n - 1) = (k : Int) := by rw [hp, show ((k : Int) + 1).toNat = k + 1 by omega]; exact pvt_e (by have h9 : M 254 (k : Int).toNat ≤ M 254 ((k : Int).toNat + 1) := (by omega); exact h9)
          refine at_aload_n C 0 dX2_nextRow_40 rfl ?_
          refine at_getf (v := .int (sI (M 253 4))) C (obj_Ord G) (ci := 2) rfl inX2 (slot := 4) (by decide) qw_229 rfl rfl dX2_nextRow_41 ?_
          have hb4 : _ ≤ M 253 4 ∧ M 253 4 ≤ _ := tv hT (k := 253) (j := 4) rfl
          refine at_iconst C dX2_nextRow_44 ?_
          refine at_isub C dX2_nextRow_45 ?_
          refine at_istore_n C [(2, .int (sI ((M 253 4) - 1))), (0, .ref (G.1 (253))), (1, .int (sI ((k : Int))))] dX2_nextRow_46 (by decide) rfl ?_
          have H47 : ∀ (fu : Nat) (j : Nat), j < fu → (j < n ∧ k < n) → (jx (M 254) (M 254 k) k (n - 1) = jx (M 254) (M 254 k) k j) → sAt zp l ze (sRm 1 23) zs zm za zb zt zc D G 5 0 0 Q 47 [(0, .ref (G.1 (253))), (1, .int (sI ((k : Int)))), (2, .int (sI ((j : Int))))] [] M L := by
            intro fu
            induction fu with
            | zero => intro j hd hj hq; exact absurd hd (Nat.not_lt_zero _)
            | succ fu ih47 =>
              intro j hd47 hj hq
              refine at_iload_n C 2 dX2_nextRow_47 rfl ?_
              refine at_iload_n C 1 dX2_nextRow_48 rfl ?_
              refine at_icmp_le C 73 dX2_nextRow_49 (by decide) (⟨by omega, by omega⟩) (⟨by omega, by omega⟩) (fun h5 => ?_) (fun h5 => ?_)
              · refine at_aload_n C 0 dX2_nextRow_73 rfl ?_
                refine at_iload_n C 1 dX2_nextRow_74 rfl ?_
                refine at_iload_n C 2 dX2_nextRow_75 rfl ?_
                refine at_call_v C (c_X2_exchange l D G k j (by omega) (by omega) hT) (As := [.int (sI ((k : Int))), .int (sI ((j : Int)))]) (obj_Ord G) (ci := 2) rfl qw_711 qw_708 qw_7 qw_710 qp_25 ⟨by decide, by decide, show (parseMethodDescriptor yX2_exchange.desc).map (fun d => d.parameters.length) = some 2 by decide +kernel⟩ ⟨by decide, by decide⟩ ⟨Nat.zero_le _, Nat.zero_le _⟩ (Nat.le_of_ble_eq_true rfl) dX2_nextRow_76 rfl (fun M' L' hp7 => ?_)
                obtain ⟨rfl, hT6, rfl⟩ := hp7
                refine at_iload_n C 1 dX2_nextRow_79 rfl ?_
                refine at_iconst C dX2_nextRow_80 ?_
                refine at_iadd C dX2_nextRow_81 ?_
                refine at_istore_n C [(3, .int (sI ((k : Int) + 1))), (0, .ref (G.1 (253))), (1, .int (sI ((k : Int)))), (2, .int (sI ((j : Int))))] dX2_nextRow_82 (by decide) rfl ?_
                refine at_aload_n C 1 dX2_nextRow_83 rfl ?_
                refine at_getf (v := .int (sI ((sSr M 254 (swp (M 254) k j)) 253 4))) C (obj_Ord G) (ci := 2) rfl inX2 (slot := 4) (by decide) qw_229 rfl rfl dX2_nextRow_84 ?_
                have hb8 := tv hT6 (k := 253) (j := 4) rfl
                refine at_ve (b := (n : Int)) (by rw [sSr_ne (by decide)]; exact hn) ?_
                refine at_iconst C dX2_nextRow_87 ?_
                refine at_isub C dX2_nextRow_88 ?_
                refine at_istore C [(4, .int (sI ((n : Int) - 1))), (3, .int (sI ((k : Int) + 1))), (0, .ref (G.1 (253))), (1, .int (sI ((k : Int)))), (2, .int (sI ((j : Int))))] dX2_nextRow_89 (by decide) rfl ?_
                have H91 : ∀ (fu : Nat) (f : Nat) (a : Nat) (b : Nat) (q : Nat → Int), f < fu → (a ≤ n ∧ b < n ∧ b ≤ a + f ∧ 1 ≤ a) → (TInv (sSr M 254 q)) → (nxt (M 254) n = rvs f q a b) → sAt zp l ze (sRm 1 23) zs zm za zb zt zc D G 5 0 0 Q 91 [(0, .ref (G.1 (253))), (1, .int (sI ((k : Int)))), (2, .int (sI ((j : Int)))), (3, .int (sI ((a : Int)))), (4, .int (sI ((b : Int))))] [] (sSr M 254 q) L := by
                  intro fu
                  induction fu with
                  | zero => intro f a b q hd hab hTq hq2; exact absurd hd (Nat.not_lt_zero _)
                  | succ fu ih91 =>
                    intro f a b q hd91 hab hTq hq2
                    refine at_iload_n C 3 dX2_nextRow_91 rfl ?_
                    refine at_iload C 4 dX2_nextRow_92 rfl ?_
                    refine at_icmp_ge C 113 dX2_nextRow_94 (by decide) (⟨by omega, by omega⟩) (⟨by omega, by omega⟩) (fun h9 => ?_) (fun h9 => ?_)
                    · refine at_iconst C dX2_nextRow_113 ?_
                      exact hret _ _ _ _ _ dX2_nextRow_114 (sB_t (by unfold hasN; rw [hpk]; omega)) ⟨by rw [if_pos (show hasN (M 254) n by unfold hasN; rw [hpk]; omega), hq2, rvs_n (by omega)], hTq, rfl⟩
                    · refine at_aload_n C 0 dX2_nextRow_97 rfl ?_
                      refine at_iload_n C 3 dX2_nextRow_98 rfl ?_
                      refine at_iload C 4 dX2_nextRow_99 rfl ?_
                      refine at_call_v C (c_X2_exchange l D G a b (by omega) (by omega) hTq) (As := [.int (sI ((a : Int))), .int (sI ((b : Int)))]) (obj_Ord G) (ci := 2) rfl qw_711 qw_708 qw_7 qw_710 qp_25 ⟨by decide, by decide, show (parseMethodDescriptor yX2_exchange.desc).map (fun d => d.parameters.length) = some 2 by decide +kernel⟩ ⟨by decide, by decide⟩ ⟨Nat.zero_le _, Nat.zero_le _⟩ (Nat.le_of_ble_eq_true rfl) dX2_nextRow_101 rfl (fun M' L' hp11 => ?_)
                      obtain ⟨rfl, hT10, rfl⟩ := hp11
                      refine at_iinc C 3 [(3, .int (sI ((a : Int) + 1))), (0, .ref (G.1 (253))), (1, .int (sI ((k : Int)))), (2, .int (sI ((j : Int)))), (4, .int (sI ((b : Int))))] dX2_nextRow_104 rfl (by decide) rfl ?_
                      refine at_iinc C 4 [(4, .int (sI ((b : Int) + (-1)))), (3, .int (sI ((a : Int) + 1))), (0, .ref (G.1 (253))), (1, .int (sI ((k : Int)))), (2, .int (sI ((j : Int))))] dX2_nextRow_107 rfl (by decide) rfl ?_
                      refine at_goto C 91 dX2_nextRow_110 (by decide) ?_
                      refine at_lv [2, 3, 4, 1, 0] rfl ?_
                      exact at_eq (ih91 (f - 1) (a + 1) (b - 1) (swp q a b) (by omega) (⟨by omega, by omega, by omega, by omega⟩) ((sSr_sw M q a b) ▸ hT10) (by rw [hq2]; obtain ⟨f1, rfl⟩ : ∃ f1, f = f1 + 1 := ⟨f - 1, by omega⟩; rw [rvs_y (by omega)]; rfl)) (lvc_s (lvc_s (lvc_s (lvc_i (by omega) (lvc_i (by omega) rfl))))) rfl (sSr_sw M q a b) (rfl)
                refine at_lv [2, 3, 4, 1, 0] rfl ?_
                exact at_eq (H91 _ n (k + 1) (n - 1) (swp (M 254) k (jx (M 254) (M 254 k) k (n - 1))) (Nat.lt_succ_self _) (⟨by omega, by omega, by omega, by omega⟩) (by rw [hq, jx_e (by omega)]; exact hT6) (by unfold nxt; rw [hpk]; rfl)) (lvc_s (lvc_s (lvc_s (lvc_i (rfl) (lvc_i (by omega) rfl))))) rfl (by rw [hq, jx_e (by omega)]) (rfl)
              · refine at_aload_n C 0 dX2_nextRow_52 rfl ?_
                refine at_getf (v := .ref (G.1 (254))) C (obj_Ord G) (ci := 2) rfl inX2 (slot := 0) (by decide) qw_224 rfl rfl dX2_nextRow_53 ?_
                refine at_iload_n C 2 dX2_nextRow_56 rfl ?_
                refine at_iald C j (ar_254 G) (rfl) (by omega) dX2_nextRow_57 ?_
                have hb12 : _ ≤ M 254 j ∧ M 254 j ≤ _ := tv hT (k := 254) (j := j) rfl
                refine at_aload_n C 0 dX2_nextRow_58 rfl ?_
                refine at_getf (v := .ref (G.1 (254))) C (obj_Ord G) (ci := 2) rfl inX2 (slot := 0) (by decide) qw_224 rfl rfl dX2_nextRow_59 ?_
                refine at_iload_n C 1 dX2_nextRow_62 rfl ?_
                refine at_iald C k (ar_254 G) (rfl) (by omega) dX2_nextRow_63 ?_
                have hb13 : _ ≤ M 254 k ∧ M 254 k ≤ _ := tv hT (k := 254) (j := k) rfl
                refine at_icmp_ge C 73 dX2_nextRow_64 (by decide) (⟨by omega, by omega⟩) (⟨by omega, by omega⟩) (fun h14 => ?_) (fun h14 => ?_)
                · refine at_aload_n C 0 dX2_nextRow_73 rfl ?_
                  refine at_iload_n C 1 dX2_nextRow_74 rfl ?_
                  refine at_iload_n C 2 dX2_nextRow_75 rfl ?_
                  refine at_call_v C (c_X2_exchange l D G k j (by omega) (by omega) hT) (As := [.int (sI ((k : Int))), .int (sI ((j : Int)))]) (obj_Ord G) (ci := 2) rfl qw_711 qw_708 qw_7 qw_710 qp_25 ⟨by decide, by decide, show (parseMethodDescriptor yX2_exchange.desc).map (fun d => d.parameters.length) = some 2 by decide +kernel⟩ ⟨by decide, by decide⟩ ⟨Nat.zero_le _, Nat.zero_le _⟩ (Nat.le_of_ble_eq_true rfl) dX2_nextRow_76 rfl (fun M' L' hp16 => ?_)
                  obtain ⟨rfl, hT15, rfl⟩ := hp16
                  refine at_iload_n C 1 dX2_nextRow_79 rfl ?_
                  refine at_iconst C dX2_nextRow_80 ?_
                  refine at_iadd C dX2_nextRow_81 ?_
                  refine at_istore_n C [(3, .int (sI ((k : Int) + 1))), (0, .ref (G.1 (253))), (1, .int (sI ((k : Int)))), (2, .int (sI ((j : Int))))] dX2_nextRow_82 (by decide) rfl ?_
                  refine at_aload_n C 1 dX2_nextRow_83 rfl ?_
                  refine at_getf (v := .int (sI ((sSr M 254 (swp (M 254) k j)) 253 4))) C (obj_Ord G) (ci := 2) rfl inX2 (slot := 4) (by decide) qw_229 rfl rfl dX2_nextRow_84 ?_
                  have hb17 := tv hT15 (k := 253) (j := 4) rfl
                  refine at_ve (b := (n : Int)) (by rw [sSr_ne (by decide)]; exact hn) ?_
                  refine at_iconst C dX2_nextRow_87 ?_
                  refine at_isub C dX2_nextRow_88 ?_
                  refine at_istore C [(4, .int (sI ((n : Int) - 1))), (3, .int (sI ((k : Int) + 1))), (0, .ref (G.1 (253))), (1, .int (sI ((k : Int)))), (2, .int (sI ((j : Int))))] dX2_nextRow_89 (by decide) rfl ?_
                  have H91 : ∀ (fu : Nat) (f : Nat) (a : Nat) (b : Nat) (q : Nat → Int), f < fu → (a ≤ n ∧ b < n ∧ b ≤ a + f ∧ 1 ≤ a) → (TInv (sSr M 254 q)) → (nxt (M 254) n = rvs f q a b) → sAt zp l ze (sRm 1 23) zs zm za zb zt zc D G 5 0 0 Q 91 [(0, .ref (G.1 (253))), (1, .int (sI ((k : Int)))), (2, .int (sI ((j : Int)))), (3, .int (sI ((a : Int)))), (4, .int (sI ((b : Int))))] [] (sSr M 254 q) L := by
                    intro fu
                    induction fu with
                    | zero => intro f a b q hd hab hTq hq2; exact absurd hd (Nat.not_lt_zero _)
                    | succ fu ih91 =>
                      intro f a b q hd91 hab hTq hq2
                      refine at_iload_n C 3 dX2_nextRow_91 rfl ?_
                      refine at_iload C 4 dX2_nextRow_92 rfl ?_
                      refine at_icmp_ge C 113 dX2_nextRow_94 (by decide) (⟨by omega, by omega⟩) (⟨by omega, by omega⟩) (fun h18 => ?_) (fun h18 => ?_)
                      · refine at_iconst C dX2_nextRow_113 ?_
                        exact hret _ _ _ _ _ dX2_nextRow_114 (sB_t (by unfold hasN; rw [hpk]; omega)) ⟨by rw [if_pos (show hasN (M 254) n by unfold hasN; rw [hpk]; omega), hq2, rvs_n (by omega)], hTq, rfl⟩
                      · refine at_aload_n C 0 dX2_nextRow_97 rfl ?_
                        refine at_iload_n C 3 dX2_nextRow_98 rfl ?_
                        refine at_iload C 4 dX2_nextRow_99 rfl ?_
                        refine at_call_v C (c_X2_exchange l D G a b (by omega) (by omega) hTq) (As := [.int (sI ((a : Int))), .int (sI ((b : Int)))]) (obj_Ord G) (ci := 2) rfl qw_711 qw_708 qw_7 qw_710 qp_25 ⟨by decide, by decide, show (parseMethodDescriptor yX2_exchange.desc).map (fun d => d.parameters.length) = some 2 by decide +kernel⟩ ⟨by decide, by decide⟩ ⟨Nat.zero_le _, Nat.zero_le _⟩ (Nat.le_of_ble_eq_true rfl) dX2_nextRow_101 rfl (fun M' L' hp20 => ?_)
                        obtain ⟨rfl, hT19, rfl⟩ := hp20
                        refine at_iinc C 3 [(3, .int (sI ((a : Int) + 1))), (0, .ref (G.1 (253))), (1, .int (sI ((k : Int)))), (2, .int (sI ((j : Int)))), (4, .int (sI ((b : Int))))] dX2_nextRow_104 rfl (by decide) rfl ?_
                        refine at_iinc C 4 [(4, .int (sI ((b : Int) + (-1)))), (3, .int (sI ((a : Int) + 1))), (0, .ref (G.1 (253))), (1, .int (sI ((k : Int)))), (2, .int (sI ((j : Int))))] dX2_nextRow_107 rfl (by decide) rfl ?_
                        refine at_goto C 91 dX2_nextRow_110 (by decide) ?_
                        refine at_lv [2, 3, 4, 1, 0] rfl ?_
                        exact at_eq (ih91 (f - 1) (a + 1) (b - 1) (swp q a b) (by omega) (⟨by omega, by omega, by omega, by omega⟩) ((sSr_sw M q a b) ▸ hT19) (by rw [hq2]; obtain ⟨f1, rfl⟩ : ∃ f1, f = f1 + 1 := ⟨f - 1, by omega⟩; rw [rvs_y (by omega)]; rfl)) (lvc_s (lvc_s (lvc_s (lvc_i (by omega) (lvc_i (by omega) rfl))))) rfl (sSr_sw M q a b) (rfl)
                  refine at_lv [2, 3, 4, 1, 0] rfl ?_
                  exact at_eq (H91 _ n (k + 1) (n - 1) (swp (M 254) k (jx (M 254) (M 254 k) k (n - 1))) (Nat.lt_succ_self _) (⟨by omega, by omega, by omega, by omega⟩) (by rw [hq, jx_e (by omega)]; exact hT15) (by unfold nxt; rw [hpk]; rfl)) (lvc_s (lvc_s (lvc_s (lvc_i (rfl) (lvc_i (by omega) rfl))))) rfl (by rw [hq, jx_e (by omega)]) (rfl)
                · refine at_iinc C 2 [(2, .int (sI ((j : Int) + (-1)))), (0, .ref (G.1 (253))), (1, .int (sI ((k : Int))))] dX2_nextRow_67 rfl (by decide) rfl ?_
                  refine at_goto C 47 dX2_nextRow_70 (by decide) ?_
                  refine at_lv [1, 2, 0] rfl ?_
                  exact at_eq (ih47 (j - 1) (by omega) (⟨by omega, by omega⟩) (by rw [hq]; exact jx_y (by omega) (by assumption))) (lvc_s (lvc_s (lvc_i (by omega) rfl))) rfl (rfl) (rfl)
          refine at_lv [1, 2, 0] rfl ?_
          exact at_eq (H47 _ (n - 1) (Nat.lt_succ_self _) (⟨by omega, by omega⟩) (rfl)) (lvc_s (lvc_s (lvc_i (by omega) rfl))) rfl (rfl) (rfl)
        · refine at_iconst C dX2_nextRow_38 ?_
          exact hret _ _ _ _ _ dX2_nextRow_39 (sB_f (fun z => z (by rw [hp, show (t + 1).toNat = 0 by omega]; rfl))) ⟨(if_neg (fun z => z (by rw [hp, show (t + 1).toNat = 0 by omega]; rfl))).symm, hT, rfl⟩
      · refine at_aload_n C 0 dX2_nextRow_11 rfl ?_
        refine at_getf (v := .ref (G.1 (254))) C (obj_Ord G) (ci := 2) rfl inX2 (slot := 0) (by decide) qw_224 rfl rfl dX2_nextRow_12 ?_
        refine at_iload_n C 1 dX2_nextRow_15 rfl ?_
        refine at_iald C t.toNat (ar_254 G) (by omega) (by omega) dX2_nextRow_16 ?_
        have hb21 : _ ≤ M 254 t.toNat ∧ M 254 t.toNat ≤ _ := tv hT (k := 254) (j := t.toNat) rfl
        refine at_aload_n C 0 dX2_nextRow_17 rfl ?_
        refine at_getf (v := .ref (G.1 (254))) C (obj_Ord G) (ci := 2) rfl inX2 (slot := 0) (by decide) qw_224 rfl rfl dX2_nextRow_18 ?_
        refine at_iload_n C 1 dX2_nextRow_21 rfl ?_
        refine at_iconst C dX2_nextRow_22 ?_
        refine at_iadd C dX2_nextRow_23 ?_
        refine at_iald C (t.toNat + 1) (ar_254 G) (by omega) (by omega) dX2_nextRow_24 ?_
        have hb22 : _ ≤ M 254 (t.toNat + 1) ∧ M 254 (t.toNat + 1) ≤ _ := tv hT (k := 254) (j := (t.toNat + 1)) rfl
        refine at_icmp_le C 34 dX2_nextRow_25 (by decide) (⟨by omega, by omega⟩) (⟨by omega, by omega⟩) (fun h23 => ?_) (fun h23 => ?_)
        · refine at_iload_n C 1 dX2_nextRow_34 rfl ?_
          refine at_if_ge C 40 dX2_nextRow_35 (by decide) (⟨by omega, by omega⟩) (fun h24 => ?_) (fun h24 => ?_)
          · obtain ⟨k, rfl⟩ : ∃ k : Nat, t = (k : Int) := ⟨t.toNat, by omega⟩
            have hpk : pvt (M 254) (n - 1) = (k : Int) := by rw [hp, show ((k : Int) + 1).toNat = k + 1 by omega]; exact pvt_e (by have h9 : M 254 (k : Int).toNat ≤ M 254 ((k : Int).toNat + 1) := (by omega); exact h9)
            refine at_aload_n C 0 dX2_nextRow_40 rfl ?_
            refine at_getf (v := .int (sI (M 253 4))) C (obj_Ord G) (ci := 2) rfl inX2 (slot := 4) (by decide) qw_229 rfl rfl dX2_nextRow_41 ?_
            have hb25 : _ ≤ M 253 4 ∧ M 253 4 ≤ _ := tv hT (k := 253) (j := 4) rfl
            refine at_iconst C dX2_nextRow_44 ?_
            refine at_isub C dX2_nextRow_45 ?_
            refine at_istore_n C [(2, .int (sI ((M 253 4) - 1))), (0, .ref (G.1 (253))), (1, .int (sI ((k : Int))))] dX2_nextRow_46 (by decide) rfl ?_
            have H47 : ∀ (fu : Nat) (j : Nat), j < fu → (j < n ∧ k < n) → (jx (M 254) (M 254 k) k (n - 1) = jx (M 254) (M 254 k) k j) → sAt zp l ze (sRm 1 23) zs zm za zb zt zc D G 5 0 0 Q 47 [(0, .ref (G.1 (253))), (1, .int (sI ((k : Int)))), (2, .int (sI ((j : Int))))] [] M L := by
              intro fu
              induction fu with
              | zero => intro j hd hj hq; exact absurd hd (Nat.not_lt_zero _)
              | succ fu ih47 =>
                intro j hd47 hj hq
                refine at_iload_n C 2 dX2_nextRow_47 rfl ?_
                refine at_iload_n C 1 dX2_nextRow_48 rfl ?_
                refine at_icmp_le C 73 dX2_nextRow_49 (by decide) (⟨by omega, by omega⟩) (⟨by omega, by omega⟩) (fun h26 => ?_) (fun h26 => ?_)
                · refine at_aload_n C 0 dX2_nextRow_73 rfl ?_
                  refine at_iload_n C 1 dX2_nextRow_74 rfl ?_
                  refine at_iload_n C 2 dX2_nextRow_75 rfl ?_
                  refine at_call_v C (c_X2_exchange l D G k j (by omega) (by omega) hT) (As := [.int (sI ((k : Int))), .int (sI ((j : Int)))]) (obj_Ord G) (ci := 2) rfl qw_711 qw_708 qw_7 qw_710 qp_25 ⟨by decide, by decide, show (parseMethodDescriptor yX2_exchange.desc).map (fun d => d.parameters.length) = some 2 by decide +kernel⟩ ⟨by decide, by decide⟩ ⟨Nat.zero_le _, Nat.zero_le _⟩ (Nat.le_of_ble_eq_true rfl) dX2_nextRow_76 rfl (fun M' L' hp28 => ?_)
                  obtain ⟨rfl, hT27, rfl⟩ := hp28
                  refine at_iload_n C 1 dX2_nextRow_79 rfl ?_
                  refine at_iconst C dX2_nextRow_80 ?_
                  refine at_iadd C dX2_nextRow_81 ?_
                  refine at_istore_n C [(3, .int (sI ((k : Int) + 1))), (0, .ref (G.1 (253))), (1, .int (sI ((k : Int)))), (2, .int (sI ((j : Int))))] dX2_nextRow_82 (by decide) rfl ?_
                  refine at_aload_n C 1 dX2_nextRow_83 rfl ?_
                  refine at_getf (v := .int (sI ((sSr M 254 (swp (M 254) k j)) 253 4))) C (obj_Ord G) (ci := 2) rfl inX2 (slot := 4) (by decide) qw_229 rfl rfl dX2_nextRow_84 ?_
                  have hb29 := tv hT27 (k := 253) (j := 4) rfl
                  refine at_ve (b := (n : Int)) (by rw [sSr_ne (by decide)]; exact hn) ?_
                  refine at_iconst C dX2_nextRow_87 ?_
                  refine at_isub C dX2_nextRow_88 ?_
                  refine at_istore C [(4, .int (sI ((n : Int) - 1))), (3, .int (sI ((k : Int) + 1))), (0, .ref (G.1 (253))), (1, .int (sI ((k : Int)))), (2, .int (sI ((j : Int))))] dX2_nextRow_89 (by decide) rfl ?_
                  have H91 : ∀ (fu : Nat) (f : Nat) (a : Nat) (b : Nat) (q : Nat → Int), f < fu → (a ≤ n ∧ b < n ∧ b ≤ a + f ∧ 1 ≤ a) → (TInv (sSr M 254 q)) → (nxt (M 254) n = rvs f q a b) → sAt zp l ze (sRm 1 23) zs zm za zb zt zc D G 5 0 0 Q 91 [(0, .ref (G.1 (253))), (1, .int (sI ((k : Int)))), (2, .int (sI ((j : Int)))), (3, .int (sI ((a : Int)))), (4, .int (sI ((b : Int))))] [] (sSr M 254 q) L := by
                    intro fu
                    induction fu with
                    | zero => intro f a b q hd hab hTq hq2; exact absurd hd (Nat.not_lt_zero _)
                    | succ fu ih91 =>
                      intro f a b q hd91 hab hTq hq2
                      refine at_iload_n C 3 dX2_nextRow_91 rfl ?_
                      refine at_iload C 4 dX2_nextRow_92 rfl ?_
                      refine at_icmp_ge C 113 dX2_nextRow_94 (by decide) (⟨by omega, by omega⟩) (⟨by omega, by omega⟩) (fun h30 => ?_) (fun h30 => ?_)
                      · refine at_iconst C dX2_nextRow_113 ?_
                        exact hret _ _ _ _ _ dX2_nextRow_114 (sB_t (by unfold hasN; rw [hpk]; omega)) ⟨by rw [if_pos (show hasN (M 254) n by unfold hasN; rw [hpk]; omega), hq2, rvs_n (by omega)], hTq, rfl⟩
                      · refine at_aload_n C 0 dX2_nextRow_97 rfl ?_
                        refine at_iload_n C 3 dX2_nextRow_98 rfl ?_
                        refine at_iload C 4 dX2_nextRow_99 rfl ?_
                        refine at_call_v C (c_X2_exchange l D G a b (by omega) (by omega) hTq) (As := [.int (sI ((a : Int))), .int (sI ((b : Int)))]) (obj_Ord G) (ci := 2) rfl qw_711 qw_708 qw_7 qw_710 qp_25 ⟨by decide, by decide, show (parseMethodDescriptor yX2_exchange.desc).map (fun d => d.parameters.length) = some 2 by decide +kernel⟩ ⟨by decide, by decide⟩ ⟨Nat.zero_le _, Nat.zero_le _⟩ (Nat.le_of_ble_eq_true rfl) dX2_nextRow_101 rfl (fun M' L' hp32 => ?_)
                        obtain ⟨rfl, hT31, rfl⟩ := hp32
                        refine at_iinc C 3 [(3, .int (sI ((a : Int) + 1))), (0, .ref (G.1 (253))), (1, .int (sI ((k : Int)))), (2, .int (sI ((j : Int)))), (4, .int (sI ((b : Int))))] dX2_nextRow_104 rfl (by decide) rfl ?_
                        refine at_iinc C 4 [(4, .int (sI ((b : Int) + (-1)))), (3, .int (sI ((a : Int) + 1))), (0, .ref (G.1 (253))), (1, .int (sI ((k : Int)))), (2, .int (sI ((j : Int))))] dX2_nextRow_107 rfl (by decide) rfl ?_
                        refine at_goto C 91 dX2_nextRow_110 (by decide) ?_
                        refine at_lv [2, 3, 4, 1, 0] rfl ?_
                        exact at_eq (ih91 (f - 1) (a + 1) (b - 1) (swp q a b) (by omega) (⟨by omega, by omega, by omega, by omega⟩) ((sSr_sw M q a b) ▸ hT31) (by rw [hq2]; obtain ⟨f1, rfl⟩ : ∃ f1, f = f1 + 1 := ⟨f - 1, by omega⟩; rw [rvs_y (by omega)]; rfl)) (lvc_s (lvc_s (lvc_s (lvc_i (by omega) (lvc_i (by omega) rfl))))) rfl (sSr_sw M q a b) (rfl)
                  refine at_lv [2, 3, 4, 1, 0] rfl ?_
                  exact at_eq (H91 _ n (k + 1) (n - 1) (swp (M 254) k (jx (M 254) (M 254 k) k (n - 1))) (Nat.lt_succ_self _) (⟨by omega, by omega, by omega, by omega⟩) (by rw [hq, jx_e (by omega)]; exact hT27) (by unfold nxt; rw [hpk]; rfl)) (lvc_s (lvc_s (lvc_s (lvc_i (rfl) (lvc_i (by omega) rfl))))) rfl (by rw [hq, jx_e (by omega)]) (rfl)
                · refine at_aload_n C 0 dX2_nextRow_52 rfl ?_
                  refine at_getf (v := .ref (G.1 (254))) C (obj_Ord G) (ci := 2) rfl inX2 (slot := 0) (by decide) qw_224 rfl rfl dX2_nextRow_53 ?_
                  refine at_iload_n C 2 dX2_nextRow_56 rfl ?_
                  refine at_iald C j (ar_254 G) (rfl) (by omega) dX2_nextRow_57 ?_
                  have hb33 : _ ≤ M 254 j ∧ M 254 j ≤ _ := tv hT (k := 254) (j := j) rfl
                  refine at_aload_n C 0 dX2_nextRow_58 rfl ?_
                  refine at_getf (v := .ref (G.1 (254))) C (obj_Ord G) (ci := 2) rfl inX2 (slot := 0) (by decide) qw_224 rfl rfl dX2_nextRow_59 ?_
                  refine at_iload_n C 1 dX2_nextRow_62 rfl ?_
                  refine at_iald C k (ar_254 G) (rfl) (by omega) dX2_nextRow_63 ?_
                  have hb34 : _ ≤ M 254 k ∧ M 254 k ≤ _ := tv hT (k := 254) (j := k) rfl
                  refine at_icmp_ge C 73 dX2_nextRow_64 (by decide) (⟨by omega, by omega⟩) (⟨by omega, by omega⟩) (fun h35 => ?_) (fun h35 => ?_)
                  · refine at_aload_n C 0 dX2_nextRow_73 rfl ?_
                    refine at_iload_n C 1 dX2_nextRow_74 rfl ?_
                    refine at_iload_n C 2 dX2_nextRow_75 rfl ?_
                    refine at_call_v C (c_X2_exchange l D G k j (by omega) (by omega) hT) (As := [.int (sI ((k : Int))), .int (sI ((j : Int)))]) (obj_Ord G) (ci := 2) rfl qw_711 qw_708 qw_7 qw_710 qp_25 ⟨by decide, by decide, show (parseMethodDescriptor yX2_exchange.desc).map (fun d => d.parameters.length) = some 2 by decide +kernel⟩ ⟨by decide, by decide⟩ ⟨Nat.zero_le _, Nat.zero_le _⟩ (Nat.le_of_ble_eq_true rfl) dX2_nextRow_76 rfl (fun M' L' hp37 => ?_)
                    obtain ⟨rfl, hT36, rfl⟩ := hp37
                    refine at_iload_n C 1 dX2_nextRow_79 rfl ?_
                    refine at_iconst C dX2_nextRow_80 ?_
                    refine at_iadd C dX2_nextRow_81 ?_
                    refine at_istore_n C [(3, .int (sI ((k : Int) + 1))), (0, .ref (G.1 (253))), (1, .int (sI ((k : Int)))), (2, .int (sI ((j : Int))))] dX2_nextRow_82 (by decide) rfl ?_
                    refine at_aload_n C 1 dX2_nextRow_83 rfl ?_
                    refine at_getf (v := .int (sI ((sSr M 254 (swp (M 254) k j)) 253 4))) C (obj_Ord G) (ci := 2) rfl inX2 (slot := 4) (by decide) qw_229 rfl rfl dX2_nextRow_84 ?_
                    have hb38 := tv hT36 (k := 253) (j := 4) rfl
                    refine at_ve (b := (n : Int)) (by rw [sSr_ne (by decide)]; exact hn) ?_
                    refine at_iconst C dX2_nextRow_87 ?_
                    refine at_isub C dX2_nextRow_88 ?_
                    refine at_istore C [(4, .int (sI ((n : Int) - 1))), (3, .int (sI ((k : Int) + 1))), (0, .ref (G.1 (253))), (1, .int (sI ((k : Int)))), (2, .int (sI ((j : Int))))] dX2_nextRow_89 (by decide) rfl ?_
                    have H91 : ∀ (fu : Nat) (f : Nat) (a : Nat) (b : Nat) (q : Nat → Int), f < fu → (a ≤ n ∧ b < n ∧ b ≤ a + f ∧ 1 ≤ a) → (TInv (sSr M 254 q)) → (nxt (M 254) n = rvs f q a b) → sAt zp l ze (sRm 1 23) zs zm za zb zt zc D G 5 0 0 Q 91 [(0, .ref (G.1 (253))), (1, .int (sI ((k : Int)))), (2, .int (sI ((j : Int)))), (3, .int (sI ((a : Int)))), (4, .int (sI ((b : Int))))] [] (sSr M 254 q) L := by
                      intro fu
                      induction fu with
                      | zero => intro f a b q hd hab hTq hq2; exact absurd hd (Nat.not_lt_zero _)
                      | succ fu ih91 =>
                        intro f a b q hd91 hab hTq hq2
                        refine at_iload_n C 3 dX2_nextRow_91 rfl ?_
                        refine at_iload C 4 dX2_nextRow_92 rfl ?_
                        refine at_icmp_ge C 113 dX2_nextRow_94 (by decide) (⟨by omega, by omega⟩) (⟨by omega, by omega⟩) (fun h39 => ?_) (fun h39 => ?_)
                        · refine at_iconst C dX2_nextRow_113 ?_
                          exact hret _ _ _ _ _ dX2_nextRow_114 (sB_t (by unfold hasN; rw [hpk]; omega)) ⟨by rw [if_pos (show hasN (M 254) n by unfold hasN; rw [hpk]; omega), hq2, rvs_n (by omega)], hTq, rfl⟩
                        · refine at_aload_n C 0 dX2_nextRow_97 rfl ?_
                          refine at_iload_n C 3 dX2_nextRow_98 rfl ?_
                          refine at_iload C 4 dX2_nextRow_99 rfl ?_
                          refine at_call_v C (c_X2_exchange l D G a b (by omega) (by omega) hTq) (As := [.int (sI ((a : Int))), .int (sI ((b : Int)))]) (obj_Ord G) (ci := 2) rfl qw_711 qw_708 qw_7 qw_710 qp_25 ⟨by decide, by decide, show (parseMethodDescriptor yX2_exchange.desc).map (fun d => d.parameters.length) = some 2 by decide +kernel⟩ ⟨by decide, by decide⟩ ⟨Nat.zero_le _, Nat.zero_le _⟩ (Nat.le_of_ble_eq_true rfl) dX2_nextRow_101 rfl (fun M' L' hp41 => ?_)
                          obtain ⟨rfl, hT40, rfl⟩ := hp41
                          refine at_iinc C 3 [(3, .int (sI ((a : Int) + 1))), (0, .ref (G.1 (253))), (1, .int (sI ((k : Int)))), (2, .int (sI ((j : Int)))), (4, .int (sI ((b : Int))))] dX2_nextRow_104 rfl (by decide) rfl ?_
                          refine at_iinc C 4 [(4, .int (sI ((b : Int) + (-1)))), (3, .int (sI ((a : Int) + 1))), (0, .ref (G.1 (253))), (1, .int (sI ((k : Int)))), (2, .int (sI ((j : Int))))] dX2_nextRow_107 rfl (by decide) rfl ?_
                          refine at_goto C 91 dX2_nextRow_110 (by decide) ?_
                          refine at_lv [2, 3, 4, 1, 0] rfl ?_
                          exact at_eq (ih91 (f - 1) (a + 1) (b - 1) (swp q a b) (by omega) (⟨by omega, by omega, by omega, by omega⟩) ((sSr_sw M q a b) ▸ hT40) (by rw [hq2]; obtain ⟨f1, rfl⟩ : ∃ f1, f = f1 + 1 := ⟨f - 1, by omega⟩; rw [rvs_y (by omega)]; rfl)) (lvc_s (lvc_s (lvc_s (lvc_i (by omega) (lvc_i (by omega) rfl))))) rfl (sSr_sw M q a b) (rfl)
                    refine at_lv [2, 3, 4, 1, 0] rfl ?_
                    exact at_eq (H91 _ n (k + 1) (n - 1) (swp (M 254) k (jx (M 254) (M 254 k) k (n - 1))) (Nat.lt_succ_self _) (⟨by omega, by omega, by omega, by omega⟩) (by rw [hq, jx_e (by omega)]; exact hT36) (by unfold nxt; rw [hpk]; rfl)) (lvc_s (lvc_s (lvc_s (lvc_i (rfl) (lvc_i (by omega) rfl))))) rfl (by rw [hq, jx_e (by omega)]) (rfl)
                  · refine at_iinc C 2 [(2, .int (sI ((j : Int) + (-1)))), (0, .ref (G.1 (253))), (1, .int (sI ((k : Int))))] dX2_nextRow_67 rfl (by decide) rfl ?_
                    refine at_goto C 47 dX2_nextRow_70 (by decide) ?_
                    refine at_lv [1, 2, 0] rfl ?_
                    exact at_eq (ih47 (j - 1) (by omega) (⟨by omega, by omega⟩) (by rw [hq]; exact jx_y (by omega) (by assumption))) (lvc_s (lvc_s (lvc_i (by omega) rfl))) rfl (rfl) (rfl)
            refine at_lv [1, 2, 0] rfl ?_
            exact at_eq (H47 _ (n - 1) (Nat.lt_succ_self _) (⟨by omega, by omega⟩) (rfl)) (lvc_s (lvc_s (lvc_i (by omega) rfl))) rfl (rfl) (rfl)
          · refine at_iconst C dX2_nextRow_38 ?_
            exact hret _ _ _ _ _ dX2_nextRow_39 (sB_f (fun z => z (by rw [hp, show (t + 1).toNat = 0 by omega]; rfl))) ⟨(if_neg (fun z => z (by rw [hp, show (t + 1).toNat = 0 by omega]; rfl))).symm, hT, rfl⟩
        · refine at_iinc C 1 [(1, .int (sI (t + (-1)))), (0, .ref (G.1 (253)))] dX2_nextRow_28 rfl (by decide) rfl ?_
          refine at_goto C 7 dX2_nextRow_31 (by decide) ?_
          refine at_lv [1, 0] rfl ?_
          exact at_eq (ih7 (t + (-1)) (by omega) (⟨by omega, by omega⟩) (by rw [hp, show (t + 1).toNat = (t + (-1) + 1).toNat + 1 by omega]; exact pvt_s (by rw [show (t + (-1) + 1).toNat = t.toNat by omega]; assumption))) (lvc_s (lvc_i (rfl) rfl)) rfl (rfl) (rfl)
  refine at_lv [1, 0] rfl ?_
  exact at_eq (H7 _ ((n : Int) - 2) (Nat.lt_succ_self _) (⟨by omega, by omega⟩) (by congr 1; omega)) (lvc_s (lvc_i (by omega) rfl)) rfl (rfl) (rfl)

set_option maxHeartbeats 4000000 in
set_option maxRecDepth 100000 in
theorem c_X2_nearest (l : Launch) (D : va_G) (G : sG) {M : sM} {L : sL} (i left : Nat) (hi : i < 6) (hl : left < 64) (h0 : left ≠ 0) (hT : TInv M) : sKi l D G yX2_nearest cX2_nearest 6 .int 1 21 [.ref (G.1 (253)), .int (sI ((i : Int))), .int (sI ((left : Int)))] M L (fun r M' L' => r = sI (neaS (fun s i => M 256 (i * 6 + s)) i left) ∧ M = M' ∧ L = L') := by
  refine sKi_go (by decide) (Nat.le_of_ble_eq_true rfl) ?_
  intro zp ze zs zm za zb zt zc Q C hret
  refine at_eq (lv' := [(0, .ref (G.1 (253))), (1, .int (sI ((i : Int)))), (2, .int (sI ((left : Int))))]) (st' := []) (M' := M) (L' := L) ?_ rfl rfl rfl rfl
  refine at_iconst C dX2_nearest_0 ?_
  refine at_istore_n C [(3, .int (sI (-1))), (0, .ref (G.1 (253))), (1, .int (sI ((i : Int)))), (2, .int (sI ((left : Int))))] dX2_nearest_1 (by decide) rfl ?_
  refine at_iconst C dX2_nearest_2 ?_
  refine at_istore C [(4, .int (sI (0))), (3, .int (sI (-1))), (0, .ref (G.1 (253))), (1, .int (sI ((i : Int)))), (2, .int (sI ((left : Int))))] dX2_nearest_3 (by decide) rfl ?_
  refine at_iconst C dX2_nearest_5 ?_
  refine at_istore C [(5, .int (sI (0))), (4, .int (sI (0))), (3, .int (sI (-1))), (0, .ref (G.1 (253))), (1, .int (sI ((i : Int)))), (2, .int (sI ((left : Int))))] dX2_nearest_6 (by decide) rfl ?_
  have H8 : ∀ (fu : Nat) (k : Nat) (v : Int), 6 - k < fu → (k ≤ 6) → (nea (fun s => left.testBit s = true) (fun s => M 256 (i * 6 + s)) k = -1 ∨ v = M 256 (i * 6 + (nea (fun s => left.testBit s = true) (fun s => M 256 (i * 6 + s)) k).toNat)) → (0 ≤ v ∧ v ≤ 100) → sAt zp l ze (sRm 1 21) zs zm za zb zt zc D G 6 0 0 Q 8 [(0, .ref (G.1 (253))), (1, .int (sI ((i : Int)))), (2, .int (sI ((left : Int)))), (3, .int (sI (nea (fun s => left.testBit s = true) (fun s => M 256 (i * 6 + s)) k))), (4, .int (sI (v))), (5, .int (sI ((k : Int))))] [] M L := by
    intro fu
    induction fu with
    | zero => intro k v hd hk hv hvr; exact absurd hd (Nat.not_lt_zero _)
    | succ fu ih8 =>
      intro k v hd8 hk hv hvr
      have hnr := nea_r (fun s => left.testBit s = true) (fun s => M 256 (i * 6 + s)) k
      refine at_iload C 5 dX2_nearest_8 rfl ?_
      refine at_bipush C dX2_nearest_10 (by decide) (by decide) ?_
      refine at_icmp_ge C 69 dX2_nearest_12 (by decide) (⟨by omega, by omega⟩) (⟨by omega, by omega⟩) (fun h1 => ?_) (fun h1 => ?_)
      · refine at_iload_n C 3 dX2_nearest_69 rfl ?_
        exact hret _ _ _ _ _ dX2_nearest_70 (⟨congrArg sI (by have e : k = 6 := (by omega); rw [e]; first | done | rfl), rfl, rfl⟩)
      · refine at_iload_n C 2 dX2_nearest_15 rfl ?_
        refine at_iload C 5 dX2_nearest_16 rfl ?_
        refine at_nest_i C (c_X6_contains l D G left k (by omega) (by omega)) (As := [.int (sI ((left : Int))), .int (sI ((k : Int)))]) qw_644 (host := RX6) (List.mem_of_getElem? (i := 9) rfl) qw_1 qw_643 ⟨by decide, by decide, show (parseMethodDescriptor yX6_contains.desc).map (fun d => d.parameters.length) = some 2 by decide +kernel⟩ ⟨by decide, by decide⟩ ⟨Nat.zero_le _, Nat.zero_le _⟩ (Nat.le_of_ble_eq_true rfl) dX2_nearest_18 rfl (fun r M' L' hp2 => ?_)
        obtain ⟨rfl, rfl, rfl⟩ := hp2
        refine at_if_eqB C 63 dX2_nearest_21 (by decide) (fun h3 => ?_) (fun h3 => ?_)
        · refine at_iinc C 5 [(5, .int (sI ((k : Int) + 1))), (0, .ref (G.1 (253))), (1, .int (sI ((i : Int)))), (2, .int (sI ((left : Int)))), (3, .int (sI (nea (fun s => left.testBit s = true) (fun s => M 256 (i * 6 + s)) k))), (4, .int (sI (v)))] dX2_nearest_63 rfl (by decide) rfl ?_
          refine at_goto C 8 dX2_nearest_66 (by decide) ?_
          refine at_lv [1, 2, 3, 4, 5, 0] rfl ?_
          exact at_eq (ih8 (k + 1) v (by omega) (by omega) (by rw [nea_no (fun z => absurd z (by assumption))]; exact hv) (⟨by omega, by omega⟩)) (lvc_s (lvc_s (lvc_s (lvc_i ((nea_no (fun z => absurd z (by assumption))).symm) (lvc_s (lvc_i (by omega) rfl)))))) rfl (rfl) (rfl)
        · refine at_iload_n C 3 dX2_nearest_24 rfl ?_
          refine at_iconst C dX2_nearest_25 ?_
          refine at_icmp_eq C 46 dX2_nearest_26 (by decide) (⟨by omega, by omega⟩) (⟨by omega, by omega⟩) (fun h4 => ?_) (fun h4 => ?_)
          · refine at_aload_n C 0 dX2_nearest_46 rfl ?_
            refine at_getf (v := .ref (G.1 (256))) C (obj_Ord G) (ci := 2) rfl inX2 (slot := 2) (by decide) qw_227 rfl rfl dX2_nearest_47 ?_
            refine at_iload_n C 1 dX2_nearest_50 rfl ?_
            refine at_bipush C dX2_nearest_51 (by decide) (by decide) ?_
            refine at_imul C dX2_nearest_53 ?_
            refine at_iload C 5 dX2_nearest_54 rfl ?_
            refine at_iadd C dX2_nearest_56 ?_
            refine at_iald C ((i * 6) + k) (ar_256 G) (by omega) (by omega) dX2_nearest_57 ?_
            have hb5 : _ ≤ M 256 ((i * 6) + k) ∧ M 256 ((i * 6) + k) ≤ _ := tv hT (k := 256) (j := ((i * 6) + k)) rfl
            refine at_istore C [(4, .int (sI (M 256 ((i * 6) + k)))), (0, .ref (G.1 (253))), (1, .int (sI ((i : Int)))), (2, .int (sI ((left : Int)))), (3, .int (sI (nea (fun s => left.testBit s = true) (fun s => M 256 (i * 6 + s)) k))), (5, .int (sI ((k : Int))))] dX2_nearest_58 (by decide) rfl ?_
            refine at_iload C 5 dX2_nearest_60 rfl ?_
            refine at_istore_n C [(3, .int (sI ((k : Int)))), (4, .int (sI (M 256 ((i * 6) + k)))), (0, .ref (G.1 (253))), (1, .int (sI ((i : Int)))), (2, .int (sI ((left : Int)))), (5, .int (sI ((k : Int))))] dX2_nearest_62 (by decide) rfl ?_
            refine at_iinc C 5 [(5, .int (sI ((k : Int) + 1))), (3, .int (sI ((k : Int)))), (4, .int (sI (M 256 ((i * 6) + k)))), (0, .ref (G.1 (253))), (1, .int (sI ((i : Int)))), (2, .int (sI ((left : Int))))] dX2_nearest_63 rfl (by decide) rfl ?_
            refine at_goto C 8 dX2_nearest_66 (by decide) ?_
            refine at_lv [3, 4, 5, 1, 2, 0] rfl ?_
            exact at_eq (ih8 (k + 1) (M 256 ((i * 6) + k)) (by omega) (by omega) (by rw [nea_yes (by assumption) (by rcases hv with q | q <;> omega)]; exact Or.inr rfl) (⟨by omega, by omega⟩)) (lvc_s (lvc_s (lvc_s (lvc_i ((nea_yes (by assumption) (by rcases hv with q | q <;> omega)).symm) (lvc_i (rfl) (lvc_i (by omega) rfl)))))) rfl (rfl) (rfl)
          · refine at_aload_n C 0 dX2_nearest_29 rfl ?_
            refine at_getf (v := .ref (G.1 (256))) C (obj_Ord G) (ci := 2) rfl inX2 (slot := 2) (by decide) qw_227 rfl rfl dX2_nearest_30 ?_
            refine at_iload_n C 1 dX2_nearest_33 rfl ?_
            refine at_bipush C dX2_nearest_34 (by decide) (by decide) ?_
            refine at_imul C dX2_nearest_36 ?_
            refine at_iload C 5 dX2_nearest_37 rfl ?_
            refine at_iadd C dX2_nearest_39 ?_
            refine at_iald C ((i * 6) + k) (ar_256 G) (by omega) (by omega) dX2_nearest_40 ?_
            have hb6 : _ ≤ M 256 ((i * 6) + k) ∧ M 256 ((i * 6) + k) ≤ _ := tv hT (k := 256) (j := ((i * 6) + k)) rfl
            refine at_iload C 4 dX2_nearest_41 rfl ?_
            refine at_icmp_ge C 63 dX2_nearest_43 (by decide) (⟨by omega, by omega⟩) (⟨by omega, by omega⟩) (fun h7 => ?_) (fun h7 => ?_)
            · refine at_iinc C 5 [(5, .int (sI ((k : Int) + 1))), (0, .ref (G.1 (253))), (1, .int (sI ((i : Int)))), (2, .int (sI ((left : Int)))), (3, .int (sI (nea (fun s => left.testBit s = true) (fun s => M 256 (i * 6 + s)) k))), (4, .int (sI (v)))] dX2_nearest_63 rfl (by decide) rfl ?_
              refine at_goto C 8 dX2_nearest_66 (by decide) ?_
              refine at_lv [1, 2, 3, 4, 5, 0] rfl ?_
              exact at_eq (ih8 (k + 1) v (by omega) (by omega) (by rw [nea_no (fun z w => by rcases hv with q | q <;> omega)]; exact hv) (⟨by omega, by omega⟩)) (lvc_s (lvc_s (lvc_s (lvc_i ((nea_no (fun z w => by rcases hv with q | q <;> omega)).symm) (lvc_s (lvc_i (by omega) rfl)))))) rfl (rfl) (rfl)
            · refine at_aload_n C 0 dX2_nearest_46 rfl ?_
              refine at_getf (v := .ref (G.1 (256))) C (obj_Ord G) (ci := 2) rfl inX2 (slot := 2) (by decide) qw_227 rfl rfl dX2_nearest_47 ?_
              refine at_iload_n C 1 dX2_nearest_50 rfl ?_
              refine at_bipush C dX2_nearest_51 (by decide) (by decide) ?_
              refine at_imul C dX2_nearest_53 ?_
              refine at_iload C 5 dX2_nearest_54 rfl ?_
              refine at_iadd C dX2_nearest_56 ?_
              refine at_iald C ((i * 6) + k) (ar_256 G) (by omega) (by omega) dX2_nearest_57 ?_
              have hb8 : _ ≤ M 256 ((i * 6) + k) ∧ M 256 ((i * 6) + k) ≤ _ := tv hT (k := 256) (j := ((i * 6) + k)) rfl
              refine at_istore C [(4, .int (sI (M 256 ((i * 6) + k)))), (0, .ref (G.1 (253))), (1, .int (sI ((i : Int)))), (2, .int (sI ((left : Int)))), (3, .int (sI (nea (fun s => left.testBit s = true) (fun s => M 256 (i * 6 + s)) k))), (5, .int (sI ((k : Int))))] dX2_nearest_58 (by decide) rfl ?_
              refine at_iload C 5 dX2_nearest_60 rfl ?_
              refine at_istore_n C [(3, .int (sI ((k : Int)))), (4, .int (sI (M 256 ((i * 6) + k)))), (0, .ref (G.1 (253))), (1, .int (sI ((i : Int)))), (2, .int (sI ((left : Int)))), (5, .int (sI ((k : Int))))] dX2_nearest_62 (by decide) rfl ?_
              refine at_iinc C 5 [(5, .int (sI ((k : Int) + 1))), (3, .int (sI ((k : Int)))), (4, .int (sI (M 256 ((i * 6) + k)))), (0, .ref (G.1 (253))), (1, .int (sI ((i : Int)))), (2, .int (sI ((left : Int))))] dX2_nearest_63 rfl (by decide) rfl ?_
              refine at_goto C 8 dX2_nearest_66 (by decide) ?_
              refine at_lv [3, 4, 5, 1, 2, 0] rfl ?_
              exact at_eq (ih8 (k + 1) (M 256 ((i * 6) + k)) (by omega) (by omega) (by rw [nea_yes (by assumption) (by rcases hv with q | q <;> omega)]; exact Or.inr rfl) (⟨by omega, by omega⟩)) (lvc_s (lvc_s (lvc_s (lvc_i ((nea_yes (by assumption) (by rcases hv with q | q <;> omega)).symm) (lvc_i (rfl) (lvc_i (by omega) rfl)))))) rfl (rfl) (rfl)
  refine at_lv [3, 4, 5, 2, 1, 0] rfl ?_
  exact at_eq (H8 _ 0 0 (Nat.lt_succ_self _) (by omega) (Or.inl rfl) (⟨by omega, by omega⟩)) (lvc_s (lvc_s (lvc_s (lvc_i (rfl) (lvc_s (lvc_i (rfl) rfl)))))) rfl (rfl) (rfl)

set_option maxHeartbeats 4000000 in
set_option maxRecDepth 100000 in
theorem c_X2_ownBehindRow (l : Launch) (D : va_G) (G : sG) {M : sM} {L : sL} (n : Nat) (hn : M 253 4 = (n : Int)) (hT : TInv M) : sKi l D G yX2_ownBehindRow cX2_ownBehindRow 5 .int 2 46 [.ref (G.1 (253))] M L (fun r M' L' => r = sI (obO (fun s i => M 256 (i * 6 + s)) (M 254) (M 253 3).toNat n) ∧ M = M' ∧ L = L') := by
  refine sKi_go (by decide) (Nat.le_of_ble_eq_true rfl) ?_
  intro zp ze zs zm za zb zt zc Q C hret
  refine at_eq (lv' := [(0, .ref (G.1 (253)))]) (st' := []) (M' := M) (L' := L) ?_ rfl rfl rfl rfl
  have hsz : _ ≤ M 253 4 ∧ M 253 4 ≤ _ := tv hT (k := 253) (j := 4) (lo := 0) (hi := 6) rfl
  have hsh : _ ≤ M 253 3 ∧ M 253 3 ≤ _ := tv hT (k := 253) (j := 3) (lo := 0) (hi := 63) rfl
  refine at_aload_n C 0 dX2_ownBehindRow_0 rfl ?_
  refine at_getf (v := .int (sI (M 253 3))) C (obj_Ord G) (ci := 2) rfl inX2 (slot := 3) (by decide) qw_228 rfl rfl dX2_ownBehindRow_1 ?_
  have hb1 : _ ≤ M 253 3 ∧ M 253 3 ≤ _ := tv hT (k := 253) (j := 3) rfl
  refine at_istore_n C [(1, .int (sI (M 253 3))), (0, .ref (G.1 (253)))] dX2_ownBehindRow_4 (by decide) rfl ?_
  refine at_iconst C dX2_ownBehindRow_5 ?_
  refine at_istore_n C [(2, .int (sI (0))), (1, .int (sI (M 253 3))), (0, .ref (G.1 (253)))] dX2_ownBehindRow_6 (by decide) rfl ?_
  refine at_iconst C dX2_ownBehindRow_7 ?_
  refine at_istore_n C [(3, .int (sI (0))), (2, .int (sI (0))), (1, .int (sI (M 253 3))), (0, .ref (G.1 (253)))] dX2_ownBehindRow_8 (by decide) rfl ?_
  have H9 : ∀ (fu : Nat) (k : Nat), n - k < fu → (k ≤ n) → sAt zp l ze (sRm 2 46) zs zm za zb zt zc D G 5 0 0 Q 9 [(0, .ref (G.1 (253))), (1, .int (sI ((((obL (fun s i => M 256 (i * 6 + s)) (M 254) (M 253 3).toNat k) : Nat) : Int)))), (2, .int (sI (obO (fun s i => M 256 (i * 6 + s)) (M 254) (M 253 3).toNat k))), (3, .int (sI ((k : Int))))] [] M L := by
    intro fu
    induction fu with
    | zero => intro k hd hk; exact absurd hd (Nat.not_lt_zero _)
    | succ fu ih9 =>
      intro k hd9 hk
      have hol := obL_lt (d := (fun s i => M 256 (i * 6 + s))) (r := M 254) (sh := (M 253 3).toNat) (by omega) k
      refine at_iload_n C 3 dX2_ownBehindRow_9 rfl ?_
      refine at_aload_n C 0 dX2_ownBehindRow_10 rfl ?_
      refine at_getf (v := .int (sI (M 253 4))) C (obj_Ord G) (ci := 2) rfl inX2 (slot := 4) (by decide) qw_229 rfl rfl dX2_ownBehindRow_11 ?_
      have hb2 : _ ≤ M 253 4 ∧ M 253 4 ≤ _ := tv hT (k := 253) (j := 4) rfl
      refine at_icmp_ge C 68 dX2_ownBehindRow_14 (by decide) (⟨by omega, by omega⟩) (⟨by omega, by omega⟩) (fun h3 => ?_) (fun h3 => ?_)
      · refine at_iload_n C 2 dX2_ownBehindRow_68 rfl ?_
        exact hret _ _ _ _ _ dX2_ownBehindRow_69 (⟨congrArg sI (by rw [show n = k by omega]), rfl, rfl⟩)
      · refine at_iload_n C 1 dX2_ownBehindRow_17 rfl ?_
        refine at_if_eq C 68 dX2_ownBehindRow_18 (by decide) (⟨by omega, by omega⟩) (fun h4 => ?_) (fun h4 => ?_)
        · refine at_iload_n C 2 dX2_ownBehindRow_68 rfl ?_
          exact hret _ _ _ _ _ dX2_ownBehindRow_69 (⟨congrArg sI (by rw [show n = k + (n - k) by omega, (obL_0 (show obL (fun s i => M 256 (i * 6 + s)) (M 254) (M 253 3).toNat k = 0 by omega) (n - k)).2]), rfl, rfl⟩)
        · refine at_aload_n C 0 dX2_ownBehindRow_21 rfl ?_
          refine at_aload_n C 0 dX2_ownBehindRow_22 rfl ?_
          refine at_getf (v := .ref (G.1 (254))) C (obj_Ord G) (ci := 2) rfl inX2 (slot := 0) (by decide) qw_224 rfl rfl dX2_ownBehindRow_23 ?_
          refine at_iload_n C 3 dX2_ownBehindRow_26 rfl ?_
          refine at_iald C k (ar_254 G) (rfl) (by omega) dX2_ownBehindRow_27 ?_
          have hb5 : _ ≤ M 254 k ∧ M 254 k ≤ _ := tv hT (k := 254) (j := k) rfl
          refine at_ve (b := (((M 254 k).toNat : Nat) : Int)) (by have h1 : _ ≤ M 254 k ∧ M 254 k ≤ _ := tv hT (k := 254) (j := k) (lo := 0) (hi := 5) rfl; omega) ?_
          have hrr : _ ≤ M 254 k ∧ M 254 k ≤ _ := tv hT (k := 254) (j := k) (lo := 0) (hi := 5) rfl
          refine at_iload_n C 1 dX2_ownBehindRow_28 rfl ?_
          refine at_call_i C (c_X2_nearest l D G ((M 254 k).toNat) (obL (fun s i => M 256 (i * 6 + s)) (M 254) (M 253 3).toNat k) (by omega) (by omega) (by omega) hT) (As := [.int (sI ((((M 254 k).toNat : Nat) : Int))), .int (sI ((((obL (fun s i => M 256 (i * 6 + s)) (M 254) (M 253 3).toNat k) : Nat) : Int)))]) (obj_Ord G) (ci := 2) rfl qw_702 qw_699 qw_7 qw_701 qp_23 ⟨by decide, by decide, show (parseMethodDescriptor yX2_nearest.desc).map (fun d => d.parameters.length) = some 2 by decide +kernel⟩ ⟨by decide, by decide⟩ ⟨Nat.zero_le _, Nat.zero_le _⟩ (Nat.le_of_ble_eq_true rfl) dX2_ownBehindRow_29 rfl (fun r M' L' hp7 => ?_)
          obtain ⟨rfl, rfl, rfl⟩ := hp7
          have hb6 := neaS_r (d := fun s i => M 256 (i * 6 + s)) (i := ((M 254 k).toNat)) (left := (obL (fun s i => M 256 (i * 6 + s)) (M 254) (M 253 3).toNat k)) (by omega) (by omega)
          refine at_istore C [(4, .int (sI (neaS (fun s i => M 256 (i * 6 + s)) ((M 254 k).toNat) (obL (fun s i => M 256 (i * 6 + s)) (M 254) (M 253 3).toNat k)))), (0, .ref (G.1 (253))), (1, .int (sI ((((obL (fun s i => M 256 (i * 6 + s)) (M 254) (M 253 3).toNat k) : Nat) : Int)))), (2, .int (sI (obO (fun s i => M 256 (i * 6 + s)) (M 254) (M 253 3).toNat k))), (3, .int (sI ((k : Int))))] dX2_ownBehindRow_32 (by decide) rfl ?_
          refine at_iload_n C 2 dX2_ownBehindRow_34 rfl ?_
          refine at_iconst C dX2_ownBehindRow_35 ?_
          refine at_iload C 0 dX2_ownBehindRow_36 rfl ?_
          refine at_ishl C ((((2 ^ (neaS (fun s i => M 256 (i * 6 + s)) (M 254 k).toNat (obL (fun s i => M 256 (i * 6 + s)) (M 254) (M 253 3).toNat k)).toNat) : Nat) : Int)) dX2_ownBehindRow_38 (by rw [← zb_shl (by omega), Int.toNat_of_nonneg (by omega)]) ?_
          refine at_iconst C dX2_ownBehindRow_39 ?_
          refine at_ixor C (-1 - ((2 ^ (neaS (fun s i => M 256 (i * 6 + s)) (M 254 k).toNat (obL (fun s i => M 256 (i * 6 + s)) (M 254) (M 253 3).toNat k)).toNat : Nat) : Int)) dX2_ownBehindRow_40 (zb_not _ (pow_lt64 (by omega))) ?_
          refine at_iand C ((((sDel (obL (fun s i => M 256 (i * 6 + s)) (M 254) (M 253 3).toNat k) (2 ^ (neaS (fun s i => M 256 (i * 6 + s)) (M 254 k).toNat (obL (fun s i => M 256 (i * 6 + s)) (M 254) (M 253 3).toNat k)).toNat)) : Nat) : Int)) dX2_ownBehindRow_41 (zb_del1 _ hol _ (pow_lt64 (by omega))) ?_
          refine at_istore_n C [(1, .int (sI ((((sDel (obL (fun s i => M 256 (i * 6 + s)) (M 254) (M 253 3).toNat k) (2 ^ (neaS (fun s i => M 256 (i * 6 + s)) (M 254 k).toNat (obL (fun s i => M 256 (i * 6 + s)) (M 254) (M 253 3).toNat k)).toNat)) : Nat) : Int)))), (4, .int (sI (neaS (fun s i => M 256 (i * 6 + s)) ((M 254 k).toNat) (obL (fun s i => M 256 (i * 6 + s)) (M 254) (M 253 3).toNat k)))), (0, .ref (G.1 (253))), (2, .int (sI (obO (fun s i => M 256 (i * 6 + s)) (M 254) (M 253 3).toNat k))), (3, .int (sI ((k : Int))))] dX2_ownBehindRow_42 (by decide) rfl ?_
          refine at_iload_n C 3 dX2_ownBehindRow_43 rfl ?_
          refine at_iload C 1 dX2_ownBehindRow_44 rfl ?_
          refine at_aload_n C 2 dX2_ownBehindRow_46 rfl ?_
          refine at_getf (v := .ref (G.1 (254))) C (obj_Ord G) (ci := 2) rfl inX2 (slot := 0) (by decide) qw_224 rfl rfl dX2_ownBehindRow_47 ?_
          refine at_iload_n C 4 dX2_ownBehindRow_50 rfl ?_
          refine at_iald C k (ar_254 G) (rfl) (by omega) dX2_ownBehindRow_51 ?_
          have hb8 : _ ≤ M 254 k ∧ M 254 k ≤ _ := tv hT (k := 254) (j := k) rfl
          refine at_icmp_ne C 59 dX2_ownBehindRow_52 (by decide) (⟨by omega, by omega⟩) (⟨by omega, by omega⟩) (fun h9 => ?_) (fun h9 => ?_)
          · refine at_iconst C dX2_ownBehindRow_59 ?_
            refine at_iadd C dX2_ownBehindRow_60 ?_
            refine at_istore_n C [(2, .int (sI ((obO (fun s i => M 256 (i * 6 + s)) (M 254) (M 253 3).toNat k) + 0))), (1, .int (sI ((((sDel (obL (fun s i => M 256 (i * 6 + s)) (M 254) (M 253 3).toNat k) (2 ^ (neaS (fun s i => M 256 (i * 6 + s)) (M 254 k).toNat (obL (fun s i => M 256 (i * 6 + s)) (M 254) (M 253 3).toNat k)).toNat)) : Nat) : Int)))), (4, .int (sI (neaS (fun s i => M 256 (i * 6 + s)) ((M 254 k).toNat) (obL (fun s i => M 256 (i * 6 + s)) (M 254) (M 253 3).toNat k)))), (0, .ref (G.1 (253))), (3, .int (sI ((k : Int))))] dX2_ownBehindRow_61 (by decide) rfl ?_
            refine at_iinc C 4 [(3, .int (sI ((k : Int) + 1))), (2, .int (sI ((obO (fun s i => M 256 (i * 6 + s)) (M 254) (M 253 3).toNat k) + 0))), (1, .int (sI ((((sDel (obL (fun s i => M 256 (i * 6 + s)) (M 254) (M 253 3).toNat k) (2 ^ (neaS (fun s i => M 256 (i * 6 + s)) (M 254 k).toNat (obL (fun s i => M 256 (i * 6 + s)) (M 254) (M 253 3).toNat k)).toNat)) : Nat) : Int)))), (4, .int (sI (neaS (fun s i => M 256 (i * 6 + s)) ((M 254 k).toNat) (obL (fun s i => M 256 (i * 6 + s)) (M 254) (M 253 3).toNat k)))), (0, .ref (G.1 (253)))] dX2_ownBehindRow_62 rfl (by decide) rfl ?_
            refine at_goto C 9 dX2_ownBehindRow_65 (by decide) ?_
            refine at_lv [4, 2, 1, 0] rfl ?_
            exact at_eq (ih9 (k + 1) (by omega) (by omega)) (lvc_s (lvc_i (congrArg Int.ofNat (if_neg (by omega)).symm) (lvc_i (by show _ = (if _ then _ else _ : Int); rw [if_neg (by omega), if_neg (by assumption)]) (lvc_i (by omega) rfl)))) rfl (rfl) (rfl)
          · refine at_iconst C dX2_ownBehindRow_55 ?_
            refine at_goto C 60 dX2_ownBehindRow_56 (by decide) ?_
            refine at_iadd C dX2_ownBehindRow_60 ?_
            refine at_istore_n C [(2, .int (sI ((obO (fun s i => M 256 (i * 6 + s)) (M 254) (M 253 3).toNat k) + 1))), (1, .int (sI ((((sDel (obL (fun s i => M 256 (i * 6 + s)) (M 254) (M 253 3).toNat k) (2 ^ (neaS (fun s i => M 256 (i * 6 + s)) (M 254 k).toNat (obL (fun s i => M 256 (i * 6 + s)) (M 254) (M 253 3).toNat k)).toNat)) : Nat) : Int)))), (4, .int (sI (neaS (fun s i => M 256 (i * 6 + s)) ((M 254 k).toNat) (obL (fun s i => M 256 (i * 6 + s)) (M 254) (M 253 3).toNat k)))), (0, .ref (G.1 (253))), (3, .int (sI ((k : Int))))] dX2_ownBehindRow_61 (by decide) rfl ?_
            refine at_iinc C 4 [(3, .int (sI ((k : Int) + 1))), (2, .int (sI ((obO (fun s i => M 256 (i * 6 + s)) (M 254) (M 253 3).toNat k) + 1))), (1, .int (sI ((((sDel (obL (fun s i => M 256 (i * 6 + s)) (M 254) (M 253 3).toNat k) (2 ^ (neaS (fun s i => M 256 (i * 6 + s)) (M 254 k).toNat (obL (fun s i => M 256 (i * 6 + s)) (M 254) (M 253 3).toNat k)).toNat)) : Nat) : Int)))), (4, .int (sI (neaS (fun s i => M 256 (i * 6 + s)) ((M 254 k).toNat) (obL (fun s i => M 256 (i * 6 + s)) (M 254) (M 253 3).toNat k)))), (0, .ref (G.1 (253)))] dX2_ownBehindRow_62 rfl (by decide) rfl ?_
            refine at_goto C 9 dX2_ownBehindRow_65 (by decide) ?_
            refine at_lv [4, 2, 1, 0] rfl ?_
            exact at_eq (ih9 (k + 1) (by omega) (by omega)) (lvc_s (lvc_i (congrArg Int.ofNat (if_neg (by omega)).symm) (lvc_i (by show _ = (if _ then _ else _ : Int); rw [if_neg (by omega), if_pos (by assumption)]) (lvc_i (by omega) rfl)))) rfl (rfl) (rfl)
  refine at_lv [3, 2, 1, 0] rfl ?_
  exact at_eq (H9 _ 0 (Nat.lt_succ_self _) (by omega)) (lvc_s (lvc_i (by show M 253 3 = (((M 253 3).toNat : Nat) : Int); omega) (lvc_i (rfl) (lvc_i (rfl) rfl)))) rfl (rfl) (rfl)
