/-! years; gulls -/
section RJ
variable {M N : sM} {L : sL}
theorem T_cpy {a b : Nat} (hT : TInv M) (ha : isB a) (hb : isB b) : TInv (bCpy M a b) := by
  intro c j
  by_cases h : a ≤ c ∧ c < a + 48
  · rw [bCpy_in h]
    obtain ⟨i, rfl⟩ : ∃ i, c = a + i := ⟨c - a, by omega⟩
    rw [show a + i - a = i by omega]
    have e : rg (a + i) j = rg (b + i) j := by rw [rg_B ha (by omega), rg_B hb (by omega)]
    unfold brow
    split
    · rw [e]; exact hT (b + i) j
    · exact hT (a + i) j
  · rw [bCpy_out h]; exact hT c j
theorem T_flo {o : Nat} (hT : TInv M) (hB : isB o) (h : M (o + 5) 4 < 2000) : TInv (bFlo M o) := by
  have ht := tv_tide hT hB
  unfold bFlo flN
  refine tw_tide (tv_row (tv_row hT (fun j => ?_)) (fun j => ?_)) hB (by omega)
  · rw [rg_B hB (by omega)]
    show -1 ≤ flC M o _ j ∧ flC M o _ j ≤ 11
    have := tv_cell hT hB j
    have h2 := dri_r (M (o + 1)) (M (o + 6) j)
    unfold flC
    split <;> omega
  · rw [rg_B hB (by omega)]
    show 0 ≤ flD M o _ j ∧ flD M o _ j ≤ 99
    have := tv_dry hT hB j
    unfold flD
    split <;> omega
theorem T_gat {o : Nat} (hT : TInv M) (hB : isB o) (d : Int) : TInv (bGat M o d) := by
  unfold bGat gaN
  refine tv_row (tv_row (tw_comber hT hB (by omega)) (fun j => ?_)) (fun j => ?_)
  · rw [rg_B hB (by omega)]
    show -1 ≤ gaC M o _ _ j ∧ gaC M o _ _ j ≤ 11
    have := tv_cell hT hB j
    unfold gaC
    split <;> omega
  · rw [rg_B hB (by omega)]
    show 0 ≤ gaD M o _ _ j ∧ gaD M o _ _ j ≤ 99
    have := tv_dry hT hB j
    unfold gaD
    split <;> omega
theorem T_yDo {o i : Nat} (hT : TInv M) (hB : isB o) : TInv (yDo M o i) := by
  have := nC_r hT hB
  unfold yDo
  split
  · rename_i z
    exact tw_hold hT hB (by omega)
  · exact hT
theorem yDo_c {o i c : Nat} (h : c ≠ o + 7) : yDo M o i c = M c := by
  unfold yDo
  split
  · exact sSt_ne h
  · rfl
theorem yStep_c {o x c : Nat} (h : c < o + 5 ∨ o + 8 < c) : yStep M o x c = M c := by
  unfold yStep
  rw [yDo_c (by omega), bFlo_ne (by omega) (by omega) (by omega), gat_c (by omega) (by omega) (by omega)]
theorem yIt_c {o x c : Nat} (h : c < o + 5 ∨ o + 8 < c) : ∀ n, yIt M o x n c = M c
  | 0 => rfl
  | n + 1 => (yStep_c h).trans (yIt_c h n)
theorem qYDo_c {i c : Nat} (h1 : c ≠ 263) (h2 : c ≠ 264) : qYDo N i c = N c := by
  unfold qYDo
  split
  · unfold qTk
    rw [sSt_ne h2, sSt_ne h1]
  · rfl
theorem qGo_c {d : Int} {c : Nat} (h1 : c ≠ 258) (h2 : c ≠ 263) (h3 : c ≠ 265) : qGo N d c = N c := by
  unfold qGo
  split
  · rw [qPas_c h1 h2 h3, qGa_c h1 h2 h3]
  · exact qGa_c h1 h2 h3
theorem qGo_j {d : Int} {j : Nat} (h1 : j ≠ 3) (h2 : j ≠ 4) : qGo N d 258 j = N 258 j := by
  unfold qGo
  split
  · rw [qPas_j h1, qGa_j h2]
  · exact qGa_j h2
theorem qYIt_c {x c : Nat} (h1 : c ≠ 258) (h2 : c ≠ 263) (h3 : c ≠ 264) (h4 : c ≠ 265) : ∀ n, qYIt N x n c = N c
  | 0 => rfl
  | n + 1 => by
    show qYDo (qGo _ _) _ c = _
    rw [qYDo_c h2 h3, qGo_c h1 h2 h4]
    exact qYIt_c h1 h2 h3 h4 n
theorem qYIt_j {x j : Nat} (h1 : j ≠ 3) (h2 : j ≠ 4) : ∀ n, qYIt N x n 258 j = N 258 j
  | 0 => rfl
  | n + 1 => by
    show qYDo (qGo _ _) _ 258 j = _
    rw [qYDo_c (by decide) (by decide), qGo_j h1 h2]
    exact qYIt_j h1 h2 n
theorem ydo_r {o i : Nat} (ho : isO o) (hT : TInv M) (h : RelC M N o) : RelC (yDo M o i) (qYDo N i) o := by
  have hB := isO_B ho
  unfold yDo qYDo
  rw [h.1.2.1]
  by_cases z : (i : Int) < M o 10
  · have hi : i < nC M o := by unfold nC; omega
    rw [rc_cho hT hB h hi]
    by_cases z2 : bCho M o i ≠ -1
    · rw [if_pos ⟨z, z2⟩, if_pos ⟨z, z2⟩]
      have hh : bHeld M o i = -1 := by
        by_cases e : bHeld M o i = -1
        · exact e
        · exact absurd (if_neg e) z2
      have en : bCho M o i = bNea M o i := if_pos hh
      have hp : shv M o (bCho M o i).toNat := by rw [en] at z2 ⊢; exact nea_p z2
      exact rc_tk ho hp.1 hi (fun t ht => fst_0 hh t ht) h
    · rw [if_neg (fun q => z2 q.2), if_neg (fun q => z2 q.2)]; exact h
  · rw [if_neg (fun q => z q.1), if_neg (fun q => z q.1)]; exact h
theorem yst_r (hT : TInv M) (h : RelC M N 49) (ht : M (49 + 5) 4 < 2000) (h23 : N 258 23 ≠ 0) (x : Nat) : RelC (yStep M 49 x) (qYSt N x) 49 ∧ TInv (yStep M 49 x) := by
  have hB : isB 49 := isO_B (Or.inr rfl)
  have T1 : TInv (bGat M 49 ((x / 65536 % 3 : Nat) - 1)) := T_gat hT hB _
  have T2 : TInv (bFlo (bGat M 49 ((x / 65536 % 3 : Nat) - 1)) 49) := T_flo T1 hB (by rw [bGat_tide]; exact ht)
  have g := rc_gat (N := N) (Or.inr rfl) (fun s => tv_cell hT hB s) ((x / 65536 % 3 : Nat) - 1) h
  have f := rc_flo (Or.inr rfl) (fun s => tv_cell T1 hB s) g
  have eg : qGo N ((x / 65536 % 3 : Nat) - 1) = qPas (qGa N ((x / 65536 % 3 : Nat) - 1)) := by
    unfold qGo
    rw [if_pos (Or.inr h23)]
  unfold yStep qYSt
  rw [eg]
  exact ⟨ydo_r (Or.inr rfl) T2 f, T_yDo T2 hB⟩
theorem yit_r (hT : TInv M) (h : RelC M N 49) (h23 : N 258 23 ≠ 0) (x : Nat) : ∀ n : Nat, M (49 + 5) 4 + n < 2000 → RelC (yIt M 49 x n) (qYIt N x n) 49 ∧ TInv (yIt M 49 x n)
  | 0, _ => ⟨h, hT⟩
  | n + 1, ht => by
    obtain ⟨a, b⟩ := yit_r hT h h23 x n (by omega)
    exact yst_r b a (by rw [yIt_t]; omega) (by rw [qYIt_j (by decide) (by decide)]; exact h23) _
/-- back again -/
theorem qYE_b {x n k j : Nat} (l : lvp k j) : qTak (qYE N x n) 273 0 k j = N k j := by
  have e273 : qYE N x n 273 = qLay N 273 0 273 := by
    unfold qYE
    rw [sSt_ne (by decide), qYIt_c (by decide) (by decide) (by decide) (by decide)]
    unfold qY0
    rw [sSt_ne (by decide)]
  have o : ∀ c, c ≠ 273 → c ≠ 258 → c ≠ 263 → c ≠ 264 → c ≠ 265 → qYE N x n c = N c := fun c h1 h2 h3 h4 h5 => by
    unfold qYE
    rw [sSt_ne h2, qYIt_c h2 h3 h4 h5]
    unfold qY0
    rw [sSt_ne h2]
    exact qlN_b N h1
  unfold lvp at l
  by_cases k8 : k = 258
  · subst k8
    by_cases j3 : j = 3
    · subst j3
      show qYE N x n 273 0 = _
      rw [e273]; exact qlay_0
    · by_cases j4 : j = 4
      · subst j4
        show qYE N x n 273 (0 + 1) = _
        rw [e273]; exact qlay_1
      · rw [qtak_j j3 j4]
        unfold qYE
        rw [sSt_nj (by omega), qYIt_j j3 j4]
        unfold qY0
        rw [sSt_nj (by omega)]
        exact congrFun (qlN_b N (by decide)) j
  · by_cases k3 : k = 263
    · subst k3
      show (if j < 6 then qYE N x n 273 (0 + 2 + j) else qYE N x n 263 j) = _
      rw [if_pos (by omega), e273, Nat.add_assoc]; exact qlay_p (by omega)
    · by_cases k4 : k = 264
      · subst k4
        show (if j < 6 then qYE N x n 273 (0 + 8 + j) else qYE N x n 264 j) = _
        rw [if_pos (by omega), e273, Nat.add_assoc]; exact qlay_h (by omega)
      · by_cases k5 : k = 265
        · subst k5
          show (if j < 6 then qYE N x n 273 (0 + 14 + j) else qYE N x n 265 j) = _
          rw [if_pos (by omega), e273, Nat.add_assoc]; exact qlay_d (by omega)
        · rw [qtak_c k8 k3 k4 k5, o k (by omega) k8 k3 k4 k5]
theorem s_years (hT : TInv M) (h : Rel M N L) (x n : Int) : Rel (mYears M x n) (qmYears N x n) L ∧ qrYears N x n = rYears M x n := by
  unfold mYears qmYears qrYears rYears
  by_cases z : okYears x n
  · rw [if_pos z, if_pos z, if_pos z, if_pos z]
    have hB : isB 49 := isO_B (Or.inr rfl)
    have hx : RelX (bCpy M 49 1) (qY0 N) 49 := rx_cg hT ho1 (fun i j l => cpy_lv l) (fun k j l => by
      unfold qY0
      rw [sSt_at, if_neg (by unfold lvp at l; omega)]
      exact congrFun (qlN_b N (by unfold lvp at l; omega)) j) h.1
    have h9 := h.2.1
    have et : bCpy M 49 1 (49 + 5) 4 = M 6 4 := cpy_lv (by unfold lvb; omega)
    obtain ⟨a, b⟩ := yit_r (T_cpy hT hB ho1) hx.1 (show qY0 N 258 23 ≠ 0 by unfold qY0; rw [sSt_eq]; decide) x.toNat n.toNat (by rw [et]; have := z.2.2; omega)
    have a2 : RelC (yIt (bCpy M 49 1) 49 x.toNat n.toNat) (qYE N x.toNat n.toNat) 49 := a
    have fr : ∀ c, c < 49 ∨ 97 ≤ c → yIt (bCpy M 49 1) 49 x.toNat n.toNat c = M c := fun c hc => by
      rw [yIt_c (by omega), bCpy_out (by omega)]
    refine ⟨⟨rx_cg hT ho1 (fun i j l => ?_) (fun k j l => qYE_b l) h.1, ?_, rest_cg hT (fr 0 (by decide)) (fun c h1 h2 => fr c (by omega)) (fun c hc => ?_) ?_ ?_ rfl h.2.2⟩, rc_rig b hB a2⟩
    · rw [fr _ (by unfold lvb at l; omega)]
    · rw [fr 6 (by decide)]; exact h9
    · rw [qtak_c (by omega) (by omega) (by omega) (by omega)]
      unfold qYE
      rw [sSt_ne (by omega), qYIt_c (by omega) (by omega) (by omega) (by omega)]
      unfold qY0
      rw [sSt_ne (by omega)]
      exact qlN_b N (by omega)
    · rw [qtak_j (by decide) (by decide)]
      unfold qYE
      rw [sSt_nj (by decide), qYIt_j (by decide) (by decide)]
      unfold qY0
      rw [sSt_nj (by decide)]
      exact congrFun (qlN_b N (by decide)) 19
    · rw [qtak_j (by decide) (by decide)]
      unfold qYE
      rw [sSt_eq]
      exact h.2.2.2.2.2.2.symm
  · rw [if_neg z, if_neg z, if_neg z, if_neg z]
    exact ⟨(rel_bad hT h).1, rfl⟩
/-! gulls -/
theorem kfr_g : ∀ x, x < 1321 → kfr 10 ((x : Nat) : Int) 10 = (((x / Nat.gcd x 10 : Nat) : Int), ((10 / Nat.gcd x 10 : Nat) : Int)) := by decide +kernel
theorem sumI_c {f g : Nat → Int} : ∀ {n : Nat}, (∀ s, s < n → f s = g s) → sumI f n = sumI g n
  | 0, _ => rfl
  | n + 1, h => by
    show sumI f n + f n = sumI g n + g n
    rw [sumI_c (fun s hs => h s (by omega)), h n (Nat.lt_succ_self n)]
theorem e_gul (hT : TInv M) (h : RelC M N 1) : qgS N = gulS M := by
  unfold qgS gulS
  rw [rc_n h]
  exact sumI_c (fun s hs => if_c3 (rc_ad hT ho1 h hs) (fun _ => rc_wei h hs) (fun _ => rfl))
theorem s_gulls (hT : TInv M) (h : Rel M N L) (c : Int) : Rel (mGulls M c) (qB N (0 ≤ c ∧ c ≤ 10)) (qmGulls L N c) := by
  unfold mGulls qB qmGulls
  by_cases z : 0 ≤ c ∧ c ≤ 10
  · rw [if_pos z, if_pos z, if_pos z, e_gul hT h.1.1]
    have hg := gulS_r hT
    have hx : (gulS M).toNat * (10 - c).toNat < 1321 := Nat.lt_of_le_of_lt (Nat.mul_le_mul (show (gulS M).toNat ≤ 132 by omega) (show (10 - c).toNat ≤ 10 by omega)) (by decide)
    have ex : gulS M * (10 - c) = (((gulS M).toNat * (10 - c).toNat : Nat) : Int) := by
      rw [Int.natCast_mul, Int.toNat_of_nonneg hg.1, Int.toNat_of_nonneg (by omega)]
    rw [ex]
    generalize (gulS M).toNat * (10 - c).toNat = q at hx
    rw [kfr_g q hx]
    have b1 : q / Nat.gcd q 10 ≤ q := Nat.div_le_self _ _
    have b2 : 10 / Nat.gcd q 10 ≤ 10 := Nat.div_le_self _ _
    unfold qFr
    generalize q / Nat.gcd q 10 = u at b1 ⊢
    generalize 10 / Nat.gcd q 10 = v at b2 ⊢
    obtain ⟨hx, h9, a, b, _, ⟨d1, d2⟩, f⟩ := h
    have e : ∀ v w y, y ≠ 0 → mFrac M (v, w) y = M y := fun v w y hy => by
      unfold mFrac
      rw [sSt_ne hy, sSt_ne hy]
    refine ⟨rx_cg hT ho1 (fun i j l => by rw [e _ _ _ (by omega)]) (fun _ _ _ => rfl) hx, by rw [e _ _ 6 (by decide)]; exact h9, by rw [e _ _ 195 (by decide), e _ _ 196 (by decide)]; exact a, b, ⟨?_, ?_⟩,
      ⟨relI_cg (by decide) hT (fun c h1 h2 => e _ _ c (by omega)) rfl rfl d1, relI_cg (by decide) hT (fun c h1 h2 => e _ _ c (by omega)) rfl rfl d2⟩, f⟩
    · show sSl (sSl L 258 31 _) 258 32 _ 258 31 = (sI ((u : Nat) : Int)).toInt64
      rw [sI_l (by omega) (by omega), Int.toNat_natCast]; rfl
    · show sSl (sSl L 258 31 _) 258 32 _ 258 32 = (sI ((v : Nat) : Int)).toInt64
      rw [sI_l (by omega) (by omega), Int.toNat_natCast, sSl_eq]
  · rw [if_neg z, if_neg z, if_neg z]
    exact (rel_bad hT h).1
theorem e_part (h : Rel M N L) (w : Int) : qrPart N L w = rPart M w := by
  unfold qrPart rPart
  obtain ⟨c1, c2⟩ := h.2.2.2.2.1
  rw [c1, c2]
end RJ
