/-! tides, walks, calls, returns, undo -/
section RG
variable {M N : sM} {L : sL}
abbrev hrC (M : sM) (o : Nat) : Prop := ∀ s, -1 ≤ M (o + 6) s ∧ M (o + 6) s ≤ 11
theorem hr_flo {o : Nat} (h : hrC M o) : hrC (bFlo M o) o := by
  intro s
  unfold bFlo
  rw [sSt_ne (by omega), flN_at, if_neg (by omega), if_pos rfl]
  unfold flC
  split
  · have := dri_r (M (o + 1)) (M (o + 6) s); omega
  · exact h s
theorem hr_gat {o : Nat} (d : Int) (h : hrC M o) : hrC (bGat M o d) o := by
  intro s
  unfold bGat
  rw [gaN_at, if_neg (by omega), if_pos rfl]
  unfold gaC
  split
  · omega
  · exact h s
theorem rem_c {c : Nat} (h1 : c ≠ 1) (h : c < 17 ∨ 49 ≤ c) : bRem M 1 c = M c := funext fun j => bRem_ne (by omega) (by omega)
theorem rem_j {j : Nat} (h : j ≠ 11) : bRem M 1 1 j = M 1 j := bRem_ne (by omega) (by omega)
theorem rem_11 (hT : TInv M) : bRem M 1 1 11 ≤ 8 := by
  have := nU_r hT ho1
  unfold bRem
  split
  · rw [sSt_eq]; omega
  · rw [sSt_eq]; decide
theorem not_c {c : Nat} (h1 : c ≠ 258) (h : c ≠ 272) : qNot N c = N c := by
  unfold qNot
  split
  · rw [sSt_ne h1]
    unfold qLay
    rw [qlN_b _ h, sSt_ne h1]
    unfold qsN
    rw [sSr_ne h]
  · rw [sSt_ne h1]; exact qlN_b _ h
theorem not_j {j : Nat} (h1 : j ≠ 25) : qNot N 258 j = N 258 j := by
  unfold qNot
  split
  · rw [sSt_nj h1]
    unfold qLay
    rw [qlN_b _ (by decide), sSt_nj h1]
    unfold qsN
    rw [sSr_ne (by decide)]
  · rw [sSt_nj h1]; exact congrFun (qlN_b _ (by decide)) j
theorem x_rem (hT : TInv M) (h : RelX M N 1) (h9 : M 6 4 ≤ 999) : RelX (bRem M 1) (qNot N) 1 ∧ hrC (bRem M 1) 1 ∧ bRem M 1 6 4 = M 6 4 ∧ bRem M 1 1 11 ≤ 8 := by
  obtain ⟨q1, q2⟩ := rct_cg (M' := bRem M 1) (N' := qNot N) hT (fun c j h1 h2 h3 => bRem_ne (by omega) h3) (fun k j h1 h2 h3 => by
    by_cases e : k = 258
    · subst e; exact not_j (by omega)
    · rw [not_c e (by omega)]) h
  refine ⟨⟨q1, q2, ru_push hT h h9⟩, fun s => ?_, by rw [rem_c (by decide) (by decide)], rem_11 hT⟩
  rw [rem_c (by decide) (by decide)]
  exact tv_cell hT ho1 s
theorem flo_c {o c : Nat} (h5 : c ≠ o + 5) (h6 : c ≠ o + 6) (h8 : c ≠ o + 8) : ∀ k, bFlos M o k c = M c
  | 0 => rfl
  | k + 1 => (bFlo_ne h5 h6 h8).trans (flo_c h5 h6 h8 k)
theorem qPas_c {c : Nat} (h1 : c ≠ 258) (h2 : c ≠ 263) (h3 : c ≠ 265) : qPas N c = N c := by
  unfold qPas qpN
  rw [sSt_ne h1, sSr_ne h3, sSr_ne h2]
theorem qPas_j {j : Nat} (h : j ≠ 3) : qPas N 258 j = N 258 j := by
  unfold qPas qpN
  rw [sSt_nj h, sSr_ne (by decide), sSr_ne (by decide)]
theorem qPs_c {c : Nat} (h1 : c ≠ 258) (h2 : c ≠ 263) (h3 : c ≠ 265) : ∀ k, qPs N k c = N c
  | 0 => rfl
  | k + 1 => (qPas_c h1 h2 h3).trans (qPs_c h1 h2 h3 k)
theorem qPs_j {j : Nat} (h : j ≠ 3) : ∀ k, qPs N k 258 j = N 258 j
  | 0 => rfl
  | k + 1 => (qPas_j h).trans (qPs_j h k)
theorem x_flo (hr : hrC M 1) (h8 : M 1 11 ≤ 8) (h : RelX M N 1) : RelX (bFlo M 1) (qPas N) 1 :=
  ⟨rc_flo (Or.inl rfl) hr h.1, h.2.1, ru_cg (fun c h1 h2 => bFlo_ne (by omega) (by omega) (by omega)) rfl rfl rfl rfl rfl h8 h.2.2⟩
theorem x_flos (hr : hrC M 1) (h8 : M 1 11 ≤ 8) (h : RelX M N 1) : ∀ k, RelX (bFlos M 1 k) (qPs N k) 1 ∧ hrC (bFlos M 1 k) 1
  | 0 => ⟨h, hr⟩
  | k + 1 => by
    obtain ⟨a, b⟩ := x_flos hr h8 h k
    exact ⟨x_flo b (by rw [flo_c (by omega) (by omega) (by omega)]; exact h8) a, hr_flo b⟩
theorem adc_r {o : Nat} (hr : hrC M o) (h : RelC M N o) : qAdC N = bAdC M o := by
  unfold qAdC bAdC qCnt
  rw [rc_n h]
  refine cnt_3 (fun s hs => ?_)
  have h1 := (h.2.2.2.2.1 s hs).1
  have h2 := (hr s).1
  rw [h1, plc_s h2, plc_h h2]
  unfold adr
  omega
theorem s_tides (hT : TInv M) (h : Rel M N L) (n : Int) : Rel (mTides M n) (qmTides N n) L ∧ qrTides N n = rTides M n := by
  unfold mTides qmTides qrTides rTides
  by_cases z : 1 ≤ n ∧ n ≤ 60
  · rw [if_pos z, if_pos z, if_pos z, if_pos z]
    obtain ⟨x1, x2, x3, x4⟩ := x_rem hT h.1 h.2.1
    have e3 : qNot N 258 3 = bRem M 1 (1 + 5) 4 := x1.1.1.2.2.1
    have h9 := h.2.1
    have x3' : bRem M 1 (1 + 5) 4 = M 6 4 := x3
    have e4 : qPt (qNot N) n.toNat = qPs (qNot N) (min n.toNat (999 - bRem M 1 (1 + 5) 4).toNat) := by unfold qPt; rw [e3]
    obtain ⟨a, b⟩ := x_flos x2 x4 x1 (min n.toNat (999 - bRem M 1 (1 + 5) 4).toNat)
    unfold bPas
    rw [e4]
    refine ⟨⟨a, ?_, rest_b hT (fun c hc => ?_) (fun c hc => ?_) ?_ ?_ h.2.2⟩, adc_r b a.1⟩
    · show bFlos _ _ _ (1 + 5) 4 ≤ 999
      rw [bFlos_tide, x3']; omega
    · rw [flo_c (by omega) (by omega) (by omega), rem_c (by omega) (by omega)]
    · rw [qPs_c (by omega) (by omega) (by omega), not_c (by omega) (by omega)]
    · rw [qPs_j (by decide), not_j (by decide)]
    · rw [qPs_j (by decide), not_j (by decide)]
  · rw [if_neg z, if_neg z, if_neg z, if_neg z]
    exact ⟨(rel_bad hT h).1, rfl⟩
theorem qGa_c {c : Nat} {d : Int} (h1 : c ≠ 258) (h2 : c ≠ 263) (h3 : c ≠ 265) : qGa N d c = N c := by
  unfold qGa qgN
  rw [sSr_ne h3, sSr_ne h2, sSt_ne h1]
theorem qGa_j {j : Nat} {d : Int} (h : j ≠ 4) : qGa N d 258 j = N 258 j := by
  unfold qGa qgN
  rw [sSr_ne (by decide), sSr_ne (by decide), sSt_nj h]
theorem gat_c {c o : Nat} {d : Int} (h5 : c ≠ o + 5) (h6 : c ≠ o + 6) (h8 : c ≠ o + 8) : bGat M o d c = M c := by
  funext j
  unfold bGat
  rw [gaN_at, if_neg h8, if_neg h6, sSt_ne h5]
theorem gac_r {o : Nat} (d : Int) (h : RelC M N o) : qGoC N d = bGaC M o d := by
  unfold qGoC bGaC qCnt
  have ec : qCl N d = max 0 (min 11 (M (o + 5) 3 + d)) := by unfold qCl; rw [h.1.2.2.2]
  rw [rc_n h, ec]
  refine cnt_c (fun s hs => ?_)
  rw [(h.2.2.2.2.1 s hs).1]
  have := h.2.2.2.2.1 s hs
  unfold plc
  (repeat' split) <;> omega
theorem s_walks (hT : TInv M) (h : Rel M N L) (d : Int) : Rel (mWalks M d) (qmWalks N d) L ∧ qrWalks N d = rWalks M d := by
  unfold mWalks qmWalks qrWalks rWalks
  have h9 := h.2.1
  have e3 : N 258 3 = M 6 4 := h.1.1.1.2.2.1
  by_cases z : -1 ≤ d ∧ d ≤ 1
  · rw [if_pos z, if_pos z, if_pos z, if_pos z]
    by_cases z2 : M 6 4 < 999
    · rw [if_pos z2, if_pos z2, if_neg (by omega), if_neg (by omega)]
      obtain ⟨x1, x2, x3, x4⟩ := x_rem hT h.1 h9
      have g : RelX (bGat (bRem M 1) 1 d) (qGa (qNot N) d) 1 := ⟨rc_gat (Or.inl rfl) x2 d x1.1, x1.2.1, ru_cg (fun c h1 h2 => gat_c (by omega) (by omega) (by omega)) rfl rfl rfl rfl rfl x4 x1.2.2⟩
      have eg : qGo (qNot N) d = qPas (qGa (qNot N) d) := by
        unfold qGo
        rw [if_pos (Or.inl (by rw [qNot_3]; omega))]
      rw [eg]
      refine ⟨⟨x_flo (hr_gat d x2) (by rw [gat_c (by decide) (by decide) (by decide)]; exact x4) g, ?_, rest_b hT (fun c hc => ?_) (fun c hc => ?_) ?_ ?_ h.2.2⟩, gac_r d x1.1⟩
      · show bFlo _ 1 (1 + 5) 4 ≤ 999
        rw [bFlo_tide, bGat_tide]
        show bRem M 1 6 4 + 1 ≤ 999
        rw [x3]; omega
      · rw [bFlo_ne (by omega) (by omega) (by omega), gat_c (by omega) (by omega) (by omega), rem_c (by omega) (by omega)]
      · rw [qPas_c (by omega) (by omega) (by omega), qGa_c (by omega) (by omega) (by omega), not_c (by omega) (by omega)]
      · rw [qPas_j (by decide), qGa_j (by decide), not_j (by decide)]
      · rw [qPas_j (by decide), qGa_j (by decide), not_j (by decide)]
    · rw [if_neg z2, if_neg z2, if_pos (by omega), if_pos (by omega)]
      exact ⟨(rel_bad hT h).2.1, rfl⟩
  · rw [if_neg z, if_neg z, if_neg z, if_neg z]
    exact ⟨(rel_bad hT h).1, rfl⟩
theorem fst_0 {p : Nat → Prop} [DecidablePred p] : ∀ {n : Nat}, fst p n = -1 → ∀ k, k < n → ¬ p k
  | 0, _, k, hk => absurd hk (Nat.not_lt_zero k)
  | n + 1, h, k, hk => by
    unfold fst at h
    by_cases e : fst p n = -1
    · rw [if_pos e] at h
      by_cases hp : p n
      · rw [if_pos hp] at h; omega
      · by_cases hk2 : k = n
        · rw [hk2]; exact hp
        · exact fst_0 e k (by omega)
    · rw [if_neg e] at h
      exact absurd h e
theorem s_calls (hT : TInv M) (h : Rel M N L) (i : Int) : Rel (mCalls M i) (qmCalls N i) L ∧ qrCalls N i = rCalls M i := by
  unfold mCalls qmCalls qrCalls rCalls
  have h9 := h.2.1
  by_cases z : isCal M i
  · have zq : isQC N i := (rc_K h.1.1 i).mpr z
    have hi := isCal_n hT z
    have ec := rc_cho hT ho1 h.1.1 hi
    rw [if_pos z, if_pos z, if_pos zq, if_pos zq, ec]
    by_cases z2 : bCho M 1 i.toNat = -1
    · rw [if_pos z2, if_pos z2, if_pos z2]
      exact ⟨(rel_bad hT h).2.1, rfl⟩
    · rw [if_neg z2, if_neg z2, if_neg z2]
      obtain ⟨x1, x2, x3, x4⟩ := x_rem hT h.1 h9
      have hh : bHeld M 1 i.toNat = -1 := by
        unfold bCho at z2
        by_cases e : bHeld M 1 i.toNat = -1
        · exact e
        · rw [if_neg e] at z2; exact absurd rfl z2
      have en : bCho M 1 i.toNat = bNea M 1 i.toNat := if_pos hh
      have hp : shv M 1 (bCho M 1 i.toNat).toNat := by rw [en] at z2 ⊢; exact nea_p z2
      have hi0 : ((i.toNat : Nat) : Int) = i := by have := z.1; omega
      have t := rc_tk (M := bRem M 1) (N := qNot N) (o := 1) (Or.inl rfl) (s := (bCho M 1 i.toNat).toNat) (i := i.toNat) (by rw [rem_c (by decide) (by decide)]; exact hp.1)
        (by unfold nC; rw [rem_j (by decide)]; exact hi) (fun t ht => by
          unfold nS at ht
          rw [rem_j (by decide)] at ht
          rw [rem_c (by decide) (by decide)]
          exact fst_0 hh t ht) x1.1
      rw [hi0] at t
      have e8 : qTk (qNot N) i.toNat (bCho M 1 i.toNat).toNat = sSt (sSt (qNot N) 263 (bCho M 1 i.toNat).toNat (-2)) 264 (bCho M 1 i.toNat).toNat ((i.toNat : Nat) : Int) := rfl
      refine ⟨⟨⟨t, x1.2.1, ru_cg (fun c h1 h2 => sSt_ne (by omega)) rfl rfl rfl rfl rfl x4 x1.2.2⟩, by rw [sSt_ne (by decide), x3]; exact h9, rest_b hT (fun c hc => ?_) (fun c hc => ?_) ?_ ?_ h.2.2⟩, rfl⟩
      · rw [sSt_ne (by omega), rem_c (by omega) (by omega)]
      · rw [e8, sSt_ne (by omega), sSt_ne (by omega), not_c (by omega) (by omega)]
      · rw [e8, sSt_ne (by omega), sSt_ne (by omega), not_j (by omega)]
      · rw [e8, sSt_ne (by omega), sSt_ne (by omega), not_j (by omega)]
  · have zq : ¬ isQC N i := fun q => z ((rc_K h.1.1 i).mp q)
    rw [if_neg z, if_neg z, if_neg zq, if_neg zq]
    exact ⟨(rel_bad hT h).1, rfl⟩
theorem s_returns (hT : TInv M) (h : Rel M N L) (i : Int) : Rel (mReturns M i) (qmReturns N i) L ∧ qrReturns N i = rReturns M i := by
  unfold mReturns qmReturns qrReturns rReturns
  have h9 := h.2.1
  by_cases z : isCal M i
  · have zq : isQC N i := (rc_K h.1.1 i).mpr z
    have hi := isCal_n hT z
    have ec := rc_held h.1.1 i.toNat
    rw [if_pos z, if_pos z, if_pos zq, if_pos zq, ec]
    by_cases z2 : bHeld M 1 i.toNat = -1
    · rw [if_pos z2, if_pos z2, if_pos z2]
      exact ⟨(rel_bad hT h).2.1, rfl⟩
    · rw [if_neg z2, if_neg z2, if_neg z2]
      obtain ⟨x1, x2, x3, x4⟩ := x_rem hT h.1 h9
      obtain ⟨k, k1, k2, k3, _⟩ := fst_yes (p := fun s => M (1 + 7) s = (i.toNat : Nat)) (n := nS M 1) z2
      have ek : bHeld M 1 i.toNat = (k : Int) := k2
      have hc : M (1 + 6) k = -1 := by
        have := h.1.1.2.2.2.2.1 k k1
        omega
      rw [ek, Int.toNat_natCast]
      have t := rc_rt (M := bRem M 1) (N := qNot N) (s := k) (by rw [rem_c (by decide) (by decide)]; exact hc) x1.1
      refine ⟨⟨⟨t, x1.2.1, ru_cg (fun c h1 h2 => sSt_ne (by omega)) rfl rfl rfl rfl rfl x4 x1.2.2⟩, by rw [sSt_ne (by decide), x3]; exact h9, rest_b hT (fun c hc => ?_) (fun c hc => ?_) ?_ ?_ h.2.2⟩, rfl⟩
      · rw [sSt_ne (by omega), rem_c (by omega) (by omega)]
      · rw [sSt_ne (by omega), sSt_ne (by omega), not_c (by omega) (by omega)]
      · rw [sSt_ne (by omega), sSt_ne (by omega), not_j (by omega)]
      · rw [sSt_ne (by omega), sSt_ne (by omega), not_j (by omega)]
  · have zq : ¬ isQC N i := fun q => z ((rc_K h.1.1 i).mp q)
    rw [if_neg z, if_neg z, if_neg zq, if_neg zq]
    exact ⟨(rel_bad hT h).1, rfl⟩
theorem qtak_c {c b a : Nat} (h1 : c ≠ 258) (h2 : c ≠ 263) (h3 : c ≠ 264) (h4 : c ≠ 265) : qTak N b a c = N c := by
  unfold qTak qtN
  rw [sSr_ne h4, sSr_ne h3, sSr_ne h2, sSt_ne h1, sSt_ne h1]
theorem qtak_j {j b a : Nat} (h1 : j ≠ 3) (h2 : j ≠ 4) : qTak N b a 258 j = N 258 j := by
  unfold qTak qtN
  rw [sSr_ne (by decide), sSr_ne (by decide), sSr_ne (by decide), sSt_nj h2, sSt_nj h1]
/-- taken in: a moment -/
theorem rc_tak {M' N' : sM} {k a b : Nat} {x : Nat → Int} (hT : TInv M) (hb : 265 < b) (hx : N' b = x) (h : RelC M N 1) (hm : Mo1 M k x a (nS M 1) (nC M 1)) (h9 : M' 1 9 = M 1 9) (h10 : M' 1 10 = M 1 10) (hM : ∀ c, 2 ≤ c → c ≤ 5 → M' c = M c)
    (g3 : M' 6 3 = M k 3) (g4 : M' 6 4 = M k 4) (hc : ∀ i j, 1 ≤ i → i < 4 → j < 6 → M' (6 + i) j = M (k + i) j) (hN : ∀ c j, 258 ≤ c → c ≤ 266 → ¬ (c = 258 ∧ j = 25) → N' c j = N c j) : RelC M' (qTak N' b a) 1 := by
  obtain ⟨⟨c1, c2, c3, c4⟩, c5, c6, c7, c8⟩ := h
  obtain ⟨m1, m2, m3, m4⟩ := hm
  have r1 := nS_r hT ho1
  have n1 : nS M' 1 = nS M 1 := by unfold nS; rw [h9]
  have n2 : nC M' 1 = nC M 1 := by unfold nC; rw [h10]
  refine ⟨⟨?_, ?_, ?_, ?_⟩, fun c hc2 => ?_, fun s hs => ?_, fun s hs => ?_, ?_⟩
  · rw [qtak_j (by decide) (by decide), hN 258 1 (by decide) (by decide) (by decide), c1, h9]
  · rw [qtak_j (by decide) (by decide), hN 258 2 (by decide) (by decide) (by decide), c2, h10]
  · show N' b a = M' 6 4
    rw [hx, m1, g4]
  · show N' b (a + 1) = M' 6 3
    rw [hx, m2, g3]
  · rw [qtak_c (by decide) (by decide) (by decide) (by decide), hN 260 c (by decide) (by decide) (by omega), c5 c hc2, hM (1 + 1) (by decide) (by decide)]
  · rw [n1] at hs
    rw [qtak_c (by decide) (by decide) (by decide) (by decide), qtak_c (by decide) (by decide) (by decide) (by decide), hN 261 s (by decide) (by decide) (by omega), hN 262 s (by decide) (by decide) (by omega), hM (1 + 2) (by decide) (by decide), hM (1 + 3) (by decide) (by decide)]
    exact c6 s hs
  · rw [n2] at hs
    rw [qtak_c (by decide) (by decide) (by decide) (by decide), hN 266 s (by decide) (by decide) (by omega), hM (1 + 4) (by decide) (by decide)]
    exact c7 s hs
  · rw [n1, n2]
    refine moc_cg (fun s hs => ⟨hc 1 s (by decide) (by decide) (by omega), hc 2 s (by decide) (by decide) (by omega), hc 3 s (by decide) (by decide) (by omega), ?_, ?_, ?_⟩) m4
    · show (if s < 6 then N' b (a + 2 + s) else N' 263 s) = x (a + (2 + s))
      rw [if_pos (by omega), hx, Nat.add_assoc]
    · show (if s < 6 then N' b (a + 8 + s) else N' 264 s) = x (a + (8 + s))
      rw [if_pos (by omega), hx, Nat.add_assoc]
    · show (if s < 6 then N' b (a + 14 + s) else N' 265 s) = x (a + (14 + s))
      rw [if_pos (by omega), hx, Nat.add_assoc]
theorem s_undo (hT : TInv M) (h : Rel M N L) : Rel (mUndo M) (qmUndo N) L ∧ qrUndo N = rUndo M := by
  unfold mUndo qmUndo qrUndo rUndo
  have r3 := nU_r hT ho1
  have r1 := nS_r hT ho1
  have e25 : N 258 25 = M 1 11 := h.1.2.2.1
  have eu : qu N = nU M 1 := by unfold qu nU; rw [e25]
  by_cases z : 0 < M 1 11
  · rw [if_pos z, if_pos z, if_neg (by omega), if_neg (by omega)]
    have hU : nU M 1 - 1 < nU M 1 := by omega
    have mo := ru_mo h.1.2.2 hU
    have e17 : 1 + 16 + 4 * (nU M 1 - 1) = 17 + 4 * (nU M 1 - 1) := by omega
    have eM : bUnd M 1 = mCp (sSt M 1 11 (M 1 11 - 1)) 6 (17 + 4 * (nU M 1 - 1)) := by unfold bUnd; rw [e17]
    have eN : qUn N = qTak (sSt N 258 25 (N 258 25 - 1)) 272 (20 * (nU M 1 - 1)) := by unfold qUn; rw [eu]
    have g0 := mCp_0 (sSt M 1 11 (M 1 11 - 1)) 6 (17 + 4 * (nU M 1 - 1))
    rw [sSt_ne (by omega)] at g0
    have hc : RelC (bUnd M 1) (qUn N) 1 := by
      rw [eM, eN]
      refine rc_tak hT (by decide) (sSt_ne (by decide)) h.1.1 mo rfl rfl (fun c h1 h2 => ?_) g0.1 g0.2 (fun i j h1 h2 hj => ?_) (fun c j h1 h2 h3 => ?_)
      · rw [mCp_f _ _ _ (by omega), sSt_ne (by omega)]
      · rw [mCp_i _ _ _ h1 h2 hj, sSt_ne (by omega)]
      · rw [sSt_at, if_neg h3]
    have ht : RelT (bUnd M 1) (qUn N) 1 := by rw [eM, eN]; exact h.1.2.1
    have n3 : nU (bUnd M 1) 1 = nU M 1 - 1 := by
      show (M 1 11 - 1).toNat = (M 1 11).toNat - 1
      omega
    have n1 : nS (bUnd M 1) 1 = nS M 1 := rfl
    have n2 : nC (bUnd M 1) 1 = nC M 1 := rfl
    have hu : RelU (bUnd M 1) (qUn N) 1 := by
      refine mo_ru ?_ (fun u hu => ?_)
      · show N 258 25 - 1 = M 1 11 - 1
        rw [e25]
      · rw [n3] at hu
        rw [n1, n2, show qUn N 272 = N 272 from rfl]
        refine mo_cg ?_ (fun i j h1 h2 hj => ?_) (fun i hi => rfl) r1.1 (ru_mo h.1.2.2 (u := u) (by omega))
        · rw [eM, mCp_f _ _ _ (by omega), sSt_ne (by omega)]; exact ⟨rfl, rfl⟩
        · rw [eM, mCp_f _ _ _ (by omega), sSt_ne (by omega)]
    refine ⟨⟨⟨hc, ht, hu⟩, ?_, rest_b hT (fun c hc => ?_) (fun c hc => ?_) ?_ ?_ h.2.2⟩, ?_⟩
    · rw [eM, g0.2]; exact mo.2.2.1
    · rw [eM, mCp_f _ _ _ (by omega), sSt_ne (by omega)]
    · rw [eN, qtak_c (by omega) (by omega) (by omega) (by omega), sSt_ne (by omega)]
    · rw [eN, qtak_j (by decide) (by decide), sSt_nj (by decide)]
    · rw [eN, qtak_j (by decide) (by decide), sSt_nj (by decide)]
    · exact hc.1.2.2.1
  · rw [if_neg z, if_neg z, if_pos (by omega), if_pos (by omega)]
    exact ⟨(rel_bad hT h).2.1, rfl⟩
end RG
