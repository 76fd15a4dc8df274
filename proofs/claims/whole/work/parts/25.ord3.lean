/-- what is gone through: how many, the row, the shelf, what each row gives, what all hope for -/
def ordN (M : sM) : Nat := frC (bHeld M 1) (nC M 1)
def ordR (M : sM) : Nat → Int := frR (M 254) (bHeld M 1) (nC M 1)
def ordS (M : sM) : Nat := shlB M (nS M 1)
def ordV (M : sM) (k : Nat) : Int := obO (fun s i => bDst M 1 s i) (rowN (ordR M) (ordN M) k) (ordS M) (ordN M)
def ordH (M : sM) : Int := cnt (fun q => (ordS M).testBit (ordR M q).toNat = true) (ordN M)
theorem ordN_r {M : sM} (hT : TInv M) : ordN M ≤ nC M 1 ∧ ordN M ≤ 6 := by
  have h1 := frC_le (bHeld M 1) (nC M 1)
  have h2 := nC_r hT (Or.inl rfl)
  unfold ordN
  omega
theorem ordS_r {M : sM} (hT : TInv M) : ordS M < 64 ∧ ordS M < 2 ^ nS M 1 := ⟨bits_lt6 _ (nS_r hT (Or.inl rfl)).1, bits_lt _ _⟩
theorem ordV_r {M : sM} (hT : TInv M) (k : Nat) : 0 ≤ ordV M k ∧ ordV M k ≤ 6 := by
  have h1 := obO_r (fun s i => bDst M 1 s i) (rowN (ordR M) (ordN M) k) (ordS M) (ordN M)
  have h2 := ordN_r hT
  unfold ordV
  omega
theorem ordH_r {M : sM} (hT : TInv M) : 0 ≤ ordH M ∧ ordH M ≤ 6 := by
  have h1 := cnt_r (fun q => (ordS M).testBit (ordR M q).toNat = true) (ordN M)
  have h2 := ordN_r hT
  unfold ordH
  omega
/-- behind k rows -/
def oI (M : sM) (k : Nat) (M1 : sM) : Prop :=
  (∀ c, c < 253 ∨ 256 < c → M1 c = M c) ∧ M1 253 3 = (ordS M : Int) ∧ M1 253 4 = (ordN M : Int) ∧ M1 253 6 = ordH M ∧ M1 253 5 = mxV (ordV M) k ∧
    (∀ s i, s < nS M 1 → i < nC M 1 → M1 256 (i * 6 + s) = bDst M 1 s i) ∧ (k = 0 ∨ ∀ j, j < ordN M → M1 255 j = rowN (ordR M) (ordN M) (mxI (ordV M) k) j)
theorem oI_n {M M1 : sM} {k : Nat} (hT : TInv M) (h : oI M k M1) (hv : ¬ ordV M k > mxV (ordV M) k) : oI M (k + 1) M1 := by
  obtain ⟨h1, h2, h3, h4, h5, h6, h7⟩ := h
  refine ⟨h1, h2, h3, h4, h5.trans (if_neg hv).symm, h6, Or.inr ?_⟩
  rcases h7 with z | z
  · have := ordV_r hT k
    rw [z] at hv this
    exact absurd (show ordV M 0 > -1 by omega) hv
  · intro j hj
    rw [z j hj, show mxI (ordV M) (k + 1) = mxI (ordV M) k from if_neg hv]
theorem oI_y {M M1 : sM} {k : Nat} (h : oI M k M1) (hr : M1 254 = rowN (ordR M) (ordN M) k) (hv : ordV M k > mxV (ordV M) k) : oI M (k + 1) (sCpy (sSt M1 253 5 (ordV M k)) 254 255 0 0 (ordN M)) := by
  obtain ⟨h1, h2, h3, h4, h5, h6, h7⟩ := h
  refine ⟨fun c hc => ?_, ?_, ?_, ?_, ?_, fun s i hs hi => ?_, Or.inr fun j hj => ?_⟩
  · rw [sCpy_ne (by omega), sSt_ne (by omega)]; exact h1 c hc
  · rw [sCpy_ne (by decide), sSt_nj (by decide)]; exact h2
  · rw [sCpy_ne (by decide), sSt_nj (by decide)]; exact h3
  · rw [sCpy_ne (by decide), sSt_nj (by decide)]; exact h4
  · rw [sCpy_ne (by decide), sSt_eq]; exact (if_pos hv).symm
  · rw [sCpy_ne (by decide), sSt_ne (by decide)]; exact h6 s i hs hi
  · rw [sCpy_at, if_pos ⟨rfl, hj⟩, sSt_ne (by decide), hr, show mxI (ordV M) (k + 1) = k from if_pos hv]
theorem oI_r {M M1 : sM} {k : Nat} (h : oI M k M1) (q : Nat → Int) : oI M k (sSr M1 254 q) := by
  obtain ⟨h1, h2, h3, h4, h5, h6, h7⟩ := h
  refine ⟨fun c hc => ?_, ?_, ?_, ?_, ?_, fun s i hs hi => ?_, ?_⟩
  · rw [sSr_ne (by omega)]; exact h1 c hc
  · rw [sSr_ne (by decide)]; exact h2
  · rw [sSr_ne (by decide)]; exact h3
  · rw [sSr_ne (by decide)]; exact h4
  · rw [sSr_ne (by decide)]; exact h5
  · rw [sSr_ne (by decide)]; exact h6 s i hs hi
  · rw [sSr_ne (by decide)]; exact h7
theorem oI_v {M M1 : sM} {k : Nat} (hT : TInv M) (h : oI M k M1) (hr : M1 254 = rowN (ordR M) (ordN M) k) : obO (fun s i => M1 256 (i * 6 + s)) (M1 254) (M1 253 3).toNat (ordN M) = ordV M k := by
  have hS := ordS_r hT
  have hi : rIn (ordN M) (nC M 1) (rowN (ordR M) (ordN M) k) := rowN_in (frR_in _ _ _) k
  rw [h.2.1, hr, Int.toNat_natCast]
  exact (ob_cg hS.1 hS.2 (fun s i hs hi => h.2.2.2.2.2.1 s i hs hi) _ (fun j hj => ⟨rfl, (hi j hj).2⟩)).2
theorem shlB_cg {M N : sM} {k : Nat} (h7 : M 7 = N 7) (h8 : M 8 = N 8) : shlB M k = shlB N k := by
  unfold shlB
  refine bits_c (fun s _ => ?_)
  show (M 7 s = -1 ∧ M 8 s = -1) ↔ _
  rw [h7, h8]
theorem oI_0 {M M1 : sM} (hT : TInv M) (hf : ∀ c, c ≠ 256 → M1 c = mMe (mLF M (nC M 1)) (shlB (mLF M (nC M 1)) (nS (mLF M (nC M 1)) 1) : Nat) (hpN (mLF M (nC M 1)) (shlB (mLF M (nC M 1)) (nS (mLF M (nC M 1)) 1)) (ordN M)) c)
    (hv : ∀ s i, s < nS (mLF M (nC M 1)) 1 → i < nC (mLF M (nC M 1)) 1 → M1 256 (i * 6 + s) = bDst (mLF M (nC M 1)) 1 s i) : oI M 0 (sSt M1 253 5 (-1)) ∧ sSt M1 253 5 (-1) 254 = ordR M := by
  have e1 : mLF M (nC M 1) 1 = M 1 := mLF_ne (by decide)
  have eS : shlB (mLF M (nC M 1)) (nS (mLF M (nC M 1)) 1) = ordS M := by
    unfold ordS nS
    rw [e1]
    exact shlB_cg (mLF_ne (by decide)) (mLF_ne (by decide))
  have eR : mLF M (nC M 1) 254 = ordR M := sSr_eq
  rw [eS] at hf
  have eH : hpN (mLF M (nC M 1)) (ordS M) (ordN M) = ordH M := by
    unfold hpN ordH
    rw [eR]
  rw [eH] at hf
  refine ⟨⟨fun c hc => ?_, ?_, ?_, ?_, ?_, fun s i hs hi => ?_, Or.inl rfl⟩, ?_⟩
  · rw [sSt_ne (by omega), hf c (by omega), mMe_ne (by omega)]
    unfold mLF
    rw [sSr_ne (by omega), sSt_ne (by omega)]
  · rw [sSt_nj (by decide), hf 253 (by decide), mMe_3]
  · rw [sSt_nj (by decide), hf 253 (by decide), mMe_4, mLF_4]; rfl
  · rw [sSt_nj (by decide), hf 253 (by decide), mMe_6]
  · exact sSt_eq
  · rw [sSt_ne (by decide), hv s i (by unfold nS; rw [e1]; exact hs) (by unfold nC; rw [e1]; exact hi)]
    exact bDst_cg (fun c h1 h2 => mLF_ne (by omega))
  · rw [sSt_ne (by decide), hf 254 (by decide), mMe_ne (by decide), eR]
/-- what find leaves: some rows gone through, and no better one behind them -/
def oEnd (M : sM) (K : Nat) : Prop := 1 ≤ K ∧ K ≤ 720 ∧ (K = 720 ∨ ordH M ≤ mxV (ordV M) K ∨ ¬ hasN (rowN (ordR M) (ordN M) (K - 1)) (ordN M))
def oRes (M : sM) (K : Nat) (M1 : sM) : Prop :=
  oEnd M K ∧ (∀ c, c < 253 ∨ 256 < c → M1 c = M c) ∧ M1 253 4 = (ordN M : Int) ∧ M1 253 5 = mxV (ordV M) K + bRig M 1 ∧ (∀ j, j < ordN M → M1 255 j = rowN (ordR M) (ordN M) (mxI (ordV M) K) j)
theorem bRig_cg {M N : sM} {o : Nat} (h : ∀ c, o ≤ c → c < o + 48 → M c = N c) : bRig M o = bRig N o := by
  unfold bRig nS
  rw [h o (by omega) (by omega), h (o + 7) (by omega) (by omega)]
theorem oRes_i {M M1 : sM} {K : Nat} (h : oI M K M1) (he : oEnd M K) : oRes M K (sSt M1 253 5 (mxV (ordV M) K + bRig M 1)) := by
  obtain ⟨h1, h2, h3, h4, h5, h6, h7⟩ := h
  refine ⟨he, fun c hc => ?_, ?_, ?_, fun j hj => ?_⟩
  · rw [sSt_ne (by omega)]; exact h1 c hc
  · rw [sSt_nj (by decide)]; exact h3
  · exact sSt_eq
  · rw [sSt_ne (by decide)]
    rcases h7 with z | z
    · have := he.1; omega
    · exact z j hj
