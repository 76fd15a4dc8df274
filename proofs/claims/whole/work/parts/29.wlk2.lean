/-! the soonest walk, found -/
def wL (M : sM) (souls : Nat) : Nat := bits (fun s => souls.testBit s = true ∧ adr M 1 s) (nS M 1)
def wly (M : sM) (left t c : Nat) : Nat := bits (fun s => left.testBit s = true ∧ driN (M 2) t (M 7 s) = (c : Int)) (nS M 1)
def wx (M : sM) (souls : Nat) : Nat := (M 6 3).toNat * 64 + wL M souls
def wB (M : sM) (souls T v : Nat) : Prop := wBest (wly M (wL M souls)) (wx M souls) T v
def wFndP (M : sM) (souls : Nat) : Prop := ∃ T v, T ≤ 20 ∧ wB M souls T v
noncomputable def wFndB (M : sM) (souls : Nat) : Bool := @decide (wFndP M souls) (Classical.propDecidable _)
abbrev wFnd (M : sM) (souls : Nat) : Prop := wFndB M souls = true
theorem wFnd_i {M : sM} {souls : Nat} : wFnd M souls ↔ wFndP M souls := @decide_eq_true_iff _ (Classical.propDecidable _)
def clR (M : sM) (k : Nat) : Nat → Int := fun s => if s < k then M 7 s else M 251 s
theorem clR_0 (M : sM) : M = sSr M 251 (clR M 0) := by
  funext c j
  rw [sSr_at]
  by_cases hc : c = 251
  · rw [if_pos hc, hc]; rfl
  · rw [if_neg hc]
theorem clR_s (M : sM) (k : Nat) : sSt (sSr M 251 (clR M k)) 251 k (M 7 k) = sSr M 251 (clR M (k + 1)) := by
  funext c j
  rw [sSt_at, sSr_at, sSr_at]
  unfold clR
  by_cases hc : c = 251
  · rw [if_pos hc, if_pos hc]
    by_cases hj : j = k
    · rw [if_pos ⟨hc, hj⟩, if_pos (by omega), hj]
    · rw [if_neg (fun z => hj z.2)]
      exact if_congr' (by omega)
  · rw [if_neg hc, if_neg hc, if_neg (fun z => hc z.1)]
theorem wL_r {M : sM} (hT : TInv M) (souls : Nat) : wL M souls < 64 := bits_lt6 _ (nS_r hT (Or.inl rfl)).1
theorem wL_t {M : sM} {souls s : Nat} (h : (wL M souls).testBit s = true) : s < nS M 1 ∧ souls.testBit s = true ∧ adr M 1 s := by
  unfold wL at h
  rw [bits_t] at h
  have := of_decide_eq_true h
  exact ⟨this.1, this.2.1, this.2.2⟩
theorem wly_lt {M : sM} (hT : TInv M) (left t c : Nat) : wly M left t c < 64 := bits_lt6 _ (nS_r hT (Or.inl rfl)).1
theorem wx_r {M : sM} (hT : TInv M) (souls : Nat) : wx M souls < 768 ∧ wx M souls % 64 = wL M souls := by
  have h1 := wL_r hT souls
  have h2 : _ ≤ M 6 3 ∧ M 6 3 ≤ _ := tv_comber hT (o := 1) (Or.inl rfl)
  unfold wx
  omega
theorem runC_lt {lyt : Nat → Nat → Nat} {x : Nat} (hx : x < 768) : ∀ t v, runC lyt x t v < 768
  | 0, _ => hx
  | t + 1, v => stpC_lt _ _ _
def wfr (M : sM) (L : sL) (t : Nat) (M1 : sM) (L1 : sL) : Prop :=
  (∀ c, c < 245 ∨ 252 < c → M1 c = M c) ∧ M1 245 7 = M 245 7 + t ∧ M1 245 9 = t ∧ (∀ j, M1 250 j ≤ M1 245 7) ∧ (∀ c, c ≠ 245 → c ≠ 248 → c ≠ 249 → L1 c = L c)
def wf0 (M : sM) (souls t n : Nat) (cs vs : Nat → Nat) (M1 : sM) (L1 : sL) : Prop :=
  n ≤ 768 ∧ M1 245 8 = (n : Int) ∧ (∀ i, i < n → M1 246 i = (cs i : Int)) ∧ (∀ i, i < n → L1 248 i = lN (vs i)) ∧ lvI (wly M (wL M souls)) (wx M souls) t n cs vs ∧
    (∀ s, s < nS M 1 → (wL M souls).testBit s = true → M1 251 s = driN (M 2) t (M 7 s))
def wfI (M : sM) (souls t : Nat) (b : Int) (M1 : sM) (L1 : sL) : Prop :=
  (b = 0 ∧ ∃ n cs vs, wf0 M souls t n cs vs M1 L1) ∨ (b = 1 ∧ ∃ v, wB M souls t v ∧ L1 245 10 = lN v)
theorem lN_0 : (0 : Int64) = lN 0 := rfl
theorem wfI_0 {M : sM} {L : sL} (hT : TInv M) (souls : Nat) (hs : ∀ j, M 250 j ≤ M 245 7) {b : Int} (hb : (b = 1 ∧ wL M souls = 0) ∨ (b = 0 ∧ wL M souls ≠ 0)) :
    wfI M souls 0 b (sSt (sSt (sSt (sSr M 251 (clR M (nS M 1))) 246 0 (wx M souls : Nat)) 245 8 1) 245 9 0) (sSl (sSl L 245 10 0) 248 0 0) ∧
    wfr M L 0 (sSt (sSt (sSt (sSr M 251 (clR M (nS M 1))) 246 0 (wx M souls : Nat)) 245 8 1) 245 9 0) (sSl (sSl L 245 10 0) 248 0 0) := by
  have hx := wx_r hT souls
  refine ⟨?_, fun c hc => ?_, ?_, ?_, fun j => ?_, fun c h1 h2 h3 => ?_⟩
  · rcases hb with ⟨z1, z2⟩ | ⟨z1, z2⟩
    · refine Or.inr ⟨z1, 0, ⟨Nat.one_pos, ?_, fun u hu => absurd hu (Nat.not_lt_zero u), fun S hS => absurd hS (Nat.not_lt_zero S)⟩, ?_⟩
      · show wx M souls % 64 = 0
        rw [hx.2, z2]
      · rw [sSl_ne (by decide), sSl_at, if_pos ⟨rfl, rfl⟩]; rfl
    · refine Or.inl ⟨z1, 1, (fun _ => wx M souls), (fun _ => 0), by decide, ?_, fun i hi => ?_, fun i hi => ?_, lvI_0 (by rw [hx.2]; exact z2), fun s hs hb => ?_⟩
      · rw [sSt_nj (by decide), sSt_eq]; rfl
      · obtain rfl : i = 0 := by omega
        rw [sSt_ne (by decide), sSt_ne (by decide), sSt_eq]
      · obtain rfl : i = 0 := by omega
        rw [sSl_at, if_pos ⟨rfl, rfl⟩]; rfl
      · rw [sSt_ne (by decide), sSt_ne (by decide), sSt_ne (by decide), sSr_eq]
        exact if_pos hs
  · rw [sSt_ne (by omega), sSt_ne (by omega), sSt_ne (by omega), sSr_ne (by omega)]
  · rw [sSt_nj (by decide), sSt_nj (by decide), sSt_ne (by decide), sSr_ne (by decide)]; omega
  · exact sSt_eq
  · rw [sSt_ne (by decide), sSt_ne (by decide), sSt_ne (by decide), sSr_ne (by decide), sSt_nj (by decide), sSt_nj (by decide), sSt_ne (by decide), sSr_ne (by decide)]
    exact hs j
  · rw [sSl_ne h2, sSl_ne h1]
/-- the souls lie where the steps look for them -/
theorem wf0_ly {M : sM} {souls t n : Nat} {cs vs : Nat → Nat} {M1 : sM} {L1 : sL} (h : wf0 M souls t n cs vs M1 L1) (c : Nat) : lyS M1 (wL M souls) (nS M 1) c = wly M (wL M souls) t c := by
  unfold lyS wly
  refine bits_c (fun s hs => ⟨fun z => ⟨z.1, ?_⟩, fun z => ⟨z.1, ?_⟩⟩)
  · rw [← h.2.2.2.2.2 s hs z.1]; exact z.2
  · rw [h.2.2.2.2.2 s hs z.1]; exact z.2
theorem wf0_c {M : sM} (hT : TInv M) {souls t n : Nat} {cs vs : Nat → Nat} {M1 : sM} {L1 : sL} (h : wf0 M souls t n cs vs M1 L1) {s : Nat} (hb : (wL M souls).testBit s = true) : 0 ≤ M1 251 s := by
  obtain ⟨h1, _, h2⟩ := wL_t hb
  have h3 : _ ≤ M 7 s ∧ M 7 s ≤ _ := tv_cell hT (o := 1) (Or.inl rfl) s
  have h4 : M 7 s ≠ -1 := h2
  rw [h.2.2.2.2.2 s h1 hb]
  exact (driN_r _ (by omega) t).1
/-- one step more -/
theorem wfI_s {M : sM} {L : sL} {souls t n : Nat} {cs vs : Nat → Nat} {M1 M3 : sM} {L1 L3 : sL} {b : Int} (h : wf0 M souls t n cs vs M1 L1) (hf : wfr M L t M1 L1)
    (hY : fnd (wly M (wL M souls) t) cs n → soY (wly M (wL M souls) t) cs vs n L3) (hF : ¬ fnd (wly M (wL M souls) t) cs n → soF (wly M (wL M souls) t) cs vs n M3 L3)
    (hX : soX (sSr M1 252 (lyR M1 (wL M souls) (nS M1 1))) L1 M3 L3) (hb : (b = 1 ∧ fnd (wly M (wL M souls) t) cs n) ∨ (b = 0 ∧ ¬ fnd (wly M (wL M souls) t) cs n)) :
    wfI M souls (t + 1) b (sSt (sSr M3 251 (drR M3 (wL M souls) (nS M3 1))) 245 9 ((t : Int) + 1)) L3 ∧ wfr M L (t + 1) (sSt (sSr M3 251 (drR M3 (wL M souls) (nS M3 1))) 245 9 ((t : Int) + 1)) L3 := by
  obtain ⟨f1, f2, f3, f4, f5⟩ := hf
  obtain ⟨x1, x2, x3, x4, x5⟩ := hX
  have m1 : M3 1 = M 1 := by rw [x1 1 (by omega), sSr_ne (by decide), f1 1 (by omega)]
  have m2 : M3 2 = M 2 := by rw [x1 2 (by omega), sSr_ne (by decide), f1 2 (by omega)]
  have m251 : M3 251 = M1 251 := by rw [x1 251 (by omega), sSr_ne (by decide)]
  have q7 : M3 245 7 = M 245 7 + t + 1 := by rw [x2, sSr_ne (by decide), f2]
  refine ⟨?_, fun c hc => ?_, ?_, ?_, fun j => ?_, fun c h1 h2 h3 => ?_⟩
  · rcases hb with ⟨z1, z2⟩ | ⟨z1, z2⟩
    · exact Or.inr ⟨z1, lvI_f h.2.2.2.2.1 (hY z2)⟩
    · obtain ⟨m, c2, v2, e1, e2, e3, e4, e5⟩ := hF z2
      refine Or.inl ⟨z1, m, c2, v2, e1, ?_, fun i hi => ?_, e5, lvI_s h.2.2.2.2.1 e2, fun s hs hb => ?_⟩
      · rw [sSt_nj (by decide), sSr_ne (by decide)]; exact e3
      · rw [sSt_ne (by decide), sSr_ne (by decide)]; exact e4 i hi
      · rw [sSt_ne (by decide), sSr_eq]
        unfold drR nS
        rw [m1, m2, m251, if_pos ⟨hs, hb⟩, h.2.2.2.2.2 s hs hb]
        rfl
  · rw [sSt_ne (by omega), sSr_ne (by omega), x1 c (by omega), sSr_ne (by omega), f1 c hc]
  · rw [sSt_nj (by decide), sSr_ne (by decide), q7]; omega
  · exact sSt_eq
  · rw [sSt_ne (by decide), sSr_ne (by decide), sSt_nj (by decide), sSr_ne (by decide)]
    exact x4 j
  · rw [x5 c h1 h2 h3, f5 c h1 h2 h3]
/-- what find leaves -/
def wEnd (M : sM) (L : sL) (souls : Nat) (M1 : sM) (L1 : sL) : Prop :=
  (wFnd M souls → ∃ T v, T ≤ 20 ∧ wB M souls T v ∧ M1 245 9 = (T : Int) ∧ L1 245 10 = lN v) ∧
  (∀ c, c < 245 ∨ 252 < c → M1 c = M c) ∧ M1 245 7 ≤ M 245 7 + 20 ∧ (∀ j, M1 250 j ≤ M1 245 7) ∧ (∀ c, c ≠ 245 → c ≠ 248 → c ≠ 249 → L1 c = L c)
theorem wEnd_i {M : sM} {L : sL} {souls t : Nat} {b : Int} {M1 : sM} {L1 : sL} (h : wfI M souls t b M1 L1) (hf : wfr M L t M1 L1) (ht : t ≤ 20) (hx : b = 1 ∨ t = 20) : sI b = sB (wFnd M souls) ∧ wEnd M L souls M1 L1 := by
  obtain ⟨f1, f2, f3, f4, f5⟩ := hf
  rcases h with ⟨z, n, cs, vs, _, _, _, _, hl, _⟩ | ⟨z, v, hv, hr⟩
  · have hn : ¬ wFnd M souls := fun y => by
      obtain ⟨T, v, hT, hb⟩ := wFnd_i.mp y
      exact hl.2.2.2 T (by omega) v hb.1 hb.2.1
    exact ⟨by rw [z]; exact sB_f hn, fun y => absurd y hn, f1, by omega, f4, f5⟩
  · have hy : wFnd M souls := wFnd_i.mpr ⟨t, v, ht, hv⟩
    exact ⟨by rw [z]; exact sB_t hy, fun _ => ⟨t, v, ht, hv, f3, hr⟩, f1, by omega, f4, f5⟩
theorem sB_ex (P : Prop) [Decidable P] : ∃ b : Int, sB P = sI b ∧ ((b = 1 ∧ P) ∨ (b = 0 ∧ ¬ P)) := by
  by_cases h : P
  · exact ⟨1, (sB_t h).symm, Or.inl ⟨rfl, h⟩⟩
  · exact ⟨0, (sB_f h).symm, Or.inr ⟨rfl, h⟩⟩
theorem lN_div {v : Nat} (h : v < 9000000000000000000) : lN v / 3 = lN (v / 3) := by
  rw [show (3 : Int64) = lN 3 from by decide +kernel, pk_lDiv (by omega) (by decide) (by decide)]
theorem lN_rem {v : Nat} (h : v < 9000000000000000000) : (lN v - lN v / 3 * 3).toInt32 = sI ((v % 3 : Nat) : Int) := by
  rw [show (3 : Int64) = lN 3 from by decide +kernel, pk_lRem (by omega) (by decide) (by decide), lN_i, sI_nI]
theorem p3_20 {T v : Nat} (h : T ≤ 20) (hv : v < 3 ^ T) : v < 9000000000000000000 := Nat.lt_of_lt_of_le hv (Nat.le_trans (Nat.pow_le_pow_right (by decide) h) (by decide))
/-- the digits of a number in threes, from the last -/
def dv3 (v : Nat) : Nat → Nat
  | 0 => v
  | n + 1 => dv3 v n / 3
theorem dv3_le (v : Nat) : ∀ n, dv3 v n ≤ v
  | 0 => Nat.le_refl v
  | n + 1 => Nat.le_trans (Nat.div_le_self _ _) (dv3_le v n)
abbrev okWalk (M : sM) (a k : Int) : Prop := (0 ≤ a ∧ a < ((2 ^ nS M 1 : Nat) : Int)) ∧ (-2 = k ∨ 0 ≤ k)
/-- the answer of walk -/
def wAns (M : sM) (a k r : Int) : Prop :=
  (¬ wFnd M a.toNat ∧ r = -6) ∨ (∃ T v, T ≤ 20 ∧ wB M a.toNat T v ∧ r = if k = -2 then (T : Int) else if k < T then ((dv3 v (T - 1 - k.toNat) % 3 : Nat) : Int) else -5)
theorem pw_s {n : Nat} (h : n ≤ 6) : (2 : Nat) ^ n ≤ 64 := Nat.pow_le_pow_right (n := 2) (by decide) h
