/-! the reference: what changes it -/
def qBad (M : sM) : sM := sSt M 259 0 (M 259 0 + 1)
def qNo (M : sM) : sM := sSt M 259 1 (M 259 1 + 1)
def qFul (M : sM) : sM := sSt M 259 2 (M 259 2 + 1)
abbrev qCt (M : sM) : Prop := M 259 0 < 1000000 ∧ M 259 1 < 1000000 ∧ M 259 2 < 1000000
def qu (M : sM) : Nat := (M 258 25).toNat
def qt (M : sM) : Nat := (M 258 19).toNat
def qs (M : sM) : Nat := (M 258 5).toNat
def qo (M : sM) : Nat := (M 258 6).toNat
def qm (M : sM) : Nat := (M 258 7).toNat
theorem qu_r {M : sM} (hT : TInv M) : qu M ≤ 8 ∧ M 258 25 = (qu M : Int) := by
  have := tv hT (k := 258) (j := 25) (lo := 0) (hi := 8) rfl
  unfold qu
  omega
theorem qt_r {M : sM} (hT : TInv M) : qt M ≤ 150 ∧ M 258 19 = (qt M : Int) := by
  have := tv hT (k := 258) (j := 19) (lo := 0) (hi := 150) rfl
  unfold qt
  omega
theorem qs_r {M : sM} (hT : TInv M) : qs M ≤ 5 ∧ M 258 5 = (qs M : Int) := by
  have := tv hT (k := 258) (j := 5) (lo := 0) (hi := 5) rfl
  unfold qs
  omega
theorem qo_r {M : sM} (hT : TInv M) : qo M ≤ 6 ∧ M 258 6 = (qo M : Int) := by
  have := tv hT (k := 258) (j := 6) (lo := 0) (hi := 6) rfl
  unfold qo
  omega
theorem qm_r {M : sM} (hT : TInv M) : qm M ≤ 6 ∧ M 258 7 = (qm M : Int) := by
  have := tv hT (k := 258) (j := 7) (lo := 0) (hi := 6) rfl
  unfold qm
  omega
/-- a shore as at first -/
def qBgN (M : sM) (k : Nat) : sM := sSr (sSt (sSt (sSt (sSt (sSt (sSt (sSt (sSt M 258 1 0) 258 2 0) 258 3 0) 258 4 0) 258 5 0) 258 6 0) 258 7 0) 258 25 0) 260 (fun j => if j < k then 0 else M 260 j)
def qBeg (M : sM) : sM := qBgN M 12
theorem qBgN_0 (M : sM) : sSt (sSt (sSt (sSt (sSt (sSt (sSt (sSt M 258 1 0) 258 2 0) 258 3 0) 258 4 0) 258 5 0) 258 6 0) 258 7 0) 258 25 0 = qBgN M 0 := by
  funext c j
  unfold qBgN
  rw [sSr_at]
  split
  · subst_vars; rfl
  · rfl
theorem qBgN_s (M : sM) (k : Nat) : sSt (qBgN M k) 260 k 0 = qBgN M (k + 1) := by
  funext c j
  unfold qBgN
  simp only [sSt_at, sSr_at]
  (repeat' split) <;> (try subst_vars) <;> first | rfl | omega
/-- souls, callers -/
def qAdS (M : sM) (k w c : Int) : sM := sSt (sSt (sSt (sSt (sSt (sSt (sSt M 261 (qn M) k) 262 (qn M) w) 263 (qn M) c) 264 (qn M) (-1)) 265 (qn M) 0) 258 1 (M 258 1 + 1)) 258 25 0
def qAdI (M : sM) (k : Int) : sM := sSt (sSt (sSt M 266 (qc M) k) 258 2 (M 258 2 + 1)) 258 25 0
abbrev isQS (M : sM) (s : Int) : Prop := 0 ≤ s ∧ s < M 258 1
abbrev isQC (M : sM) (i : Int) : Prop := 0 ≤ i ∧ i < M 258 2
def qrCur (M : sM) (c v : Int) : Int := if (0 ≤ c ∧ c ≤ 11) ∧ (-2 ≤ v ∧ v ≤ 2) then M 260 c.toNat else -10
def qmCur (M : sM) (c v : Int) : sM := if (0 ≤ c ∧ c ≤ 11) ∧ (-2 ≤ v ∧ v ≤ 2) then sSt (sSt M 260 c.toNat v) 258 25 0 else qBad M
def qrSoul (M : sM) (k w c : Int) : Int := if okSoul k w c then (if M 258 1 = 6 then -4 else M 258 1) else -2
def qmSoul (M : sM) (k w c : Int) : sM := if okSoul k w c then (if M 258 1 = 6 then qFul M else qAdS M k w c) else qBad M
def qrCaller (M : sM) (k : Int) : Int := if 0 ≤ k ∧ k ≤ 5 then (if M 258 2 = 6 then -4 else M 258 2) else -2
def qmCaller (M : sM) (k : Int) : sM := if 0 ≤ k ∧ k ≤ 5 then (if M 258 2 = 6 then qFul M else qAdI M k) else qBad M
def qrType (M : sM) (c : Int) : Int := if 0 ≤ c ∧ c ≤ 127 then (if M 258 19 = 150 then -4 else M 258 19 + 1) else -2
def qmType (M : sM) (c : Int) : sM := if 0 ≤ c ∧ c ≤ 127 then (if M 258 19 = 150 then qFul M else sSt (sSt M 270 (qt M) c) 258 19 (M 258 19 + 1)) else qBad M
def qTk (M : sM) (i s : Nat) : sM := sSt (sSt M 263 s (-2)) 264 s i
/-- a tide -/
def qpN (M : sM) (k : Nat) : sM := sSr (sSr M 263 (fun s => if s < k ∧ 0 ≤ M 263 s then dri (M 260) (M 263 s) else M 263 s)) 265 (fun s => if s < k ∧ M 263 s = -1 then min 99 (M 265 s + 1) else M 265 s)
def qPas (M : sM) : sM := sSt (qpN M (qn M)) 258 3 (M 258 3 + 1)
theorem qpN_0 (M : sM) : M = qpN M 0 := by
  funext c j
  unfold qpN
  simp only [sSr_at]
  (repeat' split) <;> (try subst_vars) <;> first | rfl | omega
theorem qpN_a {M : sM} {k : Nat} (h : 0 ≤ M 263 k) : sSt (qpN M k) 263 k (dri (M 260) (M 263 k)) = qpN M (k + 1) := by
  funext c j
  unfold qpN
  simp only [sSt_at, sSr_at]
  by_cases e : j = k
  · subst e
    (repeat' split) <;> first | rfl | omega
  · (repeat' split) <;> first | rfl | omega
theorem qpN_b {M : sM} {k : Nat} (h : M 263 k = -1) : sSt (qpN M k) 265 k (min 99 (M 265 k + 1)) = qpN M (k + 1) := by
  funext c j
  unfold qpN
  simp only [sSt_at, sSr_at]
  by_cases e : j = k
  · subst e
    (repeat' split) <;> first | rfl | omega
  · (repeat' split) <;> first | rfl | omega
theorem qpN_c {M : sM} {k : Nat} (h : ¬ 0 ≤ M 263 k) (h2 : M 263 k ≠ -1) : qpN M k = qpN M (k + 1) := by
  funext c j
  unfold qpN
  simp only [sSr_at]
  by_cases e : j = k
  · subst e
    (repeat' split) <;> first | rfl | omega
  · (repeat' split) <;> first | rfl | omega
theorem qpN_3 (M : sM) (k : Nat) : qpN M k 263 k = M 263 k := by
  unfold qpN
  rw [sSr_ne (by decide), sSr_eq]
  exact if_neg (by omega)
theorem qpN_5 (M : sM) (k : Nat) : qpN M k 265 k = M 265 k := by
  unfold qpN
  rw [sSr_eq]
  exact if_neg (by omega)
/-- a walk -/
def qgN (M : sM) (k : Nat) (c : Int) : sM := sSr (sSr (sSt M 258 4 c) 263 (fun s => if s < k ∧ M 263 s = c then -1 else M 263 s)) 265 (fun s => if s < k ∧ M 263 s = c then 0 else M 265 s)
abbrev qCl (M : sM) (d : Int) : Int := max 0 (min 11 (M 258 4 + d))
def qGa (M : sM) (d : Int) : sM := qgN M (qn M) (qCl M d)
def qGo (M : sM) (d : Int) : sM := if M 258 3 < 999 ∨ M 258 23 ≠ 0 then qPas (qGa M d) else qGa M d
def qGoC (M : sM) (d : Int) : Int := qCnt M (qCl M d)
theorem qgN_0 (M : sM) (c : Int) : sSt M 258 4 c = qgN M 0 c := by
  funext a j
  unfold qgN
  simp only [sSr_at]
  (repeat' split) <;> (try subst_vars) <;> first | rfl | omega
theorem qgN_a {M : sM} {k : Nat} {c : Int} (h : M 263 k = c) : sSt (sSt (qgN M k c) 263 k (-1)) 265 k 0 = qgN M (k + 1) c := by
  funext a j
  unfold qgN
  simp only [sSt_at, sSr_at]
  by_cases e : j = k
  · subst e
    (repeat' split) <;> first | rfl | omega
  · (repeat' split) <;> first | rfl | omega
theorem qgN_b {M : sM} {k : Nat} {c : Int} (h : M 263 k ≠ c) : qgN M k c = qgN M (k + 1) c := by
  funext a j
  unfold qgN
  simp only [sSr_at]
  by_cases e : j = k
  · subst e
    (repeat' split) <;> first | rfl | omega
  · (repeat' split) <;> first | rfl | omega
theorem qgN_3 (M : sM) (k : Nat) (c : Int) : qgN M k c 263 k = M 263 k := by
  unfold qgN
  rw [sSr_ne (by decide), sSr_eq]
  exact if_neg (by omega)
/-- what is laid aside of it: tide, comber, places, holders, dry -/
def qMo (M : sM) (i : Nat) : Int := if i = 0 then M 258 3 else if i = 1 then M 258 4 else if i < 8 then M 263 (i - 2) else if i < 14 then M 264 (i - 8) else M 265 (i - 14)
def qlN (M : sM) (b a k : Nat) : sM := sSr M b (fun j => if j = a then M 258 3 else if j = a + 1 then M 258 4 else if a + 2 ≤ j ∧ j < a + 2 + k then M 263 (j - (a + 2)) else if a + 8 ≤ j ∧ j < a + 8 + k then M 264 (j - (a + 8)) else if a + 14 ≤ j ∧ j < a + 14 + k then M 265 (j - (a + 14)) else M b j)
def qLay (M : sM) (b a : Nat) : sM := qlN M b a 6
theorem qlN_0 (M : sM) (b a : Nat) : sSt (sSt M b a (M 258 3)) b (a + 1) (M 258 4) = qlN M b a 0 := by
  funext c j
  unfold qlN
  simp only [sSt_at, sSr_at]
  (repeat' split) <;> first | rfl | omega | (have hc : c = b := by first | assumption | omega); (first | (rw [hc]) | skip)
theorem qlN_s (M : sM) {b a k : Nat} (hk : k < 6) : sSt (sSt (sSt (qlN M b a k) b (a + 2 + k) (M 263 k)) b (a + 8 + k) (M 264 k)) b (a + 14 + k) (M 265 k) = qlN M b a (k + 1) := by
  funext c j
  unfold qlN
  simp only [sSt_at, sSr_at]
  by_cases hc : c = b
  · subst hc
    by_cases e1 : j = a + 2 + k
    · subst e1
      rw [if_neg (by omega), if_neg (by omega), if_pos ⟨rfl, rfl⟩, if_pos rfl, if_neg (by omega), if_neg (by omega), if_pos (by omega), show a + 2 + k - (a + 2) = k by omega]
    · by_cases e2 : j = a + 8 + k
      · subst e2
        rw [if_neg (by omega), if_pos ⟨rfl, rfl⟩, if_pos rfl, if_neg (by omega), if_neg (by omega), if_neg (by omega), if_pos (by omega), show a + 8 + k - (a + 8) = k by omega]
      · by_cases e3 : j = a + 14 + k
        · subst e3
          rw [if_pos ⟨rfl, rfl⟩, if_pos rfl, if_neg (by omega), if_neg (by omega), if_neg (by omega), if_neg (by omega), if_pos (by omega), show a + 14 + k - (a + 14) = k by omega]
        · rw [if_neg (by omega), if_neg (by omega), if_neg (by omega), if_pos rfl, if_pos rfl]
          (repeat' split) <;> first | rfl | omega
  · rw [if_neg (by omega), if_neg (by omega), if_neg (by omega), if_neg hc, if_neg hc]
/-- what is laid aside comes back -/
def qtN (M : sM) (b a k : Nat) : sM := sSr (sSr (sSr (sSt (sSt M 258 3 (M b a)) 258 4 (M b (a + 1))) 263 (fun s => if s < k then M b (a + 2 + s) else M 263 s)) 264 (fun s => if s < k then M b (a + 8 + s) else M 264 s)) 265 (fun s => if s < k then M b (a + 14 + s) else M 265 s)
def qTak (M : sM) (b a : Nat) : sM := qtN M b a 6
theorem qtN_0 (M : sM) (b a : Nat) : sSt (sSt M 258 3 (M b a)) 258 4 (M b (a + 1)) = qtN M b a 0 := by
  funext c j
  unfold qtN
  simp only [sSr_at]
  (repeat' split) <;> (try subst_vars) <;> first | rfl | omega
theorem qtN_s (M : sM) (b a k : Nat) : sSt (sSt (sSt (qtN M b a k) 263 k (M b (a + 2 + k))) 264 k (M b (a + 8 + k))) 265 k (M b (a + 14 + k)) = qtN M b a (k + 1) := by
  funext c j
  unfold qtN
  simp only [sSt_at, sSr_at]
  by_cases e : j = k
  · subst e
    (repeat' split) <;> first | rfl | omega
  · (repeat' split) <;> first | rfl | omega
theorem qtN_b (M : sM) {b a k : Nat} (hb : 265 < b) : qtN M b a k b = M b := by
  unfold qtN
  rw [sSr_ne (by omega), sSr_ne (by omega), sSr_ne (by omega), sSt_ne (by omega), sSt_ne (by omega)]
theorem qlN_b (M : sM) {b a k c : Nat} (hb : c ≠ b) : qlN M b a k c = M c := sSr_ne hb
/-- what may be undone -/
def qsN (M : sM) (k : Nat) : sM := sSr M 272 (fun j => if j < k then M 272 (j + 20) else M 272 j)
def qNot (M : sM) : sM :=
  if M 258 25 = 8 then sSt (qLay (sSt (qsN M 140) 258 25 7) 272 140) 258 25 8
  else sSt (qLay M 272 (20 * qu M)) 258 25 (M 258 25 + 1)
theorem qsN_0 (M : sM) : M = qsN M 0 := by
  funext c j
  unfold qsN
  simp only [sSr_at]
  (repeat' split) <;> (try subst_vars) <;> first | rfl | omega
theorem qsN_s (M : sM) (k : Nat) : sSt (qsN M k) 272 k (M 272 (k + 20)) = qsN M (k + 1) := by
  funext c j
  unfold qsN
  simp only [sSt_at, sSr_at]
  by_cases e : j = k
  · subst e
    (repeat' split) <;> first | rfl | omega
  · (repeat' split) <;> first | rfl | omega
theorem qsN_r (M : sM) {k j : Nat} (h : k ≤ j) : qsN M k 272 j = M 272 j := by
  unfold qsN
  rw [sSr_eq]
  exact if_neg (by omega)
/-- n tides, none beyond 999 -/
def qPs (M : sM) : Nat → sM
  | 0 => M
  | n + 1 => qPas (qPs M n)
theorem qPs_3 (M : sM) : ∀ n, qPs M n 258 3 = M 258 3 + n
  | 0 => by show M 258 3 = _; omega
  | n + 1 => by
    have h := qPs_3 M n
    show qPas (qPs M n) 258 3 = _
    unfold qPas
    rw [sSt_eq, h]
    omega
def qPt (M : sM) (n : Nat) : sM := qPs M (min n (999 - M 258 3).toNat)
def qrTides (M : sM) (n : Int) : Int := if 1 ≤ n ∧ n ≤ 60 then qAdC (qPt (qNot M) n.toNat) else -2
def qmTides (M : sM) (n : Int) : sM := if 1 ≤ n ∧ n ≤ 60 then qPt (qNot M) n.toNat else qBad M
def qrWalks (M : sM) (d : Int) : Int := if -1 ≤ d ∧ d ≤ 1 then (if M 258 3 = 999 then -3 else qGoC (qNot M) d) else -2
def qmWalks (M : sM) (d : Int) : sM := if -1 ≤ d ∧ d ≤ 1 then (if M 258 3 = 999 then qNo M else qGo (qNot M) d) else qBad M
def qrCalls (M : sM) (i : Int) : Int := if isQC M i then (if qCho M i.toNat = -1 then -3 else qCho M i.toNat) else -2
def qmCalls (M : sM) (i : Int) : sM := if isQC M i then (if qCho M i.toNat = -1 then qNo M else qTk (qNot M) i.toNat (qCho M i.toNat).toNat) else qBad M
def qrReturns (M : sM) (i : Int) : Int := if isQC M i then (if qHeld M i.toNat = -1 then -3 else qHeld M i.toNat) else -2
def qmReturns (M : sM) (i : Int) : sM := if isQC M i then (if qHeld M i.toNat = -1 then qNo M else sSt (sSt (qNot M) 263 (qHeld M i.toNat).toNat (-1)) 264 (qHeld M i.toNat).toNat (-1)) else qBad M
def qUn (M : sM) : sM := qTak (sSt M 258 25 (M 258 25 - 1)) 272 (20 * (qu M - 1))
def qrUndo (M : sM) : Int := if M 258 25 = 0 then -3 else qUn M 258 3
def qmUndo (M : sM) : sM := if M 258 25 = 0 then qNo M else qUn M
def qrOf (M : sM) (s w : Int) : Int := if isQS M s ∧ (0 ≤ w ∧ w ≤ 5) then qTel M s.toNat w else -2
def qrAbout (M : sM) (i w : Int) : Int := if isQC M i ∧ (0 ≤ w ∧ w ≤ 3) then (if w = 0 then M 266 i.toNat else if w = 1 then qHeld M i.toNat else if w = 2 then qWan M i.toNat else qCho M i.toNat) else -2
def qrFeels (M : sM) (s i : Int) : Int := if isQS M s ∧ isQC M i then qFel M s.toNat i.toNat else -2
def qrWhere (M : sM) (s m : Int) : Int := if isQS M s ∧ (0 ≤ m ∧ m ≤ 60) then (if 0 ≤ M 263 s.toNat then driN (M 260) m.toNat (M 263 s.toNat) else -1) else -2
def qrComes (M : sM) (c m : Int) : Int := if (0 ≤ c ∧ c ≤ 11) ∧ (0 ≤ m ∧ m ≤ 60) then ((bits (fun a => driN (M 260) m.toNat (a : Int) = c) 12 : Nat) : Int) else -2
/-- nothing but the count of refusals changes -/
def qB (M : sM) (P : Prop) [Decidable P] : sM := if P then M else qBad M
def qrStatus (M : sM) (w : Int) : Int := if 0 ≤ w ∧ w ≤ 2 then M 259 w.toNat else -1
def qrCount0 (M : sM) (w : Int) : Int := if w = 0 then M 258 1 else if w = 1 then M 258 2 else if w = 2 then M 258 3 else if w = 3 then qAdC M else if w = 4 then qCnt M (-1) else if w = 5 then M 258 4 else if w = 6 then M 258 5 else if w = 7 then M 258 6 else if w = 8 then M 258 7 else if w = 9 then M 258 25 else M 258 19
def qrCount (M : sM) (w : Int) : Int := if 0 ≤ w ∧ w ≤ 10 then qrCount0 M w else -2
/-- between what the records' places lie -/
theorem qMo_r {M : sM} (hT : TInv M) {i : Nat} (hi : i < 20) : (rgM i).1 ≤ qMo M i ∧ qMo M i ≤ (rgM i).2 := by
  unfold qMo rgM
  by_cases h0 : i = 0
  · rw [if_pos h0, if_pos h0]; exact tv hT (k := 258) (j := 3) rfl
  · rw [if_neg h0, if_neg h0]
    by_cases h1 : i = 1
    · rw [if_pos h1, if_pos h1]; exact tv hT (k := 258) (j := 4) rfl
    · rw [if_neg h1, if_neg h1]
      by_cases h2 : i < 8
      · rw [if_pos h2, if_pos h2]; exact tv hT (k := 263) rfl
      · rw [if_neg h2, if_neg h2]
        by_cases h3 : i < 14
        · rw [if_pos h3, if_pos h3]; exact tv hT (k := 264) rfl
        · rw [if_neg h3, if_neg h3]; exact tv hT (k := 265) rfl
/-- a place of the memory where such a record may lie -/
abbrev isRc (b a n : Nat) : Prop := 265 < b ∧ b < 280 ∧ a + 20 ≤ n ∧ ∀ i, i < 20 → rg b (a + i) = rgM i
theorem qlN_T {M : sM} (hT : TInv M) {b a n k : Nat} (hr : isRc b a n) (hk : k ≤ 6) : TInv (qlN M b a k) := by
  refine tv_row hT (fun j => ?_)
  by_cases h0 : j = a
  · rw [if_pos h0, h0, show rg b a = rgM 0 from hr.2.2.2 0 (by decide)]; exact tv hT (k := 258) (j := 3) rfl
  · rw [if_neg h0]
    by_cases h1 : j = a + 1
    · rw [if_pos h1, h1, hr.2.2.2 1 (by decide)]; exact tv hT (k := 258) (j := 4) rfl
    · rw [if_neg h1]
      by_cases h2 : a + 2 ≤ j ∧ j < a + 2 + k
      · rw [if_pos h2, show j = a + (j - a) by omega, hr.2.2.2 (j - a) (by omega)]
        have e : rgM (j - a) = (-2, 11) := by unfold rgM; rw [if_neg (by omega), if_neg (by omega), if_pos (by omega)]
        rw [e]; exact tv hT (k := 263) rfl
      · rw [if_neg h2]
        by_cases h3 : a + 8 ≤ j ∧ j < a + 8 + k
        · rw [if_pos h3, show j = a + (j - a) by omega, hr.2.2.2 (j - a) (by omega)]
          have e : rgM (j - a) = (-1, 5) := by unfold rgM; rw [if_neg (by omega), if_neg (by omega), if_neg (by omega), if_pos (by omega)]
          rw [e]; exact tv hT (k := 264) rfl
        · rw [if_neg h3]
          by_cases h4 : a + 14 ≤ j ∧ j < a + 14 + k
          · rw [if_pos h4, show j = a + (j - a) by omega, hr.2.2.2 (j - a) (by omega)]
            have e : rgM (j - a) = (0, 99) := by unfold rgM; rw [if_neg (by omega), if_neg (by omega), if_neg (by omega), if_neg (by omega)]
            rw [e]; exact tv hT (k := 265) rfl
          · rw [if_neg h4]; exact hT b j
theorem qtN_T {M : sM} (hT : TInv M) {b a n k : Nat} (hr : isRc b a n) (hk : k ≤ 6) : TInv (qtN M b a k) := by
  have r0 : 0 ≤ M b a ∧ M b a ≤ 2000 := tv hT (show rg b a = _ from hr.2.2.2 0 (by decide))
  have r1 : 0 ≤ M b (a + 1) ∧ M b (a + 1) ≤ 11 := tv hT (hr.2.2.2 1 (by decide))
  have rs : ∀ i, i < 20 → (rgM i).1 ≤ M b (a + i) ∧ M b (a + i) ≤ (rgM i).2 := fun i hi => by rw [← hr.2.2.2 i hi]; exact hT b (a + i)
  refine tv_row (tv_row (tv_row (tv_st (tv_st hT (k := 258) (j := 3) rfl r0) (k := 258) (j := 4) rfl r1) (fun s => ?_)) (fun s => ?_)) (fun s => ?_)
  · by_cases h : s < k
    · rw [if_pos h]
      have e : rgM (2 + s) = (-2, 11) := by unfold rgM; rw [if_neg (by omega), if_neg (by omega), if_pos (by omega)]
      have := rs (2 + s) (by omega)
      rw [e, ← Nat.add_assoc] at this
      exact this
    · rw [if_neg h]; exact hT 263 s
  · by_cases h : s < k
    · rw [if_pos h]
      have e : rgM (8 + s) = (-1, 5) := by unfold rgM; rw [if_neg (by omega), if_neg (by omega), if_neg (by omega), if_pos (by omega)]
      have := rs (8 + s) (by omega)
      rw [e, ← Nat.add_assoc] at this
      exact this
    · rw [if_neg h]; exact hT 264 s
  · by_cases h : s < k
    · rw [if_pos h]
      have e : rgM (14 + s) = (0, 99) := by unfold rgM; rw [if_neg (by omega), if_neg (by omega), if_neg (by omega), if_neg (by omega)]
      have := rs (14 + s) (by omega)
      rw [e, ← Nat.add_assoc] at this
      exact this
    · rw [if_neg h]; exact hT 265 s
theorem isRc_272 {u : Nat} (hu : u < 8) : isRc 272 (20 * u) 160 := ⟨by decide, by decide, by omega, fun i hi => by
  show rgM ((20 * u + i) % 20) = rgM i
  rw [show (20 * u + i) % 20 = i by omega]⟩
theorem isRc_273 : isRc 273 0 20 := ⟨by decide, by decide, by decide, fun i _ => by show rgM (0 + i) = _; rw [Nat.zero_add]⟩
theorem isRc_271 : isRc 271 0 280 := ⟨by decide, by decide, by decide, fun i hi => by show rgE (0 + i) = _; rw [Nat.zero_add]; exact if_pos hi⟩
theorem isRc_278 {i : Nat} (hi : i < 2) : isRc 278 (280 * i) 560 := ⟨by decide, by decide, by omega, fun j hj => by
  show rgE ((280 * i + j) % 280) = rgM j
  rw [show (280 * i + j) % 280 = j by omega]
  exact if_pos hj⟩
theorem qsN_T {M : sM} (hT : TInv M) (k : Nat) : TInv (qsN M k) := by
  refine tv_row hT (fun j => ?_)
  by_cases h : j < k
  · rw [if_pos h]
    have := hT 272 (j + 20)
    rw [show rg 272 (j + 20) = rgM ((j + 20) % 20) from rfl, show (j + 20) % 20 = j % 20 by omega] at this
    exact this
  · rw [if_neg h]; exact hT 272 j
theorem rc_0 {b a n : Nat} (hr : isRc b a n) : rg b a = (0, 2000) := hr.2.2.2 0 (by decide)
theorem rc_1 {b a n : Nat} (hr : isRc b a n) : rg b (a + 1) = (0, 11) := hr.2.2.2 1 (by decide)
theorem rc_p {b a n k : Nat} (hr : isRc b a n) (hk : k < 6) : rg b (a + 2 + k) = (-2, 11) := by
  rw [Nat.add_assoc, hr.2.2.2 (2 + k) (by omega)]
  unfold rgM
  rw [if_neg (by omega), if_neg (by omega), if_pos (by omega)]
theorem rc_h {b a n k : Nat} (hr : isRc b a n) (hk : k < 6) : rg b (a + 8 + k) = (-1, 5) := by
  rw [Nat.add_assoc, hr.2.2.2 (8 + k) (by omega)]
  unfold rgM
  rw [if_neg (by omega), if_neg (by omega), if_neg (by omega), if_pos (by omega)]
theorem rc_d {b a n k : Nat} (hr : isRc b a n) (hk : k < 6) : rg b (a + 14 + k) = (0, 99) := by
  rw [Nat.add_assoc, hr.2.2.2 (14 + k) (by omega)]
  unfold rgM
  rw [if_neg (by omega), if_neg (by omega), if_neg (by omega), if_neg (by omega)]
theorem qNot_3 (M : sM) : qNot M 258 3 = M 258 3 := by
  unfold qNot
  split
  · rfl
  · rfl
theorem zb_or0 (a : Nat) : sI (a : Int) ||| sI 0 = sI ((a : Nat) : Int) := by
  rw [show (0 : Int) = ((0 : Nat) : Int) from rfl, zb_or, Nat.or_zero]
