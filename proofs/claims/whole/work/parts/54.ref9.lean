/-! the reference: what it reads -/
def rq (M : sM) : Nat := (M 258 20).toNat
theorem rq_r {M : sM} (hT : TInv M) : rq M ≤ 150 ∧ M 258 20 = (rq M : Int) := by
  have := tv hT (k := 258) (j := 20) (lo := 0) (hi := 150) rfl
  unfold rq
  omega
theorem qtx_r {M : sM} (hT : TInv M) (j : Nat) : 0 ≤ M 270 j ∧ M 270 j ≤ 127 := tv hT (k := 270) (j := j) rfl
theorem scan_b (P : Int → Prop) [DecidablePred P] (T : Nat → Int) (n p : Nat) : p ≤ scan P T n p ∧ scan P T n p ≤ max p n := scn_r P T n (n - p) p
theorem scan_st (P : Int → Prop) [DecidablePred P] (T : Nat → Int) (n p : Nat) : ¬ (scan P T n p < n ∧ P (T (scan P T n p))) := by
  unfold scan
  have key : ∀ f p, n ≤ p + f → ¬ (scn P T n f p < n ∧ P (T (scn P T n f p))) := by
    intro f
    induction f with
    | zero => intro p hp z; exact absurd z.1 (by show ¬ p < n; omega)
    | succ f ih =>
      intro p hp
      unfold scn
      by_cases e : p < n ∧ P (T p)
      · rw [if_pos e]; exact ih (p + 1) (by omega)
      · rw [if_neg e]; exact e
  exact key _ _ (by omega)
/-- behind the blanks; behind the figures -/
def qsp (M : sM) : Nat := scan isSp (M 270) (qt M) (rq M)
def qfg (M : sM) : Nat := scan isFig (M 270) (qt M) (qsp M)
def qSk (M : sM) : sM := sSt M 258 20 (qsp M)
def qHere (M : sM) : Int := if rq M < qt M then M 270 (rq M) else -1
def nqV (M : sM) : Int := numV (M 270) (qsp M) (qfg M)
abbrev nqOk (lo hi : Int) (M : sM) : Prop := (1 ≤ qfg M - qsp M ∧ qfg M - qsp M ≤ 2) ∧ (lo ≤ nqV M ∧ nqV M ≤ hi)
def nqM (M : sM) : sM := sSt (sSt (qSk M) 258 21 (nqV M)) 258 20 (qfg M)
abbrev enOk (M : sM) : Prop := qsp M < qt M ∧ M 270 (qsp M) = 59
def enM (M : sM) : sM := sSt (qSk M) 258 20 ((qsp M : Int) + 1)
theorem qsp_r {M : sM} (hT : TInv M) : rq M ≤ qsp M ∧ qsp M ≤ 150 := by
  have h := scan_b isSp (M 270) (qt M) (rq M)
  have h1 := rq_r hT
  have h2 := qt_r hT
  unfold qsp
  omega
theorem qfg_r {M : sM} (hT : TInv M) : qsp M ≤ qfg M ∧ qfg M ≤ 150 := by
  have h := scan_b isFig (M 270) (qt M) (qsp M)
  have h1 := qsp_r hT
  have h2 := qt_r hT
  unfold qfg
  omega
theorem nqV_r {M : sM} : 0 ≤ nqV M ∧ nqV M ≤ 99 := numV_r (n := 0) (fun j h1 h2 => scan_all h1 h2)
theorem qSk_T {M : sM} (hT : TInv M) : TInv (qSk M) := by
  have h := qsp_r hT
  exact tv_st hT (k := 258) (j := 20) rfl ⟨by omega, by omega⟩
/-- the words -/
def wLn (M : sM) : Nat := scan isLet (M 270) (qt M) (rq M) - rq M
def wLt (M : sM) (i : Nat) : Prop := ∀ k, k < lenS.getD i 0 → M 270 (rq M + k) = bytI i k
noncomputable def wLb (M : sM) (i : Nat) : Bool := @decide (wLt M i) (Classical.propDecidable _)
abbrev wLq (M : sM) (i : Nat) : Prop := wLb M i = true
theorem wLq_i {M : sM} {i : Nat} : wLq M i ↔ wLt M i := @decide_eq_true_iff _ (Classical.propDecidable _)
noncomputable def qWd (M : sM) : Int :=
  if wLn M = 4 then (if wLq M 1 then 1 else if wLq M 3 then 3 else if wLq M 4 then 4 else -1)
  else if wLn M = 5 then (if wLq M 0 then 0 else if wLq M 5 then 5 else -1)
  else if wLn M = 6 then (if wLq M 2 then 2 else -1) else -1
theorem qWd_r (M : sM) : -1 ≤ qWd M ∧ qWd M ≤ 5 := by
  unfold qWd
  repeat' split
  all_goals omega
theorem all4 {P : Nat → Prop} : (∀ k, k < 4 → P k) ↔ P 0 ∧ P 1 ∧ P 2 ∧ P 3 :=
  ⟨fun h => ⟨h 0 (by decide), h 1 (by decide), h 2 (by decide), h 3 (by decide)⟩, fun ⟨a, b, c, d⟩ k hk => by
    rcases (show k = 0 ∨ k = 1 ∨ k = 2 ∨ k = 3 by omega) with rfl | rfl | rfl | rfl <;> assumption⟩
theorem all5 {P : Nat → Prop} : (∀ k, k < 5 → P k) ↔ P 0 ∧ P 1 ∧ P 2 ∧ P 3 ∧ P 4 :=
  ⟨fun h => ⟨h 0 (by decide), h 1 (by decide), h 2 (by decide), h 3 (by decide), h 4 (by decide)⟩, fun ⟨a, b, c, d, e⟩ k hk => by
    rcases (show k = 0 ∨ k = 1 ∨ k = 2 ∨ k = 3 ∨ k = 4 by omega) with rfl | rfl | rfl | rfl | rfl <;> assumption⟩
theorem all6 {P : Nat → Prop} : (∀ k, k < 6 → P k) ↔ P 0 ∧ P 1 ∧ P 2 ∧ P 3 ∧ P 4 ∧ P 5 :=
  ⟨fun h => ⟨h 0 (by decide), h 1 (by decide), h 2 (by decide), h 3 (by decide), h 4 (by decide), h 5 (by decide)⟩, fun ⟨a, b, c, d, e, f⟩ k hk => by
    rcases (show k = 0 ∨ k = 1 ∨ k = 2 ∨ k = 3 ∨ k = 4 ∨ k = 5 by omega) with rfl | rfl | rfl | rfl | rfl | rfl <;> assumption⟩
theorem wL_0 (M : sM) : wLq M 0 ↔ M 270 (rq M + 0) = 115 ∧ M 270 (rq M + 1) = 104 ∧ M 270 (rq M + 2) = 111 ∧ M 270 (rq M + 3) = 114 ∧ M 270 (rq M + 4) = 101 := wLq_i.trans (all5 (P := fun k => M 270 (rq M + k) = bytI 0 k))
theorem wL_1 (M : sM) : wLq M 1 ↔ M 270 (rq M + 0) = 115 ∧ M 270 (rq M + 1) = 111 ∧ M 270 (rq M + 2) = 117 ∧ M 270 (rq M + 3) = 108 := wLq_i.trans (all4 (P := fun k => M 270 (rq M + k) = bytI 1 k))
theorem wL_2 (M : sM) : wLq M 2 ↔ M 270 (rq M + 0) = 99 ∧ M 270 (rq M + 1) = 97 ∧ M 270 (rq M + 2) = 108 ∧ M 270 (rq M + 3) = 108 ∧ M 270 (rq M + 4) = 101 ∧ M 270 (rq M + 5) = 114 := wLq_i.trans (all6 (P := fun k => M 270 (rq M + k) = bytI 2 k))
theorem wL_3 (M : sM) : wLq M 3 ↔ M 270 (rq M + 0) = 119 ∧ M 270 (rq M + 1) = 97 ∧ M 270 (rq M + 2) = 108 ∧ M 270 (rq M + 3) = 107 := wLq_i.trans (all4 (P := fun k => M 270 (rq M + k) = bytI 3 k))
theorem wL_4 (M : sM) : wLq M 4 ↔ M 270 (rq M + 0) = 99 ∧ M 270 (rq M + 1) = 97 ∧ M 270 (rq M + 2) = 108 ∧ M 270 (rq M + 3) = 108 := wLq_i.trans (all4 (P := fun k => M 270 (rq M + k) = bytI 4 k))
theorem wL_5 (M : sM) : wLq M 5 ↔ M 270 (rq M + 0) = 116 ∧ M 270 (rq M + 1) = 105 ∧ M 270 (rq M + 2) = 100 ∧ M 270 (rq M + 3) = 101 ∧ M 270 (rq M + 4) = 115 := wLq_i.trans (all5 (P := fun k => M 270 (rq M + k) = bytI 5 k))
theorem wLn_r {M : sM} (hT : TInv M) : rq M + wLn M ≤ 150 := by
  have h := scan_b isLet (M 270) (qt M) (rq M)
  have h1 := rq_r hT
  have h2 := qt_r hT
  unfold wLn
  omega
theorem qWd_0 {M : sM} (h : qWd M = 0) : wLn M = 5 := by
  unfold qWd at h
  repeat' split at h
  all_goals first | assumption | omega
/-- the items -/
def qEnd (M : sM) : Bool × sM := if enOk M then (true, enM M) else (false, qSk M)
def qNm (lo hi : Int) (M : sM) : sM := if nqOk lo hi M then nqM M else qSk M
def qpSoul (M : sM) : Bool × sM :=
  if nqOk 0 5 M then
    (if nqOk 1 9 (nqM M) then
      (if nqOk 0 11 (nqM (nqM M)) then
        (if (qEnd (nqM (nqM (nqM M)))).1 = true then (true, qAdS (qEnd (nqM (nqM (nqM M)))).2 (nqV M) (nqV (nqM M)) (nqV (nqM (nqM M)))) else (false, (qEnd (nqM (nqM (nqM M)))).2))
      else (false, qSk (nqM (nqM M))))
    else (false, qSk (nqM M)))
  else (false, qSk M)
def qpCaller (M : sM) : Bool × sM :=
  if nqOk 0 5 M then (if (qEnd (nqM M)).1 = true then (true, qAdI (qEnd (nqM M)).2 (nqV M)) else (false, (qEnd (nqM M)).2)) else (false, qSk M)
def qpWalk (M : sM) : Bool × sM := if nqOk 0 2 M then qEnd (qGo (nqM M) (nqV M - 1)) else (false, qSk M)
def qpCall (M : sM) : Bool × sM :=
  if nqOk 0 (M 258 2 - 1) (qSk M) then
    (if qCho (nqM (qSk M)) (nqV (qSk M)).toNat = -1 then (false, sSt (nqM (qSk M)) 258 20 (qsp M))
    else qEnd (qTk (nqM (qSk M)) (nqV (qSk M)).toNat (qCho (nqM (qSk M)) (nqV (qSk M)).toNat).toNat))
  else (false, qSk (qSk M))
def qpTides (M : sM) : Bool × sM := if nqOk 1 99 M then qEnd (qPt (nqM M) (nqV M).toNat) else (false, qSk M)
noncomputable def qpItem (M : sM) : Bool × sM :=
  if qWd M < 1 ∨ (qWd M = 1 ∧ M 258 1 = 6) ∨ (qWd M = 2 ∧ M 258 2 = 6) then (false, M)
  else if qWd M = 1 then qpSoul (sSt M 258 20 ((rq M + wLn M : Nat) : Int)) else if qWd M = 2 then qpCaller (sSt M 258 20 ((rq M + wLn M : Nat) : Int)) else if qWd M = 3 then qpWalk (sSt M 258 20 ((rq M + wLn M : Nat) : Int)) else if qWd M = 4 then qpCall (sSt M 258 20 ((rq M + wLn M : Nat) : Int)) else qpTides (sSt M 258 20 ((rq M + wLn M : Nat) : Int))
def qpCurN : Nat → Nat → sM → Bool × sM
  | 0, _, M => (true, M)
  | k + 1, c, M => if nqOk 0 4 M then qpCurN k (c + 1) (sSt (nqM M) 260 c (nqV M - 2)) else (false, qSk M)
theorem qpCurN_y {k c : Nat} {M : sM} (h : nqOk 0 4 M) : qpCurN (k + 1) c M = qpCurN k (c + 1) (sSt (nqM M) 260 c (nqV M - 2)) := if_pos h
theorem qpCurN_n {k c : Nat} {M : sM} (h : ¬ nqOk 0 4 M) : qpCurN (k + 1) c M = (false, qSk M) := if_neg h
def qF0 (M : sM) : sM := qBeg (sSt (qSk M) 258 20 ((qsp M : Int) + 5))
noncomputable def qpFirst (M : sM) : Bool × sM :=
  if qWd (qSk M) = 0 then
    (if (qpCurN 12 0 (qF0 M)).1 = true then qEnd (qpCurN 12 0 (qF0 M)).2 else (false, (qpCurN 12 0 (qF0 M)).2))
  else (false, qSk M)
noncomputable def qpItems : Nat → Nat → sM → Int × sM
  | 0, _, M => (-1, M)
  | f + 1, n, M => if rq M < qt M then (if (qpItem M).1 = true then qpItems f (n + 1) (qSk (qpItem M).2) else (-1, (qpItem M).2)) else ((n : Int), M)
noncomputable def qpShore (M : sM) : Int × sM :=
  if (qpFirst (sSt M 258 20 0)).1 = true then qpItems 150 1 (qSk (qpFirst (sSt M 258 20 0)).2) else (-1, (qpFirst (sSt M 258 20 0)).2)
noncomputable def qrRead (M : sM) : Int := if (qpShore (qLA M 271 0)).1 < 0 then -10 - (qpShore (qLA M 271 0)).2 258 20 else (qpShore (qLA M 271 0)).1
noncomputable def qmRead (M : sM) : sM := if (qpShore (qLA M 271 0)).1 < 0 then qTA (qpShore (qLA M 271 0)).2 271 0 else sSt (qpShore (qLA M 271 0)).2 258 25 0
/-! it goes on -/
theorem rq_st (M : sM) (x : Nat) : rq (sSt M 258 20 x) = x := by
  unfold rq
  rw [sSt_eq, Int.toNat_natCast]
theorem rq_sk {M : sM} : rq (qSk M) = qsp M := rq_st _ _
theorem rq_sk_le (M : sM) : rq M ≤ rq (qSk M) := by
  rw [rq_sk]; exact (scan_b isSp (M 270) (qt M) (rq M)).1
theorem qfg_le (M : sM) : rq M ≤ qfg M := Nat.le_trans (scan_b isSp (M 270) (qt M) (rq M)).1 (scan_b isFig (M 270) (qt M) (qsp M)).1
theorem rq_nq {M : sM} : rq (nqM M) = qfg M := rq_st _ _
theorem rq_en {M : sM} : rq (enM M) = qsp M + 1 := rq_st (qSk M) (qsp M + 1)
theorem rq_end_le (M : sM) : rq M ≤ rq (qEnd M).2 := by
  unfold qEnd
  split
  · rw [show rq (true, enM M).2 = rq (enM M) from rfl, rq_en]
    have := (scan_b isSp (M 270) (qt M) (rq M)).1
    unfold qsp
    omega
  · exact rq_sk_le M
theorem rq_go (M : sM) (d : Int) : rq (qGo M d) = rq M := by
  unfold qGo
  split
  · rfl
  · rfl
theorem rq_ps (M : sM) : ∀ n, rq (qPs M n) = rq M
  | 0 => rfl
  | n + 1 => by
    show rq (qPas (qPs M n)) = _
    exact (show rq (qPas (qPs M n)) = rq (qPs M n) from rfl).trans (rq_ps M n)
theorem rq_soul (M : sM) (h : (qpSoul M).1 = true) : rq M ≤ rq (qpSoul M).2 := by
  have h1 := qfg_le M
  have h2 := qfg_le (nqM M)
  have h3 := qfg_le (nqM (nqM M))
  have h4 := rq_end_le (nqM (nqM (nqM M)))
  rw [rq_nq] at h2 h3 h4
  unfold qpSoul at h ⊢
  by_cases c1 : nqOk 0 5 M
  · rw [if_pos c1] at h ⊢
    by_cases c2 : nqOk 1 9 (nqM M)
    · rw [if_pos c2] at h ⊢
      by_cases c3 : nqOk 0 11 (nqM (nqM M))
      · rw [if_pos c3] at h ⊢
        by_cases c4 : (qEnd (nqM (nqM (nqM M)))).1 = true
        · rw [if_pos c4]
          show rq M ≤ rq (qEnd (nqM (nqM (nqM M)))).2
          omega
        · rw [if_neg c4] at h; exact absurd h Bool.noConfusion
      · rw [if_neg c3] at h; exact absurd h Bool.noConfusion
    · rw [if_neg c2] at h; exact absurd h Bool.noConfusion
  · rw [if_neg c1] at h; exact absurd h Bool.noConfusion
theorem rq_caller (M : sM) (h : (qpCaller M).1 = true) : rq M ≤ rq (qpCaller M).2 := by
  have h1 := qfg_le M
  have h4 := rq_end_le (nqM M)
  rw [rq_nq] at h4
  unfold qpCaller at h ⊢
  by_cases c1 : nqOk 0 5 M
  · rw [if_pos c1] at h ⊢
    by_cases c4 : (qEnd (nqM M)).1 = true
    · rw [if_pos c4]
      show rq M ≤ rq (qEnd (nqM M)).2
      omega
    · rw [if_neg c4] at h; exact absurd h Bool.noConfusion
  · rw [if_neg c1] at h; exact absurd h Bool.noConfusion
theorem rq_walk (M : sM) (h : (qpWalk M).1 = true) : rq M ≤ rq (qpWalk M).2 := by
  have h1 := qfg_le M
  have h4 := rq_end_le (qGo (nqM M) (nqV M - 1))
  rw [rq_go, rq_nq] at h4
  unfold qpWalk at h ⊢
  by_cases c1 : nqOk 0 2 M
  · rw [if_pos c1]; omega
  · rw [if_neg c1] at h; exact absurd h Bool.noConfusion
theorem rq_tides (M : sM) (h : (qpTides M).1 = true) : rq M ≤ rq (qpTides M).2 := by
  have h1 := qfg_le M
  have h4 := rq_end_le (qPt (nqM M) (nqV M).toNat)
  rw [show rq (qPt (nqM M) (nqV M).toNat) = rq (nqM M) from rq_ps _ _, rq_nq] at h4
  unfold qpTides at h ⊢
  by_cases c1 : nqOk 1 99 M
  · rw [if_pos c1]; omega
  · rw [if_neg c1] at h; exact absurd h Bool.noConfusion
theorem rq_call (M : sM) (h : (qpCall M).1 = true) : rq M ≤ rq (qpCall M).2 := by
  have h0 := rq_sk_le M
  have h1 := qfg_le (qSk M)
  have h4 := rq_end_le (qTk (nqM (qSk M)) (nqV (qSk M)).toNat (qCho (nqM (qSk M)) (nqV (qSk M)).toNat).toNat)
  rw [show rq (qTk (nqM (qSk M)) (nqV (qSk M)).toNat (qCho (nqM (qSk M)) (nqV (qSk M)).toNat).toNat) = rq (nqM (qSk M)) from rfl, rq_nq] at h4
  unfold qpCall at h ⊢
  by_cases c1 : nqOk 0 (M 258 2 - 1) (qSk M)
  · rw [if_pos c1] at h ⊢
    by_cases c2 : qCho (nqM (qSk M)) (nqV (qSk M)).toNat = -1
    · rw [if_pos c2] at h; exact absurd h Bool.noConfusion
    · rw [if_neg c2]; omega
  · rw [if_neg c1] at h; exact absurd h Bool.noConfusion
theorem wLn_4 {M : sM} (h : 1 ≤ qWd M) : 4 ≤ wLn M := by
  unfold qWd at h
  repeat' split at h
  all_goals omega
theorem rq_item {M : sM} (h : (qpItem M).1 = true) : rq M + 4 ≤ rq (qpItem M).2 := by
  unfold qpItem at h ⊢
  by_cases c : qWd M < 1 ∨ (qWd M = 1 ∧ M 258 1 = 6) ∨ (qWd M = 2 ∧ M 258 2 = 6)
  · rw [if_pos c] at h; exact absurd h Bool.noConfusion
  rw [if_neg c] at h ⊢
  have h4 := wLn_4 (M := M) (by omega)
  have hst := rq_st M (rq M + wLn M)
  by_cases c1 : qWd M = 1
  · rw [if_pos c1] at h ⊢
    have := rq_soul _ h
    rw [hst] at this; omega
  rw [if_neg c1] at h ⊢
  by_cases c2 : qWd M = 2
  · rw [if_pos c2] at h ⊢
    have := rq_caller _ h
    rw [hst] at this; omega
  rw [if_neg c2] at h ⊢
  by_cases c3 : qWd M = 3
  · rw [if_pos c3] at h ⊢
    have := rq_walk _ h
    rw [hst] at this; omega
  rw [if_neg c3] at h ⊢
  by_cases c5 : qWd M = 4
  · rw [if_pos c5] at h ⊢
    have := rq_call _ h
    rw [hst] at this; omega
  rw [if_neg c5] at h ⊢
  have := rq_tides _ h
  rw [hst] at this; omega
theorem sSt_rq {M : sM} (hT : TInv M) : M = sSt M 258 20 ((rq M : Nat) : Int) := by
  have h := (rq_r hT).2
  funext c j
  rw [sSt_at]
  by_cases e : c = 258 ∧ j = 20
  · rw [if_pos e, e.1, e.2, h]
  · rw [if_neg e]
def qHr (M : sM) (p : Nat) : Int := if p < qt M then M 270 p else -1
theorem qHere_e (M : sM) (p : Nat) : qHere (sSt M 258 20 (p : Int)) = qHr M p := by
  unfold qHere
  rw [rq_st]
  rfl
theorem qHr_r {M : sM} (hT : TInv M) (p : Nat) : -1 ≤ qHr M p ∧ qHr M p ≤ 127 := by
  have := qtx_r hT p
  unfold qHr
  split <;> omega
theorem qHr_y {M : sM} {p : Nat} (h : 0 ≤ qHr M p) : p < qt M ∧ qHr M p = M 270 p := by
  unfold qHr at h ⊢
  split
  · rename_i z; exact ⟨z, rfl⟩
  · rename_i z; rw [if_neg z] at h; omega
theorem nqM_21 (M : sM) : nqM M 258 21 = nqV M := by
  unfold nqM
  rw [sSt_nj (by decide), sSt_eq]
theorem nqM_T {M : sM} (hT : TInv M) : TInv (nqM M) := by
  have h1 := qfg_r hT
  have h2 := nqV_r (M := M)
  exact tv_st (tv_st (qSk_T hT) (k := 258) (j := 21) rfl h2) (k := 258) (j := 20) rfl ⟨by omega, by omega⟩
theorem qEnd_y {M : sM} (h : enOk M) : qEnd M = (true, enM M) := if_pos h
theorem qEnd_n {M : sM} (h : ¬ enOk M) : qEnd M = (false, qSk M) := if_neg h
/-! no walk beyond is going on -/
theorem qEnd_23 (M : sM) : (qEnd M).2 258 23 = M 258 23 := by
  unfold qEnd
  split
  · rfl
  · rfl
theorem qPs_23 (M : sM) : ∀ n, qPs M n 258 23 = M 258 23
  | 0 => rfl
  | n + 1 => (show qPas (qPs M n) 258 23 = qPs M n 258 23 from rfl).trans (qPs_23 M n)
theorem qItem_23 (M : sM) : (qpItem M).2 258 23 = M 258 23 := by
  unfold qpItem
  repeat' split
  · rfl
  · unfold qpSoul
    repeat' split
    · exact (qEnd_23 _).trans rfl
    · exact (qEnd_23 _).trans rfl
    · rfl
    · rfl
    · rfl
  · unfold qpCaller
    repeat' split
    · exact (qEnd_23 _).trans rfl
    · exact (qEnd_23 _).trans rfl
    · rfl
  · unfold qpWalk
    split
    · exact (qEnd_23 _).trans ((qGo_b _ _).trans rfl)
    · rfl
  · unfold qpCall
    repeat' split
    · rfl
    · exact (qEnd_23 _).trans rfl
    · rfl
  · unfold qpTides
    split
    · exact (qEnd_23 _).trans ((qPs_23 _ _).trans rfl)
    · rfl
theorem qCurN_23 : ∀ (k c : Nat) (M : sM), (qpCurN k c M).2 258 23 = M 258 23
  | 0, _, _ => rfl
  | k + 1, c, M => by
    by_cases h : nqOk 0 4 M
    · rw [qpCurN_y h, qCurN_23 k]; rfl
    · rw [qpCurN_n h]; rfl
theorem qFirst_23 (M : sM) : (qpFirst M).2 258 23 = M 258 23 := by
  unfold qpFirst
  repeat' split
  · exact (qEnd_23 _).trans ((qCurN_23 _ _ _).trans rfl)
  · exact (qCurN_23 _ _ _).trans rfl
  · rfl
theorem qCurN_rq : ∀ (k c : Nat) (M : sM), rq M ≤ rq (qpCurN k c M).2
  | 0, _, _ => Nat.le_refl _
  | k + 1, c, M => by
    by_cases h : nqOk 0 4 M
    · rw [qpCurN_y h]
      have h1 := qCurN_rq k (c + 1) (sSt (nqM M) 260 c (nqV M - 2))
      have h2 := qfg_le M
      rw [show rq (sSt (nqM M) 260 c (nqV M - 2)) = rq (nqM M) from rfl, rq_nq] at h1
      omega
    · rw [qpCurN_n h]; exact rq_sk_le M
theorem rq_first {M : sM} (h : (qpFirst M).1 = true) : rq M + 5 ≤ rq (qpFirst M).2 := by
  have h0 : rq M ≤ qsp M := (scan_b isSp (M 270) (qt M) (rq M)).1
  have h1 := qCurN_rq 12 0 (qF0 M)
  have h2 := rq_end_le (qpCurN 12 0 (qF0 M)).2
  rw [show rq (qF0 M) = qsp M + 5 from rq_st (qSk M) (qsp M + 5)] at h1
  unfold qpFirst at h ⊢
  by_cases c : qWd (qSk M) = 0
  · rw [if_pos c] at h ⊢
    by_cases c2 : (qpCurN 12 0 (qF0 M)).1 = true
    · rw [if_pos c2]; omega
    · rw [if_neg c2] at h; exact absurd h Bool.noConfusion
  · rw [if_neg c] at h; exact absurd h Bool.noConfusion
theorem qpItems_r : ∀ (f n : Nat) (M : sM), -1 ≤ (qpItems f n M).1 ∧ (qpItems f n M).1 ≤ ((n + f : Nat) : Int)
  | 0, n, M => ⟨Int.le_refl _, show (-1 : Int) ≤ _ by omega⟩
  | f + 1, n, M => by
    have ih := qpItems_r f (n + 1) (qSk (qpItem M).2)
    unfold qpItems
    repeat' split
    · omega
    · show -1 ≤ (-1 : Int) ∧ (-1 : Int) ≤ _
      omega
    · show -1 ≤ (n : Int) ∧ (n : Int) ≤ _
      omega
theorem qpShore_r (M : sM) : -1 ≤ (qpShore M).1 ∧ (qpShore M).1 ≤ 151 := by
  have h := qpItems_r 150 1 (qSk (qpFirst (sSt M 258 20 0)).2)
  unfold qpShore
  split
  · omega
  · exact ⟨Int.le_refl _, show (-1 : Int) ≤ 151 by decide⟩
theorem qpItems_y {f n : Nat} {M : sM} (h : rq M < qt M) (h2 : (qpItem M).1 = true) : qpItems (f + 1) n M = qpItems f (n + 1) (qSk (qpItem M).2) := by
  show (if rq M < qt M then _ else _) = _
  rw [if_pos h, if_pos h2]
theorem qpItems_n {f n : Nat} {M : sM} (h : rq M < qt M) (h2 : ¬ (qpItem M).1 = true) : qpItems (f + 1) n M = (-1, (qpItem M).2) := by
  show (if rq M < qt M then _ else _) = _
  rw [if_pos h, if_neg h2]
theorem qpItems_e {f n : Nat} {M : sM} (h : ¬ rq M < qt M) : qpItems (f + 1) n M = ((n : Int), M) := if_neg h
theorem qEnd_at {M : sM} {c j : Nat} (h : ¬ (c = 258 ∧ j = 20)) : (qEnd M).2 c j = M c j := by
  unfold qEnd
  split
  · show enM M c j = _
    unfold enM qSk
    rw [sSt_at, if_neg h, sSt_at, if_neg h]
  · show qSk M c j = _
    unfold qSk
    rw [sSt_at, if_neg h]
