/-! a beach's doings touch that beach alone -/
abbrev oth (o c : Nat) : Prop := c < o ∨ o + 48 ≤ c
theorem bAdS_o {M : sM} {o c : Nat} {k w x : Int} (h : oth o c) : bAdS M o k w x c = M c := by
  unfold bAdS
  rw [sSt_ne (by omega), sSt_ne (by omega), sSt_ne (by omega), sSt_ne (by omega), sSt_ne (by omega), sSt_ne (by omega)]
theorem bAdI_o {M : sM} {o c : Nat} {k : Int} (h : oth o c) : bAdI M o k c = M c := by
  unfold bAdI
  rw [sSt_ne (by omega), sSt_ne (by omega)]
theorem bFlo_o {M : sM} {o c : Nat} (h : oth o c) : bFlo M o c = M c := bFlo_ne (by omega) (by omega) (by omega)
theorem bFlos_o {M : sM} {o c : Nat} (h : oth o c) : ∀ n, bFlos M o n c = M c
  | 0 => rfl
  | n + 1 => (bFlo_o h).trans (bFlos_o h n)
theorem bPas_o {M : sM} {o c n : Nat} (h : oth o c) : bPas M o n c = M c := bFlos_o h _
theorem bGat_o {M : sM} {o c : Nat} {d : Int} (h : oth o c) : bGat M o d c = M c := by
  funext j
  unfold bGat
  rw [gaN_at, if_neg (by omega), if_neg (by omega), sSt_ne (by omega)]
theorem bRes_o {M : sM} {o c : Nat} (h : oth o c) : bRes M o c = M c := by
  unfold bRes rsC
  rw [sSt_ne (by omega), sSt_ne (by omega), sSt_ne (by omega), sSt_ne (by omega), sSt_ne (by omega), sSt_ne (by omega), sSt_ne (by omega), sSt_ne (by omega), sSr_ne (by omega)]
theorem mCp_o {M : sM} {a b c : Nat} (h : c < a ∨ a + 4 ≤ c) : mCp M a b c = M c := if_neg (by omega)
theorem bCpy_o {M : sM} {a b c : Nat} (h : oth a c) : bCpy M a b c = M c := bCpy_out (by omega)
theorem rOk_c {M N : sM} (h : N 195 = M 195) (k : rOk M) : rOk N := by unfold rOk at *; rw [h]; exact k
/-! what it reads: whether it can stand there, and what is behind it -/
def pCurN : Nat → Nat → sM → Bool × sM
  | 0, _, M => (true, M)
  | k + 1, c, M => if nOk 0 4 M then pCurN k (c + 1) (sSt (nxM M) 198 c (tV M - 2)) else (false, nxM M)
def pCur (M : sM) : Bool × sM := pCurN 12 0 M
def pSoul (M : sM) : Bool × sM :=
  if nOk 0 5 M then
    (if nOk 1 9 (nxM M) then
      (if nOk 0 11 (nxM (nxM M)) then (true, bAdS (nxM (nxM (nxM M))) 197 (tV M) (tV (nxM M)) (tV (nxM (nxM M)))) else (false, nxM (nxM (nxM M))))
    else (false, nxM (nxM M)))
  else (false, nxM M)
def pCaller (M : sM) : Bool × sM := if nOk 0 5 M then (true, bAdI (nxM M) 197 (tV M)) else (false, nxM M)
def pWalk (M : sM) : Bool × sM := if nOk 0 2 M then (true, bPas (bGat (nxM M) 197 (tV M - 1)) 197 1) else (false, nxM M)
def pCall (M : sM) : Bool × sM :=
  if nOk 0 (M 197 10 - 1) M then
    (if bCho (nxM M) 197 (tV M).toNat = -1 then (false, nxM M) else (true, sSt (nxM M) 204 (bCho (nxM M) 197 (tV M).toNat).toNat (tV M)))
  else (false, nxM M)
def pTides (M : sM) : Bool × sM := if nOk 1 99 M then (true, bPas (nxM M) 197 (tV M).toNat) else (false, nxM M)
def pNums (w : Int) (M : sM) : Bool × sM :=
  if w = 0 then pCur M else if w = 1 then (if M 197 9 < 6 then pSoul M else (false, M)) else if w = 2 then (if M 197 10 < 6 then pCaller M else (false, M)) else if w = 3 then pWalk M else if w = 4 then pCall M else if w = 5 then pTides M else (false, M)
abbrev wHere (M : sM) : Int := if tK M = 1 then wNo (nxM M) else -1
/-- items, with some to come -/
def pItems : Nat → Nat → sM → Int × sM
  | 0, _, M => (-1, M)
  | f + 1, n, M =>
    if tK M = 0 ∧ 0 < n then ((n : Int), nxM M)
    else if (wHere M = 0) ↔ n = 0 then
      (if (pNums (wHere M) (nxM M)).1 = true then
        (if tK (pNums (wHere M) (nxM M)).2 = 3 then pItems f (n + 1) (nxM (pNums (wHere M) (nxM M)).2) else (-1, nxM (pNums (wHere M) (nxM M)).2))
      else (-1, (pNums (wHere M) (nxM M)).2))
    else (-1, nxM M)
def pShore (M : sM) : Int × sM := pItems 151 0 (sSt (bRes M 197) 195 3 0)
theorem pCurN_y {k c : Nat} {M : sM} (h : nOk 0 4 M) : pCurN (k + 1) c M = pCurN k (c + 1) (sSt (nxM M) 198 c (tV M - 2)) := if_pos h
theorem pCurN_n {k c : Nat} {M : sM} (h : ¬ nOk 0 4 M) : pCurN (k + 1) c M = (false, nxM M) := if_neg h
theorem wNo_r (M : sM) : -1 ≤ wNo M ∧ wNo M ≤ 5 := by
  unfold wNo
  repeat' split
  all_goals omega
theorem wHere_r (M : sM) : -1 ≤ wHere M ∧ wHere M ≤ 5 := by
  have := wNo_r (nxM M)
  unfold wHere
  split <;> omega
