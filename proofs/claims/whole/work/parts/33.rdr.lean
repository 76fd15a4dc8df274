/-! the reader: tokens -/
abbrev isLet (x : Int) : Prop := 97 ≤ x ∧ x ≤ 122
abbrev isFig (x : Int) : Prop := 48 ≤ x ∧ x ≤ 57
abbrev isSp (x : Int) : Prop := x = 32
/-- from p on, as long as p holds of what stands there -/
def scn (P : Int → Prop) [DecidablePred P] (T : Nat → Int) (n : Nat) : Nat → Nat → Nat
  | 0, p => p
  | f + 1, p => if p < n ∧ P (T p) then scn P T n f (p + 1) else p
def scan (P : Int → Prop) [DecidablePred P] (T : Nat → Int) (n p : Nat) : Nat := scn P T n (n - p) p
theorem scan_y {P : Int → Prop} [DecidablePred P] {T : Nat → Int} {n p : Nat} (h : p < n) (h2 : P (T p)) : scan P T n p = scan P T n (p + 1) := by
  unfold scan
  rw [show n - p = (n - (p + 1)) + 1 by omega]
  exact if_pos ⟨h, h2⟩
theorem scan_n {P : Int → Prop} [DecidablePred P] {T : Nat → Int} {n p : Nat} (h : ¬ (p < n ∧ P (T p))) : scan P T n p = p := by
  unfold scan
  generalize n - p = f
  cases f with
  | zero => rfl
  | succ f => exact if_neg h
theorem scn_r (P : Int → Prop) [DecidablePred P] (T : Nat → Int) (n : Nat) : ∀ f p, p ≤ scn P T n f p ∧ scn P T n f p ≤ max p n
  | 0, p => ⟨Nat.le_refl p, Nat.le_max_left _ _⟩
  | f + 1, p => by
    have h := scn_r P T n f (p + 1)
    unfold scn
    by_cases e : p < n ∧ P (T p)
    · rw [if_pos e]; omega
    · rw [if_neg e]; omega
theorem scan_r (P : Int → Prop) [DecidablePred P] (T : Nat → Int) {n p : Nat} (h : p ≤ n) : p ≤ scan P T n p ∧ scan P T n p ≤ n := by
  have := scn_r P T n (n - p) p
  unfold scan
  omega
theorem scan_s {P : Int → Prop} [DecidablePred P] {T : Nat → Int} {n p : Nat} (h : p < n) (h2 : P (T p)) : p + 1 ≤ scan P T n p := by
  rw [scan_y h h2]
  exact (scan_r P T (show p + 1 ≤ n by omega)).1
/-- the number from s to q: its first two figures -/
def numV (T : Nat → Int) (s q : Nat) : Int := if q ≤ s then 0 else if q = s + 1 then T s - 48 else 10 * (T s - 48) + (T (s + 1) - 48)
/-- the token from p on: where it begins, where it ends, its sort, its number -/
def tkS (T : Nat → Int) (n p : Nat) : Nat := scan isSp T n p
def tkA (T : Nat → Int) (n p : Nat) : Nat :=
  if n ≤ tkS T n p then tkS T n p else if isLet (T (tkS T n p)) then scan isLet T n (tkS T n p) else if isFig (T (tkS T n p)) then scan isFig T n (tkS T n p) else tkS T n p + 1
def tkK (T : Nat → Int) (n p : Nat) : Int :=
  if n ≤ tkS T n p then 0 else if isLet (T (tkS T n p)) then 1 else if isFig (T (tkS T n p)) then (if tkA T n p - tkS T n p ≤ 2 then 2 else 4) else if T (tkS T n p) = 59 then 3 else 4
def tkV (T : Nat → Int) (n p : Nat) (v : Int) : Int :=
  if n ≤ tkS T n p then v else if isLet (T (tkS T n p)) then v else if isFig (T (tkS T n p)) then numV T (tkS T n p) (tkA T n p) else v
theorem tk_r {T : Nat → Int} {n p : Nat} (h : p ≤ n) : p ≤ tkS T n p ∧ tkS T n p ≤ tkA T n p ∧ tkA T n p ≤ n := by
  have h1 := scan_r isSp T h
  unfold tkA tkS at *
  repeat' split
  · omega
  · have := scan_r isLet T (n := n) (p := scan isSp T n p) (by omega); omega
  · have := scan_r isFig T (n := n) (p := scan isSp T n p) (by omega); omega
  · omega
theorem tkK_r (T : Nat → Int) (n p : Nat) : 0 ≤ tkK T n p ∧ tkK T n p ≤ 4 := by
  unfold tkK
  repeat' split
  all_goals omega
/-- the reader's words: where it is, where its token begins, its sort, its number -/
def rdR (M : sM) (a s k v : Int) : Nat → Int := fun j => if j = 3 then a else if j = 4 then s else if j = 5 then k else if j = 6 then v else M 195 j
def mRd (M : sM) (a s k v : Int) : sM := sSr M 195 (rdR M a s k v)
theorem mRd_ne {M : sM} {a s k v : Int} {c : Nat} (h : c ≠ 195) : mRd M a s k v c = M c := sSr_ne h
theorem mRd_o {M : sM} {a s k v : Int} {j : Nat} (h : j < 3 ∨ 6 < j) : mRd M a s k v 195 j = M 195 j := by
  unfold mRd
  rw [sSr_eq]
  unfold rdR
  rw [if_neg (by omega), if_neg (by omega), if_neg (by omega), if_neg (by omega)]
theorem mRd_3 (M : sM) (a s k v : Int) : mRd M a s k v 195 3 = a := by unfold mRd; rw [sSr_eq]; rfl
theorem mRd_4 (M : sM) (a s k v : Int) : mRd M a s k v 195 4 = s := by unfold mRd; rw [sSr_eq]; rfl
theorem mRd_5 (M : sM) (a s k v : Int) : mRd M a s k v 195 5 = k := by unfold mRd; rw [sSr_eq]; rfl
theorem mRd_6 (M : sM) (a s k v : Int) : mRd M a s k v 195 6 = v := by unfold mRd; rw [sSr_eq]; rfl
theorem mRd_at (M : sM) (a s k v : Int) (c j : Nat) : mRd M a s k v c j = if c = 195 then rdR M a s k v j else M c j := sSr_at _ _ _ _ _
theorem mRd_i (M : sM) : M = mRd M (M 195 3) (M 195 4) (M 195 5) (M 195 6) := by
  funext c j
  rw [mRd_at]
  by_cases hc : c = 195
  · rw [if_pos hc, hc]
    unfold rdR
    by_cases h3 : j = 3
    · rw [if_pos h3, h3]
    · rw [if_neg h3]
      by_cases h4 : j = 4
      · rw [if_pos h4, h4]
      · rw [if_neg h4]
        by_cases h5 : j = 5
        · rw [if_pos h5, h5]
        · rw [if_neg h5]
          by_cases h6 : j = 6
          · rw [if_pos h6, h6]
          · rw [if_neg h6]
  · rw [if_neg hc]
theorem mRd_s3 (M : sM) (a s k v x : Int) : sSt (mRd M a s k v) 195 3 x = mRd M x s k v := by
  funext c j
  rw [sSt_at, mRd_at, mRd_at]
  unfold rdR
  by_cases hc : c = 195
  · rw [if_pos hc, if_pos hc]
    by_cases hj : j = 3
    · rw [if_pos ⟨hc, hj⟩, if_pos hj]
    · rw [if_neg (fun z => hj z.2), if_neg hj, if_neg hj]
  · rw [if_neg hc, if_neg hc, if_neg (fun z => hc z.1)]
theorem mRd_s4 (M : sM) (a s k v x : Int) : sSt (mRd M a s k v) 195 4 x = mRd M a x k v := by
  funext c j
  rw [sSt_at, mRd_at, mRd_at]
  unfold rdR
  by_cases hc : c = 195
  · rw [if_pos hc, if_pos hc]
    by_cases hj : j = 4
    · rw [if_pos ⟨hc, hj⟩, if_neg (by omega), if_pos hj]
    · rw [if_neg (fun z => hj z.2), if_neg hj, if_neg hj]
  · rw [if_neg hc, if_neg hc, if_neg (fun z => hc z.1)]
theorem mRd_s5 (M : sM) (a s k v x : Int) : sSt (mRd M a s k v) 195 5 x = mRd M a s x v := by
  funext c j
  rw [sSt_at, mRd_at, mRd_at]
  unfold rdR
  by_cases hc : c = 195
  · rw [if_pos hc, if_pos hc]
    by_cases hj : j = 5
    · rw [if_pos ⟨hc, hj⟩, if_neg (by omega), if_neg (by omega), if_pos hj]
    · rw [if_neg (fun z => hj z.2), if_neg hj, if_neg hj]
  · rw [if_neg hc, if_neg hc, if_neg (fun z => hc z.1)]
theorem mRd_s6 (M : sM) (a s k v x : Int) : sSt (mRd M a s k v) 195 6 x = mRd M a s k x := by
  funext c j
  rw [sSt_at, mRd_at, mRd_at]
  unfold rdR
  by_cases hc : c = 195
  · rw [if_pos hc, if_pos hc]
    by_cases hj : j = 6
    · rw [if_pos ⟨hc, hj⟩, if_neg (by omega), if_neg (by omega), if_neg (by omega), if_pos hj]
    · rw [if_neg (fun z => hj z.2), if_neg hj, if_neg hj]
  · rw [if_neg hc, if_neg hc, if_neg (fun z => hc z.1)]
theorem mRd_m (M : sM) (a s k v a2 s2 k2 v2 : Int) : mRd (mRd M a s k v) a2 s2 k2 v2 = mRd M a2 s2 k2 v2 := by
  funext c j
  rw [mRd_at, mRd_at, mRd_at]
  unfold rdR
  by_cases hc : c = 195
  · rw [if_pos hc, if_pos hc]
    by_cases h3 : j = 3
    · rw [if_pos h3, if_pos h3]
    · rw [if_neg h3, if_neg h3]
      by_cases h4 : j = 4
      · rw [if_pos h4, if_pos h4]
      · rw [if_neg h4, if_neg h4]
        by_cases h5 : j = 5
        · rw [if_pos h5, if_pos h5]
        · rw [if_neg h5, if_neg h5]
          by_cases h6 : j = 6
          · rw [if_pos h6, if_pos h6]
          · rw [if_neg h6, if_neg h6, mRd_o (by omega)]
  · rw [if_neg hc, if_neg hc]
    rw [if_neg hc]
theorem tv_rd {M : sM} (hT : TInv M) {a s k v : Int} (ha : 0 ≤ a ∧ a ≤ 150) (hs : 0 ≤ s ∧ s ≤ 150) (hk : 0 ≤ k ∧ k ≤ 4) (hv : 0 ≤ v ∧ v ≤ 99) : TInv (mRd M a s k v) := by
  refine tv_row hT (fun j => ?_)
  unfold rdR
  by_cases h3 : j = 3
  · rw [if_pos h3, h3]; exact ha
  · rw [if_neg h3]
    by_cases h4 : j = 4
    · rw [if_pos h4, h4]; exact hs
    · rw [if_neg h4]
      by_cases h5 : j = 5
      · rw [if_pos h5, h5]; exact hk
      · rw [if_neg h5]
        by_cases h6 : j = 6
        · rw [if_pos h6, h6]; exact hv
        · rw [if_neg h6]; exact hT 195 j
theorem tv_tx {M : sM} (hT : TInv M) (j : Nat) : 0 ≤ M 196 j ∧ M 196 j ≤ 127 := tv hT (k := 196) (j := j) rfl
/-- the token that comes -/
def rN (M : sM) : Nat := (M 195 2).toNat
def rP (M : sM) : Nat := (M 195 3).toNat
def tS (M : sM) : Nat := tkS (M 196) (rN M) (rP M)
def tA (M : sM) : Nat := tkA (M 196) (rN M) (rP M)
def tK (M : sM) : Int := tkK (M 196) (rN M) (rP M)
def tV (M : sM) : Int := tkV (M 196) (rN M) (rP M) (M 195 6)
def nxM (M : sM) : sM := mRd M (tA M) (tS M) (tK M) (tV M)
/-- the reader is not behind its text's end -/
def rOk (M : sM) : Prop := M 195 3 ≤ M 195 2
theorem numV_r {T : Nat → Int} {s q n : Nat} (h : ∀ j, s ≤ j → j < q → 48 ≤ T j ∧ T j ≤ 57) : 0 ≤ numV T s q ∧ numV T s q ≤ 99 := by
  unfold numV
  by_cases h1 : q ≤ s
  · rw [if_pos h1]; omega
  · rw [if_neg h1]
    have a := h s (Nat.le_refl s) (by omega)
    by_cases h2 : q = s + 1
    · rw [if_pos h2]; omega
    · rw [if_neg h2]
      have b := h (s + 1) (by omega) (by omega)
      omega
theorem scn_all {P : Int → Prop} [DecidablePred P] {T : Nat → Int} {n : Nat} : ∀ f p j, p ≤ j → j < scn P T n f p → P (T j)
  | 0, p, j, h1, h2 => absurd h2 (Nat.not_lt.mpr h1)
  | f + 1, p, j, h1, h2 => by
    unfold scn at h2
    by_cases e : p < n ∧ P (T p)
    · rw [if_pos e] at h2
      by_cases hj : j = p
      · rw [hj]; exact e.2
      · exact scn_all f (p + 1) j (by omega) h2
    · rw [if_neg e] at h2
      exact absurd h2 (Nat.not_lt.mpr h1)
theorem scan_all {P : Int → Prop} [DecidablePred P] {T : Nat → Int} {n p j : Nat} (h1 : p ≤ j) (h2 : j < scan P T n p) : P (T j) := scn_all _ _ _ h1 h2
theorem tV_r {M : sM} (hT : TInv M) : 0 ≤ tV M ∧ tV M ≤ 99 := by
  have h6 : _ ≤ M 195 6 ∧ M 195 6 ≤ _ := tv hT (k := 195) (j := 6) (lo := 0) (hi := 99) rfl
  unfold tV tkV
  by_cases h1 : rN M ≤ tkS (M 196) (rN M) (rP M)
  · rw [if_pos h1]; exact h6
  · rw [if_neg h1]
    by_cases h2 : isLet (M 196 (tkS (M 196) (rN M) (rP M)))
    · rw [if_pos h2]; exact h6
    · rw [if_neg h2]
      by_cases h3 : isFig (M 196 (tkS (M 196) (rN M) (rP M)))
      · rw [if_pos h3]
        refine numV_r (n := rN M) (fun j hj1 hj2 => ?_)
        have e : tkA (M 196) (rN M) (rP M) = scan isFig (M 196) (rN M) (tkS (M 196) (rN M) (rP M)) := by
          unfold tkA
          rw [if_neg h1, if_neg h2, if_pos h3]
        rw [e] at hj2
        exact scan_all hj1 hj2
      · rw [if_neg h3]; exact h6
theorem rN_r {M : sM} (hT : TInv M) : rN M ≤ 150 ∧ M 195 2 = (rN M : Int) := by
  have h : _ ≤ M 195 2 ∧ M 195 2 ≤ _ := tv hT (k := 195) (j := 2) (lo := 0) (hi := 150) rfl
  unfold rN
  omega
theorem rP_r {M : sM} (hT : TInv M) : M 195 3 = (rP M : Int) := by
  have h : _ ≤ M 195 3 ∧ M 195 3 ≤ _ := tv hT (k := 195) (j := 3) (lo := 0) (hi := 150) rfl
  unfold rP
  omega
theorem tA_r {M : sM} (hT : TInv M) (hk : rOk M) : rP M ≤ tS M ∧ tS M ≤ tA M ∧ tA M ≤ rN M := by
  have h1 := rN_r hT
  have h2 := rP_r hT
  unfold rOk at hk
  exact tk_r (by omega)
theorem nxM_T {M : sM} (hT : TInv M) (hk : rOk M) : TInv (nxM M) := by
  have h1 := tA_r hT hk
  have h2 := rN_r hT
  exact tv_rd hT (by omega) (by omega) (tkK_r _ _ _) (tV_r hT)
theorem nxM_ne {M : sM} {c : Nat} (h : c ≠ 195) : nxM M c = M c := mRd_ne h
theorem nxM_ok {M : sM} (hT : TInv M) (hk : rOk M) : rOk (nxM M) := by
  have h1 := tA_r hT hk
  have h2 := rN_r hT
  unfold rOk nxM
  rw [mRd_3, mRd_o (by omega)]
  omega
