theorem if_congr' {α : Type} {P R : Prop} [Decidable P] [Decidable R] {a b : α} (h : P ↔ R) : (if P then a else b) = if R then a else b := by
  by_cases hp : P
  · rw [if_pos hp, if_pos (h.mp hp)]
  · rw [if_neg hp, if_neg (fun z => hp (h.mpr z))]
/-! what changes a Beach's memory -/
theorem sSr_at (M : sM) (k a b : Nat) (r : Nat → Int) : sSr M k r a b = if a = k then r b else M a b := by
  unfold sSr
  by_cases h : a = k
  · rw [if_pos h, if_pos h]
  · rw [if_neg h, if_neg h]
/-- between what a Moment's places lie -/
def mrg (k : Nat) : Prop := (∀ j, rg (k + 1) j = (-1, 11)) ∧ (∀ j, rg (k + 2) j = (-1, 5)) ∧ (∀ j, rg (k + 3) j = (0, 99)) ∧ rg k 3 = (0, 11) ∧ rg k 4 = (0, 2000)
theorem mrg_now {o : Nat} (ho : isB o) : mrg (o + 5) := by
  refine ⟨fun j => ?_, fun j => ?_, fun j => ?_, ?_, ?_⟩
  · rw [show o + 5 + 1 = o + 6 from rfl, rg_B ho (by omega)]; rfl
  · rw [show o + 5 + 2 = o + 7 from rfl, rg_B ho (by omega)]; rfl
  · rw [show o + 5 + 3 = o + 8 from rfl, rg_B ho (by omega)]; rfl
  · rw [rg_B ho (by omega)]; rfl
  · rw [rg_B ho (by omega)]; rfl
theorem rgB_p {i j : Nat} (h : 16 ≤ i) : rgB i j = if i % 4 = 0 then rgMo j else if i % 4 = 1 then (-1, 11) else if i % 4 = 2 then (-1, 5) else (0, 99) := by
  unfold rgB
  rw [if_neg (by omega), if_neg (by omega), if_neg (by omega), if_neg (by omega), if_neg (by omega), if_neg (by omega), if_neg (by omega), if_neg (by omega), if_neg (by omega), if_neg (by omega), if_neg (by omega), if_neg (by omega), if_neg (by omega), if_neg (by omega), if_neg (by omega), if_neg (by omega)]
theorem mrg_past {o u : Nat} (ho : isB o) (hu : u < 8) : mrg (o + 16 + 4 * u) := by
  refine ⟨fun j => ?_, fun j => ?_, fun j => ?_, ?_, ?_⟩
  · rw [show o + 16 + 4 * u + 1 = o + (16 + 4 * u + 1) by omega, rg_B ho (by omega), rgB_p (by omega), if_neg (by omega), if_pos (by omega)]
  · rw [show o + 16 + 4 * u + 2 = o + (16 + 4 * u + 2) by omega, rg_B ho (by omega), rgB_p (by omega), if_neg (by omega), if_neg (by omega), if_pos (by omega)]
  · rw [show o + 16 + 4 * u + 3 = o + (16 + 4 * u + 3) by omega, rg_B ho (by omega), rgB_p (by omega), if_neg (by omega), if_neg (by omega), if_neg (by omega)]
  · rw [show o + 16 + 4 * u = o + (16 + 4 * u) by omega, rg_B ho (by omega), rgB_p (by omega), if_pos (by omega)]; rfl
  · rw [show o + 16 + 4 * u = o + (16 + 4 * u) by omega, rg_B ho (by omega), rgB_p (by omega), if_pos (by omega)]; rfl
/-- the r-th row of a Moment (0: the object), x over y -/
def mrow (r : Nat) (x y : Nat → Int) : Nat → Int := fun j => if (r = 0 ∧ (j = 3 ∨ j = 4)) ∨ (r ≠ 0 ∧ j < 6) then x j else y j
def mCp (M : sM) (a b : Nat) : sM := fun c => if a ≤ c ∧ c < a + 4 then mrow (c - a) (M (b + (c - a))) (M c) else M c
theorem mCp_at (M : sM) (a b c j : Nat) : mCp M a b c j = if a ≤ c ∧ c < a + 4 ∧ ((c = a ∧ (j = 3 ∨ j = 4)) ∨ (c ≠ a ∧ j < 6)) then M (b + (c - a)) j else M c j := by
  unfold mCp mrow
  by_cases h : a ≤ c ∧ c < a + 4
  · rw [if_pos h]
    show (if _ then _ else _) = _
    by_cases h2 : (c - a = 0 ∧ (j = 3 ∨ j = 4)) ∨ (c - a ≠ 0 ∧ j < 6)
    · rw [if_pos h2, if_pos (by omega)]
    · rw [if_neg h2, if_neg (by omega)]
  · rw [if_neg h, if_neg (fun z => h ⟨z.1, z.2.1⟩)]
def mCx (M : sM) (a b : Nat) : sM := sCpy (sCpy (sCpy M (b + 1) (a + 1) 0 0 6) (b + 2) (a + 2) 0 0 6) (b + 3) (a + 3) 0 0 6
theorem mCp_is {M : sM} {a b : Nat} (h : a + 4 ≤ b ∨ b + 4 ≤ a) : sSt (sSt (mCx M a b) a 3 (mCx M a b b 3)) a 4 (sSt (mCx M a b) a 3 (mCx M a b b 3) b 4) = mCp M a b := by
  have e : ∀ c j, mCx M a b c j = if a < c ∧ c < a + 4 ∧ j < 6 then M (b + (c - a)) j else M c j := by
    intro c j
    unfold mCx
    simp only [sCpy_at]
    rcases (show c = a + 1 ∨ c = a + 2 ∨ c = a + 3 ∨ ¬ (a < c ∧ c < a + 4) by omega) with rfl | rfl | rfl | hc
    · rw [if_neg (by omega), if_neg (by omega), show b + (a + 1 - a) = b + 1 by omega]
      exact if_congr' (by omega)
    · rw [if_neg (by omega), if_neg (fun z => by omega : ¬ (b + 2 = a + 1 ∧ j < 6)), if_neg (fun z => by omega : ¬ (a + 2 = a + 1 ∧ j < 6)), show b + (a + 2 - a) = b + 2 by omega]
      exact if_congr' (by omega)
    · rw [if_neg (fun z => by omega : ¬ (b + 3 = a + 2 ∧ j < 6)), if_neg (fun z => by omega : ¬ (b + 3 = a + 1 ∧ j < 6)), if_neg (fun z => by omega : ¬ (a + 3 = a + 2 ∧ j < 6)), if_neg (fun z => by omega : ¬ (a + 3 = a + 1 ∧ j < 6)), show b + (a + 3 - a) = b + 3 by omega]
      exact if_congr' (by omega)
    · rw [if_neg (by omega), if_neg (by omega), if_neg (by omega), if_neg (by omega)]
  funext c j
  rw [sSt_at, sSt_at, sSt_at, mCp_at]
  simp only [e]
  by_cases hc : c = a
  · subst hc
    by_cases h3 : j = 3
    · subst h3
      rw [if_neg (by omega), if_pos (by omega), if_neg (by omega), if_pos (by omega), Nat.sub_self]
      rfl
    · by_cases h4 : j = 4
      · subst h4
        rw [if_pos (by omega), if_neg (by omega), if_neg (by omega), if_pos (by omega), Nat.sub_self]
        rfl
      · rw [if_neg (by omega), if_neg (by omega), if_neg (by omega), if_neg (by omega)]
  · rw [if_neg (fun z => hc z.1), if_neg (fun z => hc z.1)]
    exact if_congr' (by omega)
/-! a Table at k, w wide -/
def tput (M : sM) (k w c : Nat) (v : Int) : sM := if c < w then sSt M (k + 1) ((M k 3).toNat * w + c) v else M
theorem tput_3 (M : sM) (k w c : Nat) (v : Int) (j : Nat) : tput M k w c v k j = M k j := by
  unfold tput
  split
  · rw [sSt_at, if_neg (by omega)]
  · rfl
theorem tput_ne {M : sM} {k w c a : Nat} {v : Int} (h : a ≠ k + 1) : tput M k w c v a = M a := by
  unfold tput
  split
  · exact sSt_ne h
  · rfl
def tadd (M : sM) (k w : Nat) (a b c d : Int) : sM := sSt (tput (tput (tput (tput M k w 0 a) k w 1 b) k w 2 c) k w 3 d) k 3 (M k 3 + 1)
def tcp (M : sM) (k k2 n : Nat) : sM := sSt (sCpy M (k2 + 1) (k + 1) 0 0 n) k 3 (M k2 3)
def mixR (r : Nat → Int) : Nat → Int64 → Int64
  | 0, h => h
  | n + 1, h => 31 * mixR r n h + (sI (r n)).toInt64
/-! a tide -/
def flC (M : sM) (o k : Nat) : Nat → Int := fun s => if s < k ∧ M (o + 6) s ≠ -1 then dri (M (o + 1)) (M (o + 6) s) else M (o + 6) s
def flD (M : sM) (o k : Nat) : Nat → Int := fun s => if s < k ∧ M (o + 6) s = -1 ∧ M (o + 7) s = -1 then min (M (o + 8) s + 1) 99 else M (o + 8) s
def flN (M : sM) (o k : Nat) : sM := sSr (sSr M (o + 6) (flC M o k)) (o + 8) (flD M o k)
theorem flN_at (M : sM) (o k a b : Nat) : flN M o k a b = if a = o + 8 then flD M o k b else if a = o + 6 then flC M o k b else M a b := by
  unfold flN; rw [sSr_at, sSr_at]
theorem flN_ne {M : sM} {o k a : Nat} (h : a ≠ o + 6) (h2 : a ≠ o + 8) : flN M o k a = M a := by unfold flN; rw [sSr_ne h2, sSr_ne h]
theorem flN_6 (M : sM) (o k : Nat) {s : Nat} (h : k ≤ s) : flN M o k (o + 6) s = M (o + 6) s := by
  rw [flN_at, if_neg (by omega), if_pos rfl]; unfold flC; rw [if_neg (by omega)]
theorem flN_8 (M : sM) (o k : Nat) {s : Nat} (h : k ≤ s) : flN M o k (o + 8) s = M (o + 8) s := by
  rw [flN_at, if_pos rfl]; unfold flD; rw [if_neg (by omega)]
theorem flN_0 (M : sM) (o : Nat) : M = flN M o 0 := by
  funext a b
  rw [flN_at]
  unfold flC flD
  split
  · rw [if_neg (by omega)]; subst_vars; rfl
  · split
    · rw [if_neg (by omega)]; subst_vars; rfl
    · rfl
theorem flN_a {M : sM} {o k : Nat} (h : M (o + 6) k ≠ -1) : sSt (flN M o k) (o + 6) k (driN (M (o + 1)) 1 (M (o + 6) k)) = flN M o (k + 1) := by
  funext a b
  rw [sSt_at, flN_at, flN_at]
  unfold flC flD
  by_cases h8 : a = o + 8
  · subst h8
    rw [if_neg (by omega), if_pos rfl, if_pos rfl]
    apply if_congr'
    constructor
    · intro z; exact ⟨by omega, z.2⟩
    · intro z; refine ⟨?_, z.2⟩
      rcases Nat.lt_succ_iff_lt_or_eq.mp z.1 with q | q
      · exact q
      · rw [q] at z; exact absurd z.2.1 h
  · rw [if_neg h8, if_neg h8]
    by_cases h6 : a = o + 6
    · subst h6
      rw [if_pos rfl, if_pos rfl]
      by_cases hb : b = k
      · subst hb
        rw [if_pos ⟨rfl, rfl⟩, if_pos ⟨by omega, h⟩]
        rfl
      · rw [if_neg (fun z => hb z.2)]
        exact if_congr' (by omega)
    · rw [if_neg (fun z => h6 z.1), if_neg h6, if_neg h6]
theorem flN_b {M : sM} {o k : Nat} (h : M (o + 6) k = -1) (h2 : M (o + 7) k = -1) : sSt (flN M o k) (o + 8) k (min (M (o + 8) k + 1) 99) = flN M o (k + 1) := by
  funext a b
  rw [sSt_at, flN_at, flN_at]
  unfold flC flD
  by_cases h8 : a = o + 8
  · subst h8
    rw [if_pos rfl, if_pos rfl]
    by_cases hb : b = k
    · subst hb
      rw [if_pos ⟨rfl, rfl⟩, if_pos ⟨by omega, h, h2⟩]
    · rw [if_neg (fun z => hb z.2)]
      exact if_congr' (by omega)
  · rw [if_neg (fun z => h8 z.1), if_neg h8, if_neg h8]
    by_cases h6 : a = o + 6
    · subst h6
      rw [if_pos rfl, if_pos rfl]
      apply if_congr'
      constructor
      · intro z; exact ⟨by omega, z.2⟩
      · intro z; refine ⟨?_, z.2⟩
        rcases Nat.lt_succ_iff_lt_or_eq.mp z.1 with q | q
        · exact q
        · rw [q] at z; exact absurd h z.2
    · rw [if_neg h6, if_neg h6]
theorem flN_c {M : sM} {o k : Nat} (h : M (o + 6) k = -1) (h2 : M (o + 7) k ≠ -1) : flN M o k = flN M o (k + 1) := by
  funext a b
  rw [flN_at, flN_at]
  unfold flC flD
  by_cases h8 : a = o + 8
  · rw [if_pos h8, if_pos h8]
    apply if_congr'
    constructor
    · intro z; exact ⟨by omega, z.2⟩
    · intro z; refine ⟨?_, z.2⟩
      rcases Nat.lt_succ_iff_lt_or_eq.mp z.1 with q | q
      · exact q
      · rw [q] at z; exact absurd z.2.2 h2
  · rw [if_neg h8, if_neg h8]
    by_cases h6 : a = o + 6
    · rw [if_pos h6, if_pos h6]
      apply if_congr'
      constructor
      · intro z; exact ⟨by omega, z.2⟩
      · intro z; refine ⟨?_, z.2⟩
        rcases Nat.lt_succ_iff_lt_or_eq.mp z.1 with q | q
        · exact q
        · rw [q] at z; exact absurd h z.2
    · rw [if_neg h6, if_neg h6]
def bFlo (M : sM) (o : Nat) : sM := sSt (flN M o (nS M o)) (o + 5) 4 (M (o + 5) 4 + 1)
def bFlos (M : sM) (o : Nat) : Nat → sM
  | 0 => M
  | n + 1 => bFlo (bFlos M o n) o
theorem bFlo_tide (M : sM) (o : Nat) : bFlo M o (o + 5) 4 = M (o + 5) 4 + 1 := by unfold bFlo; rw [sSt_eq]
theorem bFlo_ne {M : sM} {o a : Nat} (h5 : a ≠ o + 5) (h6 : a ≠ o + 6) (h8 : a ≠ o + 8) : bFlo M o a = M a := by unfold bFlo; rw [sSt_ne h5, flN_ne h6 h8]
theorem bFlos_tide (M : sM) (o : Nat) : ∀ n, bFlos M o n (o + 5) 4 = M (o + 5) 4 + n
  | 0 => by show M (o + 5) 4 = _; omega
  | n + 1 => by show bFlo _ o (o + 5) 4 = _; rw [bFlo_tide, bFlos_tide M o n]; omega
/-- n tides, none beyond 999 -/
def bPas (M : sM) (o n : Nat) : sM := bFlos M o (min n (999 - M (o + 5) 4).toNat)
/-! a walk without its tide -/
def gaC (M : sM) (o k : Nat) (c : Int) : Nat → Int := fun s => if s < k ∧ M (o + 6) s = c then -1 else M (o + 6) s
def gaD (M : sM) (o k : Nat) (c : Int) : Nat → Int := fun s => if s < k ∧ M (o + 6) s = c then 0 else M (o + 8) s
def gaN (M : sM) (o k : Nat) (c : Int) : sM := sSr (sSr (sSt M (o + 5) 3 c) (o + 6) (gaC M o k c)) (o + 8) (gaD M o k c)
theorem gaN_at (M : sM) (o k : Nat) (c : Int) (a b : Nat) : gaN M o k c a b = if a = o + 8 then gaD M o k c b else if a = o + 6 then gaC M o k c b else sSt M (o + 5) 3 c a b := by
  unfold gaN; rw [sSr_at, sSr_at]
theorem gaN_6 (M : sM) (o k : Nat) (c : Int) {s : Nat} (h : k ≤ s) : gaN M o k c (o + 6) s = M (o + 6) s := by
  rw [gaN_at, if_neg (by omega), if_pos rfl]; unfold gaC; rw [if_neg (by omega)]
theorem gaN_5 (M : sM) (o k : Nat) (c : Int) : gaN M o k c (o + 5) 3 = c := by
  rw [gaN_at, if_neg (by omega), if_neg (by omega), sSt_eq]
theorem gaN_o (M : sM) (o k : Nat) (c : Int) (j : Nat) : gaN M o k c o j = M o j := by
  rw [gaN_at, if_neg (by omega), if_neg (by omega), sSt_at, if_neg (by omega)]
theorem gaN_0 (M : sM) (o : Nat) (c : Int) : sSt M (o + 5) 3 c = gaN M o 0 c := by
  funext a b
  rw [gaN_at]
  unfold gaC gaD
  by_cases h8 : a = o + 8
  · rw [if_pos h8, if_neg (by omega), sSt_at, if_neg (by omega), h8]
  · rw [if_neg h8]
    by_cases h6 : a = o + 6
    · rw [if_pos h6, if_neg (by omega), sSt_at, if_neg (by omega), h6]
    · rw [if_neg h6]
theorem gaN_a {M : sM} {o k : Nat} {c : Int} (h : M (o + 6) k = c) : sSt (sSt (gaN M o k c) (o + 6) k (-1)) (o + 8) k 0 = gaN M o (k + 1) c := by
  funext a b
  rw [sSt_at, sSt_at, gaN_at, gaN_at]
  unfold gaC gaD
  by_cases h8 : a = o + 8
  · subst h8
    rw [if_pos rfl, if_pos rfl]
    by_cases hb : b = k
    · subst hb
      rw [if_pos ⟨rfl, rfl⟩, if_pos ⟨by omega, h⟩]
    · rw [if_neg (fun z => hb z.2), if_neg (by omega)]
      exact if_congr' (by omega)
  · rw [if_neg (fun z => h8 z.1), if_neg h8, if_neg h8]
    by_cases h6 : a = o + 6
    · subst h6
      rw [if_pos rfl, if_pos rfl]
      by_cases hb : b = k
      · subst hb
        rw [if_pos ⟨rfl, rfl⟩, if_pos ⟨by omega, h⟩]
      · rw [if_neg (fun z => hb z.2)]
        exact if_congr' (by omega)
    · rw [if_neg (fun z => h6 z.1), if_neg h6, if_neg h6]
theorem gaN_b {M : sM} {o k : Nat} {c : Int} (h : M (o + 6) k ≠ c) : gaN M o k c = gaN M o (k + 1) c := by
  have key : ∀ b, (b < k ∧ M (o + 6) b = c) ↔ (b < k + 1 ∧ M (o + 6) b = c) := by
    intro b
    constructor
    · intro z; exact ⟨by omega, z.2⟩
    · intro z; refine ⟨?_, z.2⟩
      rcases Nat.lt_succ_iff_lt_or_eq.mp z.1 with q | q
      · exact q
      · rw [q] at z; exact absurd z.2 h
  unfold gaN
  rw [show gaC M o (k + 1) c = gaC M o k c from funext fun b => if_congr' (key b).symm, show gaD M o (k + 1) c = gaD M o k c from funext fun b => if_congr' (key b).symm]
def bGat (M : sM) (o : Nat) (st : Int) : sM := gaN M o (nS M o) (max 0 (min 11 (M (o + 5) 3 + st)))
def bGaC (M : sM) (o : Nat) (st : Int) : Int := cnt (fun s => M (o + 6) s = max 0 (min 11 (M (o + 5) 3 + st))) (nS M o)
/-! what may be undone -/
def shf (M : sM) (o u : Nat) : sM := fun c => if o + 16 ≤ c ∧ c < o + 12 + 4 * u then mrow ((c - o) % 4) (M (c + 4)) (M c) else M c
theorem shf_out {M : sM} {o u c : Nat} (h : ¬ (o + 16 ≤ c ∧ c < o + 12 + 4 * u)) : shf M o u c = M c := if_neg h
theorem shf_1 (M : sM) (o : Nat) : M = shf M o 1 := by funext c; rw [shf_out (by omega)]
theorem shf_s {M : sM} {o u : Nat} (h1 : 1 ≤ u) : mCp (shf M o u) (o + 16 + 4 * (u - 1)) (o + 16 + 4 * u) = shf M o (u + 1) := by
  funext c
  unfold mCp
  by_cases h : o + 16 + 4 * (u - 1) ≤ c ∧ c < o + 16 + 4 * (u - 1) + 4
  · rw [if_pos h, shf_out (by omega), shf_out (by omega)]
    unfold shf
    rw [if_pos (by omega), show (c - o) % 4 = c - (o + 16 + 4 * (u - 1)) by omega, show o + 16 + 4 * u + (c - (o + 16 + 4 * (u - 1))) = c + 4 by omega]
  · rw [if_neg h]
    unfold shf
    exact if_congr' (by omega)
def bRem (M : sM) (o : Nat) : sM :=
  if M o 11 < 8 then sSt (mCp M (o + 16 + 4 * nU M o) (o + 5)) o 11 (M o 11 + 1)
  else sSt (mCp (shf M o 8) (o + 16 + 4 * 7) (o + 5)) o 11 8
def bUnd (M : sM) (o : Nat) : sM := mCp (sSt M o 11 (M o 11 - 1)) (o + 5) (o + 16 + 4 * (nU M o - 1))
/-! as at first -/
def rsC (M : sM) (o k : Nat) : sM := sSr M (o + 1) (fun j => if j < k then 0 else M (o + 1) j)
theorem rsC_0 (M : sM) (o : Nat) : M = rsC M o 0 := by
  unfold rsC
  rw [show (fun j => if j < 0 then 0 else M (o + 1) j) = M (o + 1) from funext fun j => if_neg (by omega), sSr_id]
theorem rsC_s (M : sM) (o k : Nat) : sSt (rsC M o k) (o + 1) k 0 = rsC M o (k + 1) := by
  funext a b
  unfold rsC
  rw [sSt_at, sSr_at, sSr_at]
  by_cases ha : a = o + 1
  · rw [if_pos ha, if_pos ha]
    by_cases hb : b = k
    · rw [if_pos ⟨ha, hb⟩, if_pos (by omega)]
    · rw [if_neg (fun z => hb z.2)]
      exact if_congr' (by omega)
  · rw [if_neg (fun z => ha z.1), if_neg ha, if_neg ha]
def bRes (M : sM) (o : Nat) : sM := sSt (sSt (sSt (sSt (sSt (sSt (sSt (sSt (rsC M o 12) (o + 5) 3 0) (o + 5) 4 0) (o + 10) 3 0) (o + 12) 3 0) (o + 14) 3 0) o 9 0) o 10 0) o 11 0
def bAdS (M : sM) (o : Nat) (k w c : Int) : sM := sSt (sSt (sSt (sSt (sSt (sSt M (o + 2) (nS M o) k) (o + 3) (nS M o) w) (o + 6) (nS M o) c) (o + 7) (nS M o) (-1)) (o + 8) (nS M o) 0) o 9 (M o 9 + 1)
def bAdI (M : sM) (o : Nat) (k : Int) : sM := sSt (sSt M (o + 4) (nC M o) k) o 10 (M o 10 + 1)
/-! a Beach's copy: cell by cell -/
def brow (i : Nat) (x y : Nat → Int) : Nat → Int := fun j =>
  if (i = 0 ∧ 9 ≤ j ∧ j ≤ 11) ∨ (i = 1 ∧ j < 12) ∨ (2 ≤ i ∧ i ≤ 4 ∧ j < 6) ∨ (i = 5 ∧ (j = 3 ∨ j = 4)) ∨ (6 ≤ i ∧ i ≤ 8 ∧ j < 6) ∨ ((i = 10 ∨ i = 12 ∨ i = 14) ∧ j = 3) ∨ (i = 11 ∧ j < 10) ∨ (i = 13 ∧ j < 24) ∨ (i = 15 ∧ j < 18) ∨ (16 ≤ i ∧ ((i % 4 = 0 ∧ (j = 3 ∨ j = 4)) ∨ (i % 4 ≠ 0 ∧ j < 6))) then x j else y j
/-- the cells 1 .. i - 1 are copied, and 0 if z -/
def bcp (M : sM) (a b : Nat) (P : Nat → Prop) [DecidablePred P] : sM := fun c => if a ≤ c ∧ c < a + 48 ∧ P (c - a) then brow (c - a) (M (b + (c - a))) (M c) else M c
def bCpy (M : sM) (a b : Nat) : sM := fun c => if a ≤ c ∧ c < a + 48 then brow (c - a) (M (b + (c - a))) (M c) else M c
theorem bcp_out {M : sM} {a b c : Nat} {P : Nat → Prop} [DecidablePred P] (h : ¬ (a ≤ c ∧ c < a + 48 ∧ P (c - a))) : bcp M a b P c = M c := if_neg h
theorem bcp_in {M : sM} {a b c : Nat} {P : Nat → Prop} [DecidablePred P] (h : a ≤ c ∧ c < a + 48 ∧ P (c - a)) : bcp M a b P c = brow (c - a) (M (b + (c - a))) (M c) := if_pos h
/-- one more row -/
theorem bcp_row {M : sM} {a b i n : Nat} {P R : Nat → Prop} [DecidablePred P] [DecidablePred R] (hab : a + 48 ≤ b ∨ b + 48 ≤ a) (hi : i < 48) (hP : ¬ P i) (hR : ∀ x, R x ↔ P x ∨ x = i) (hr : ∀ x y j, brow i x y j = if j < n then x j else y j) : sCpy (bcp M a b P) (b + i) (a + i) 0 0 n = bcp M a b R := by
  funext c j
  rw [sCpy_at]
  by_cases hc : c = a + i
  · subst hc
    rw [bcp_out (c := b + i) (by omega), bcp_out (c := a + i) (by rw [Nat.add_sub_cancel_left]; exact fun z => hP z.2.2)]
    have hin : R (a + i - a) := by rw [Nat.add_sub_cancel_left]; exact (hR i).mpr (Or.inr rfl)
    rw [bcp_in (P := R) (c := a + i) ⟨by omega, by omega, hin⟩, Nat.add_sub_cancel_left, hr]
    exact if_congr' (by omega)
  · rw [if_neg (fun z => hc z.1)]
    unfold bcp
    by_cases h : a ≤ c ∧ c < a + 48
    · have e : P (c - a) ↔ R (c - a) := by
        rw [hR]
        exact ⟨Or.inl, fun z => z.elim id (fun q => absurd (show c = a + i by omega) hc)⟩
      by_cases hp : P (c - a)
      · rw [if_pos ⟨h.1, h.2, hp⟩, if_pos ⟨h.1, h.2, e.mp hp⟩]
      · rw [if_neg (fun z => hp z.2.2), if_neg (fun z => hp (e.mpr z.2.2))]
    · rw [if_neg (fun z => h ⟨z.1, z.2.1⟩), if_neg (fun z => h ⟨z.1, z.2.1⟩)]
theorem bcp_mom {M : sM} {a b i : Nat} {P R : Nat → Prop} [DecidablePred P] [DecidablePred R] (hab : a + 48 ≤ b ∨ b + 48 ≤ a) (hi : i + 4 ≤ 48) (hP : ∀ x, i ≤ x → x < i + 4 → ¬ P x) (hR : ∀ x, R x ↔ P x ∨ (i ≤ x ∧ x < i + 4)) (h5 : i = 5 ∨ (16 ≤ i ∧ i % 4 = 0)) : mCp (bcp M a b P) (a + i) (b + i) = bcp M a b R := by
  funext c j
  rw [mCp_at]
  by_cases hc : a + i ≤ c ∧ c < a + i + 4
  · rw [bcp_out (c := b + i + (c - (a + i))) (by omega), bcp_out (c := c) (fun z => hP (c - a) (by omega) (by omega) z.2.2)]
    rw [bcp_in (P := R) (c := c) ⟨by omega, by omega, (hR (c - a)).mpr (Or.inr ⟨by omega, by omega⟩)⟩, show b + i + (c - (a + i)) = b + (c - a) by omega]
    unfold brow
    exact if_congr' (by omega)
  · rw [if_neg (fun z => hc ⟨z.1, z.2.1⟩)]
    unfold bcp
    by_cases h : a ≤ c ∧ c < a + 48
    · have e : P (c - a) ↔ R (c - a) := by
        rw [hR]
        exact ⟨Or.inl, fun z => z.elim id (fun q => absurd (show a + i ≤ c ∧ c < a + i + 4 by omega) hc)⟩
      by_cases hp : P (c - a)
      · rw [if_pos ⟨h.1, h.2, hp⟩, if_pos ⟨h.1, h.2, e.mp hp⟩]
      · rw [if_neg (fun z => hp z.2.2), if_neg (fun z => hp (e.mpr z.2.2))]
    · rw [if_neg (fun z => h ⟨z.1, z.2.1⟩), if_neg (fun z => h ⟨z.1, z.2.1⟩)]
theorem bcp_tab {M : sM} {a b i n : Nat} {P R : Nat → Prop} [DecidablePred P] [DecidablePred R] (hab : a + 48 ≤ b ∨ b + 48 ≤ a) (hi : i + 2 ≤ 48) (hP : ¬ P i ∧ ¬ P (i + 1)) (hR : ∀ x, R x ↔ P x ∨ x = i ∨ x = i + 1) (h5 : (i = 10 ∧ n = 10) ∨ (i = 12 ∧ n = 24) ∨ (i = 14 ∧ n = 18)) : tcp (bcp M a b P) (a + i) (b + i) n = bcp M a b R := by
  funext c j
  unfold tcp
  rw [sSt_at, sCpy_at]
  by_cases hc : c = a + i
  · subst hc
    rw [if_neg (by omega : ¬ (a + i = a + i + 1 ∧ j < n)), bcp_out (c := b + i) (by omega), bcp_out (c := a + i) (by rw [Nat.add_sub_cancel_left]; exact fun z => hP.1 z.2.2)]
    have hin : R (a + i - a) := by rw [Nat.add_sub_cancel_left]; exact (hR i).mpr (Or.inr (Or.inl rfl))
    rw [bcp_in (P := R) (c := a + i) ⟨by omega, by omega, hin⟩, Nat.add_sub_cancel_left]
    unfold brow
    by_cases hj : j = 3
    · subst hj
      rw [if_pos ⟨rfl, rfl⟩, if_pos (by omega)]
    · rw [if_neg (fun z => hj z.2), if_neg (by omega)]
  · rw [if_neg (fun z => hc z.1)]
    by_cases hc1 : c = a + i + 1
    · subst hc1
      rw [bcp_out (c := b + i + 1) (by omega), bcp_out (c := a + i + 1) (by rw [show a + i + 1 - a = i + 1 by omega]; exact fun z => hP.2 z.2.2)]
      have hin : R (a + i + 1 - a) := by rw [show a + i + 1 - a = i + 1 by omega]; exact (hR (i + 1)).mpr (Or.inr (Or.inr rfl))
      rw [bcp_in (P := R) (c := a + i + 1) ⟨by omega, by omega, hin⟩, show a + i + 1 - a = i + 1 by omega, show b + (i + 1) = b + i + 1 by omega]
      unfold brow
      exact if_congr' (by omega)
    · rw [if_neg (fun z => hc1 z.1)]
      unfold bcp
      by_cases h : a ≤ c ∧ c < a + 48
      · have e : P (c - a) ↔ R (c - a) := by
          rw [hR]
          exact ⟨Or.inl, fun z => z.elim id (fun q => absurd (show c = a + i ∨ c = a + i + 1 by omega) (fun w => w.elim hc hc1))⟩
        by_cases hp : P (c - a)
        · rw [if_pos ⟨h.1, h.2, hp⟩, if_pos ⟨h.1, h.2, e.mp hp⟩]
        · rw [if_neg (fun z => hp z.2.2), if_neg (fun z => hp (e.mpr z.2.2))]
      · rw [if_neg (fun z => h ⟨z.1, z.2.1⟩), if_neg (fun z => h ⟨z.1, z.2.1⟩)]
theorem bcp_start (M : sM) (a b : Nat) : M = bcp M a b (fun x => x < 1 ∧ 1 ≤ x) := by
  funext c
  rw [bcp_out (by omega)]
theorem bCpy_in {M : sM} {a b c : Nat} (h : a ≤ c ∧ c < a + 48) : bCpy M a b c = brow (c - a) (M (b + (c - a))) (M c) := if_pos h
theorem bCpy_out {M : sM} {a b c : Nat} (h : ¬ (a ≤ c ∧ c < a + 48)) : bCpy M a b c = M c := if_neg h
theorem bcp_end {M : sM} {a b : Nat} {P : Nat → Prop} [DecidablePred P] (hP : ∀ x, x < 48 → (P x ↔ x ≠ 0 ∧ x ≠ 9)) : sSt (sSt (sSt (bcp M a b P) a 9 (M b 9)) a 10 (M b 10)) a 11 (M b 11) = bCpy M a b := by
  funext c j
  rw [sSt_at, sSt_at, sSt_at]
  by_cases hc : c = a
  · subst hc
    have h0 : ¬ P 0 := fun z => ((hP 0 (by omega)).mp z).1 rfl
    rw [bcp_out (c := c) (by rw [Nat.sub_self]; exact fun z => h0 z.2.2), bCpy_in (c := c) ⟨by omega, by omega⟩, Nat.sub_self, Nat.add_zero]
    unfold brow
    by_cases h9 : j = 9
    · subst h9
      simp
    · by_cases h10 : j = 10
      · subst h10
        simp
      · by_cases h11 : j = 11
        · subst h11
          simp
        · rw [if_neg (fun z => h11 z.2), if_neg (fun z => h10 z.2), if_neg (fun z => h9 z.2), if_neg (by omega)]
  · rw [if_neg (fun z => hc z.1), if_neg (fun z => hc z.1), if_neg (fun z => hc z.1)]
    by_cases h : a ≤ c ∧ c < a + 48
    · rw [bCpy_in h]
      by_cases h9 : c - a = 9
      · rw [bcp_out (fun z => ((hP _ (by omega)).mp z.2.2).2 h9), h9]
        unfold brow
        rw [if_neg (by omega)]
      · rw [bcp_in ⟨h.1, h.2, (hP _ (by omega)).mpr ⟨by omega, h9⟩⟩]
    · rw [bCpy_out h, bcp_out (fun z => h ⟨z.1, z.2.1⟩)]
