/-! the reference: swaps, gulls, years, records, the digest -/
def lcI (x y : Int64) : Int := (lg_cmp x y).toInt
theorem lcI_c (x y : Int64) : (lcI x y = 1 ∧ x ≠ y) ∨ (lcI x y = 0 ∧ x = y) ∨ (lcI x y = -1 ∧ x ≠ y) := by
  unfold lcI lg_cmp
  by_cases h1 : x > y
  · rw [if_pos h1]
    exact Or.inl ⟨by decide, fun z => by rw [z] at h1; exact absurd h1 (by simp)⟩
  · rw [if_neg h1]
    by_cases h2 : x = y
    · rw [if_pos h2]
      exact Or.inr (Or.inl ⟨by decide, h2⟩)
    · rw [if_neg h2]
      exact Or.inr (Or.inr ⟨by decide, h2⟩)
section R4
variable {p : Program} {l : Launch} {e : Env} {R : Room} {s : State} {m : MethodId} {args : Array Value} {below : List Frame} {meth : Method} {c : Code} {D : va_G} {G : sG} {nL cs sl : Nat} {Q : State → Prop} {cc : ByteArray} {own : String}
variable {pc : Nat} {lv : List (Nat × Value)} {st : List Value} {M : sM} {L : sL}
theorem at_lcmp (C : sCx p s m args c cc own nL D G) {x y : Int64} (hd : decode cc pc = .ok (.lcmp, 1)) (k : sAt p l e R s m args below meth c D G nL cs sl Q (pc + 1) lv (.int (sI (lcI x y)) :: st) M L) : sAt p l e R s m args below meth c D G nL cs sl Q pc lv (.long y :: .long x :: st) M L := fun H locs ls hP hS hl => by
  refine W.lcmp C.1 C.2.1 hd ?_
  have h := k H locs ls hP hS hl
  rw [show sI (lcI x y) = lg_cmp x y from (sI_of _).symm] at h
  exact h
end R4
theorem lN_inj {a b : Nat} (ha : a < 2 ^ 31) (hb : b < 2 ^ 31) (h : lN a = lN b) : a = b := (lN_eq ha hb).mp h
theorem lN_ne0 {a : Nat} (ha : a < 2 ^ 31) (h : a ≠ 0) : ¬ lN a = 0 := fun z => h (lN_inj ha (by decide) (z.trans (show (0 : Int64) = lN 0 from rfl)))
/-- the greatest common divisor, step by step: from (a, b) one comes to (x, 0) -/
theorem gcd_st (a b : Nat) : Nat.gcd a b = Nat.gcd b (a % b) := by rw [Nat.gcd_comm b (a % b), ← Nat.gcd_rec, Nat.gcd_comm]
def qFr (L : sL) (x y : Nat) : sL := sSl (sSl L 258 31 (lN (x / Nat.gcd x y))) 258 32 (lN (y / Nat.gcd x y))
def qgS (M : sM) : Int := sumI (fun s => if 0 ≤ M 263 s then qWei M s else 0) (qn M)
theorem qgS_r {M : sM} (hT : TInv M) : ∀ n, 0 ≤ sumI (fun s => if 0 ≤ M 263 s then qWei M s else 0) n ∧ sumI (fun s => if 0 ≤ M 263 s then qWei M s else 0) n ≤ n * 22 := by
  refine sumI_r (fun n => ?_)
  have := qWei_r hT n
  split <;> omega
theorem sI_l {b : Int} (h : 0 ≤ b) (h2 : b < 2 ^ 31) : (sI b).toInt64 = lN b.toNat := by
  obtain ⟨n, rfl⟩ : ∃ n : Nat, b = n := ⟨b.toNat, by omega⟩
  rw [sI_nI, nI_l (by omega), Int.toNat_natCast]
theorem lsum_y {a b : Int} (ha : 0 ≤ a) (hb : 0 ≤ b) (h2 : b < 2 ^ 31) : lN a.toNat + (sI b).toInt64 = lN (a + b).toNat := by
  rw [sI_l hb h2, lN_add, show a.toNat + b.toNat = (a + b).toNat by omega]
theorem lsum_n (a : Int) : lN a.toNat + 0 = lN (a + 0).toNat := by rw [Int64.add_zero, Int.add_zero]
theorem lprod {a b : Int} (ha : 0 ≤ a) (hb : 0 ≤ b) (h2 : b < 2 ^ 31) : lN a.toNat * (sI b).toInt64 = lN (a.toNat * b.toNat) := by rw [sI_l hb h2, lN_mul]
def qmGulls (L : sL) (M : sM) (c : Int) : sL := if 0 ≤ c ∧ c ≤ 10 then qFr L ((qgS M).toNat * (10 - c).toNat) 10 else L
def qrPart (M : sM) (L : sL) (w : Int) : Int64 := if w = 0 then L 258 31 else if w = 1 then L 258 32 else (sI (-2)).toInt64
/-- following what is held, from caller to caller -/
def qfl (M : sM) (i : Nat) : Nat → Int → Int
  | 0, k => k
  | f + 1, k => if (i : Int) < k then qfl M i f (qGoe M k.toNat) else k
theorem qfl_n {M : sM} {i f : Nat} {k : Int} (h : k ≤ i) : qfl M i f k = k := by
  cases f with
  | zero => rfl
  | succ f => exact if_neg (by omega)
theorem qfl_y {M : sM} {i f : Nat} {k : Int} (h : (i : Int) < k) (hf : 0 < f) : qfl M i f k = qfl M i (f - 1) (qGoe M k.toNat) := by
  obtain ⟨g, rfl⟩ : ∃ g, f = g + 1 := ⟨f - 1, by omega⟩
  exact if_pos h
def qsw (M : sM) : Nat → Int
  | 0 => 0
  | i + 1 => qsw M i + (if qGoe M i ≠ -1 then 1 else 0) - (if qfl M i 6 (qGoe M i) = i then 1 else 0)
theorem qsw_r (M : sM) : ∀ n : Nat, -(n : Int) ≤ qsw M n ∧ qsw M n ≤ n
  | 0 => ⟨Int.le_refl _, Int.le_refl _⟩
  | n + 1 => by
    have h := qsw_r M n
    unfold qsw
    repeat' split
    all_goals omega
def qrSwaps (M : sM) : Int := qsw M (qc M)
/-! years: on, and back -/
def qYDo (M : sM) (i : Nat) : sM := if (i : Int) < M 258 2 ∧ qCho M i ≠ -1 then qTk M i (qCho M i).toNat else M
def qYSt (M : sM) (x : Nat) : sM := qYDo (qGo M ((x / 65536 % 3 : Nat) - 1)) (x / 1048576 % 6)
def qYIt (M : sM) (x : Nat) : Nat → sM
  | 0 => M
  | n + 1 => qYSt (qYIt M x n) (lcgN x (n + 1))
def qY0 (M : sM) : sM := sSt (qLay M 273 0) 258 23 1
def qYE (M : sM) (x n : Nat) : sM := sSt (qYIt (qY0 M) x n) 258 23 0
def qrYears (M : sM) (x n : Int) : Int := if okYears x n then qRig (qYE M x.toNat n.toNat) else -2
def qmYears (M : sM) (x n : Int) : sM := if okYears x n then qTak (qYE M x.toNat n.toNat) 273 0 else qBad M
theorem qGo_t (M : sM) (d : Int) (h : M 258 23 ≠ 0) : qGo M d 258 3 = M 258 3 + 1 := by
  unfold qGo
  rw [if_pos (Or.inr h)]
  rfl
theorem qGo_b (M : sM) (d : Int) : qGo M d 258 23 = M 258 23 := by
  unfold qGo
  split
  · rfl
  · rfl
theorem qYDo_t (M : sM) (i : Nat) : qYDo M i 258 3 = M 258 3 ∧ qYDo M i 258 23 = M 258 23 := by
  unfold qYDo
  split
  · exact ⟨rfl, rfl⟩
  · exact ⟨rfl, rfl⟩
theorem qYIt_t (M : sM) (x : Nat) (h : M 258 23 ≠ 0) : ∀ n, qYIt M x n 258 3 = M 258 3 + n ∧ qYIt M x n 258 23 = M 258 23
  | 0 => ⟨by show M 258 3 = _; omega, rfl⟩
  | n + 1 => by
    obtain ⟨h1, h2⟩ := qYIt_t M x h n
    show qYDo _ _ 258 3 = _ ∧ qYDo _ _ 258 23 = _
    rw [(qYDo_t _ _).1, (qYDo_t _ _).2, qGo_b, qGo_t _ _ (by rw [h2]; exact h), h1, h2]
    exact ⟨by omega, rfl⟩
theorem qy_y {M : sM} {i : Nat} (h : (i : Int) < M 258 2) (h2 : qCho M i ≠ -1) : qTk M i (qCho M i).toNat = qYDo M i := (if_pos ⟨h, h2⟩).symm
theorem qy_n {M : sM} {i : Nat} (h : ¬ ((i : Int) < M 258 2 ∧ qCho M i ≠ -1)) : M = qYDo M i := (if_neg h).symm
/-! all of it as one record -/
def liv (M : sM) (j : Nat) : Int :=
  if j < 20 then qMo M j
  else if j = 20 then M 258 1 else if j = 21 then M 258 2 else if j = 22 then M 258 5 else if j = 23 then M 258 6 else if j = 24 then M 258 7 else if j = 25 then M 258 25
  else if j < 38 then M 260 (j - 26)
  else if j < 44 then M 261 (j - 38)
  else if j < 50 then M 262 (j - 44)
  else if j < 56 then M 266 (j - 50)
  else if j < 66 then M 267 (j - 56)
  else if j < 90 then M 268 (j - 66)
  else if j < 108 then M 269 (j - 90)
  else M 272 (j - 108)
theorem liv_r {M : sM} (hT : TInv M) {j : Nat} (hj : j < 268) : (rgE j).1 ≤ liv M j ∧ liv M j ≤ (rgE j).2 := by
  unfold liv rgE
  by_cases h0 : j < 20
  · rw [if_pos h0, if_pos h0]; exact qMo_r hT h0
  rw [if_neg h0, if_neg h0]
  by_cases h1 : j = 20
  · rw [if_pos h1, if_pos (by omega)]; exact tv hT (k := 258) (j := 1) rfl
  rw [if_neg h1]
  by_cases h2 : j = 21
  · rw [if_pos h2, if_pos (by omega)]; exact tv hT (k := 258) (j := 2) rfl
  rw [if_neg h2, if_neg (by omega)]
  by_cases h3 : j = 22
  · rw [if_pos h3, if_pos h3]; exact tv hT (k := 258) (j := 5) rfl
  rw [if_neg h3, if_neg h3]
  by_cases h4 : j = 23
  · rw [if_pos h4, if_pos (by omega)]; exact tv hT (k := 258) (j := 6) rfl
  rw [if_neg h4]
  by_cases h5 : j = 24
  · rw [if_pos h5, if_pos (by omega)]; exact tv hT (k := 258) (j := 7) rfl
  rw [if_neg h5, if_neg (by omega)]
  by_cases h6 : j = 25
  · rw [if_pos h6, if_pos h6]; exact tv hT (k := 258) (j := 25) rfl
  rw [if_neg h6, if_neg h6]
  by_cases h7 : j < 38
  · rw [if_pos h7, if_pos h7]; exact tv hT (k := 260) rfl
  rw [if_neg h7, if_neg h7]
  by_cases h8 : j < 44
  · rw [if_pos h8, if_pos h8]; exact tv hT (k := 261) rfl
  rw [if_neg h8, if_neg h8]
  by_cases h9 : j < 50
  · rw [if_pos h9, if_pos h9]; exact tv hT (k := 262) rfl
  rw [if_neg h9, if_neg h9]
  by_cases h10 : j < 56
  · rw [if_pos h10, if_pos h10]; exact tv hT (k := 266) rfl
  rw [if_neg h10, if_neg h10]
  by_cases h11 : j < 66
  · rw [if_pos h11, if_pos h11]; exact tv hT (k := 267) rfl
  rw [if_neg h11, if_neg h11]
  by_cases h12 : j < 90
  · rw [if_pos h12, if_pos h12]; exact tv hT (k := 268) rfl
  rw [if_neg h12, if_neg h12]
  by_cases h13 : j < 108
  · rw [if_pos h13, if_pos h13]; exact tv hT (k := 269) rfl
  rw [if_neg h13, if_neg h13]
  generalize j - 108 = i
  have h := hT 272 i
  rw [show rg 272 i = rgM (i % 20) from rfl] at h
  exact h
theorem liv_cu (M : sM) {k : Nat} (h : k < 12) : liv M (26 + k) = M 260 k := by
  unfold liv
  rw [if_neg (by omega), if_neg (by omega), if_neg (by omega), if_neg (by omega), if_neg (by omega), if_neg (by omega), if_neg (by omega), if_pos (by omega), show 26 + k - 26 = k by omega]
theorem liv_kd (M : sM) {k : Nat} (h : k < 6) : liv M (38 + k) = M 261 k := by
  unfold liv
  rw [if_neg (by omega), if_neg (by omega), if_neg (by omega), if_neg (by omega), if_neg (by omega), if_neg (by omega), if_neg (by omega), if_neg (by omega), if_pos (by omega), show 38 + k - 38 = k by omega]
theorem liv_wt (M : sM) {k : Nat} (h : k < 6) : liv M (44 + k) = M 262 k := by
  unfold liv
  rw [if_neg (by omega), if_neg (by omega), if_neg (by omega), if_neg (by omega), if_neg (by omega), if_neg (by omega), if_neg (by omega), if_neg (by omega), if_neg (by omega), if_pos (by omega), show 44 + k - 44 = k by omega]
theorem liv_ck (M : sM) {k : Nat} (h : k < 6) : liv M (50 + k) = M 266 k := by
  unfold liv
  rw [if_neg (by omega), if_neg (by omega), if_neg (by omega), if_neg (by omega), if_neg (by omega), if_neg (by omega), if_neg (by omega), if_neg (by omega), if_neg (by omega), if_neg (by omega), if_pos (by omega), show 50 + k - 50 = k by omega]
theorem liv_se (M : sM) {k : Nat} (h : k < 10) : liv M (56 + k) = M 267 k := by
  unfold liv
  rw [if_neg (by omega), if_neg (by omega), if_neg (by omega), if_neg (by omega), if_neg (by omega), if_neg (by omega), if_neg (by omega), if_neg (by omega), if_neg (by omega), if_neg (by omega), if_neg (by omega), if_pos (by omega), show 56 + k - 56 = k by omega]
theorem liv_no (M : sM) {k : Nat} (h : k < 24) : liv M (66 + k) = M 268 k := by
  unfold liv
  rw [if_neg (by omega), if_neg (by omega), if_neg (by omega), if_neg (by omega), if_neg (by omega), if_neg (by omega), if_neg (by omega), if_neg (by omega), if_neg (by omega), if_neg (by omega), if_neg (by omega), if_neg (by omega), if_pos (by omega), show 66 + k - 66 = k by omega]
theorem liv_mk (M : sM) {k : Nat} (h : k < 18) : liv M (90 + k) = M 269 k := by
  unfold liv
  rw [if_neg (by omega), if_neg (by omega), if_neg (by omega), if_neg (by omega), if_neg (by omega), if_neg (by omega), if_neg (by omega), if_neg (by omega), if_neg (by omega), if_neg (by omega), if_neg (by omega), if_neg (by omega), if_neg (by omega), if_pos (by omega), show 90 + k - 90 = k by omega]
theorem liv_un (M : sM) {k : Nat} : liv M (108 + k) = M 272 k := by
  unfold liv
  rw [if_neg (by omega), if_neg (by omega), if_neg (by omega), if_neg (by omega), if_neg (by omega), if_neg (by omega), if_neg (by omega), if_neg (by omega), if_neg (by omega), if_neg (by omega), if_neg (by omega), if_neg (by omega), if_neg (by omega), if_neg (by omega), show 108 + k - 108 = k by omega]
/-- a record's place -/
abbrev isRa (b a n : Nat) : Prop := (b = 271 ∨ b = 278) ∧ a + 268 ≤ n ∧ ∀ i, i < 268 → rg b (a + i) = rgE i
theorem isRa_271 : isRa 271 0 280 := ⟨Or.inl rfl, by decide, fun i _ => by show rgE (0 + i) = _; rw [Nat.zero_add]⟩
theorem isRa_278 {i : Nat} (hi : i < 2) : isRa 278 (280 * i) 560 := ⟨Or.inr rfl, by omega, fun j hj => by
  show rgE ((280 * i + j) % 280) = rgE j
  rw [show (280 * i + j) % 280 = j by omega]⟩
theorem isRa_c {b a n : Nat} (h : isRa b a n) : isRc b a n := ⟨by have := h.1; omega, by have := h.1; omega, by have := h.2.1; omega, fun i hi => by
  rw [h.2.2 i (by omega)]
  exact if_pos hi⟩
/-- what is written of it so far -/
def qaN (M : sM) (b a : Nat) (P : Nat → Prop) [DecidablePred P] : sM := sSr M b (fun j => if a ≤ j ∧ j < a + 268 ∧ P (j - a) then liv M (j - a) else M b j)
theorem qaN_b {M : sM} {b a c : Nat} {P : Nat → Prop} [DecidablePred P] (h : c ≠ b) : qaN M b a P c = M c := sSr_ne h
theorem qaN_s {M : sM} {b a i j : Nat} {v : Int} {P R : Nat → Prop} [DecidablePred P] [DecidablePred R] (hi : i < 268) (hj : j = a + i) (hv : v = liv M i) (hR : ∀ x, R x ↔ P x ∨ x = i) : sSt (qaN M b a P) b j v = qaN M b a R := by
  subst hj hv
  funext c k
  unfold qaN
  rw [sSt_at, sSr_at, sSr_at]
  by_cases hc : c = b
  · rw [if_pos hc, if_pos hc]
    by_cases hk : k = a + i
    · rw [if_pos ⟨hc, hk⟩, if_pos ⟨by omega, by omega, (hR _).mpr (Or.inr (by omega))⟩, show k - a = i by omega]
    · rw [if_neg (fun z => hk z.2)]
      refine if_congr' ⟨fun z => ⟨z.1, z.2.1, (hR _).mpr (Or.inl z.2.2)⟩, fun z => ⟨z.1, z.2.1, ?_⟩⟩
      rcases (hR _).mp z.2.2 with q | q
      · exact q
      · exact absurd (show k = a + i by omega) hk
  · rw [if_neg (fun z => hc z.1), if_neg hc, if_neg hc]
theorem qaN_c {M : sM} {b a : Nat} {P R : Nat → Prop} [DecidablePred P] [DecidablePred R] (h : ∀ x, x < 268 → (P x ↔ R x)) : qaN M b a P = qaN M b a R := by
  unfold qaN
  congr 1
  funext j
  refine if_congr' ⟨fun z => ⟨z.1, z.2.1, (h _ (by omega)).mp z.2.2⟩, fun z => ⟨z.1, z.2.1, (h _ (by omega)).mpr z.2.2⟩⟩
theorem qaN_T {M : sM} (hT : TInv M) {b a n : Nat} (hr : isRa b a n) (P : Nat → Prop) [DecidablePred P] : TInv (qaN M b a P) := by
  refine tv_row hT (fun j => ?_)
  by_cases h : a ≤ j ∧ j < a + 268 ∧ P (j - a)
  · rw [if_pos h]
    have e := hr.2.2 (j - a) (by omega)
    rw [show a + (j - a) = j by omega] at e
    rw [e]
    exact liv_r hT (by omega)
  · rw [if_neg h]; exact hT b j
theorem qaN_l (M : sM) (b a : Nat) : qLay M b a = qaN M b a (fun x => x < 20) := by
  unfold qLay qlN qaN
  congr 1
  funext j
  by_cases h : a ≤ j ∧ j < a + 268 ∧ j - a < 20
  · rw [if_pos h]
    rw [show liv M (j - a) = qMo M (j - a) from if_pos (by omega)]
    unfold qMo
    by_cases h0 : j = a
    · rw [if_pos h0, if_pos (show j - a = 0 by omega)]
    rw [if_neg h0, if_neg (show ¬ j - a = 0 by omega)]
    by_cases h1 : j = a + 1
    · rw [if_pos h1, if_pos (show j - a = 1 by omega)]
    rw [if_neg h1, if_neg (show ¬ j - a = 1 by omega)]
    by_cases h2 : a + 2 ≤ j ∧ j < a + 2 + 6
    · rw [if_pos h2, if_pos (show j - a < 8 by omega), show j - (a + 2) = j - a - 2 by omega]
    rw [if_neg h2, if_neg (show ¬ j - a < 8 by omega)]
    by_cases h3 : a + 8 ≤ j ∧ j < a + 8 + 6
    · rw [if_pos h3, if_pos (show j - a < 14 by omega), show j - (a + 8) = j - a - 8 by omega]
    rw [if_neg h3, if_neg (show ¬ j - a < 14 by omega), if_pos (show a + 14 ≤ j ∧ j < a + 14 + 6 by omega), show j - (a + 14) = j - a - 14 by omega]
  · rw [if_neg h, if_neg (show ¬ j = a by omega), if_neg (show ¬ j = a + 1 by omega), if_neg (show ¬ (a + 2 ≤ j ∧ j < a + 2 + 6) by omega), if_neg (show ¬ (a + 8 ≤ j ∧ j < a + 8 + 6) by omega), if_neg (show ¬ (a + 14 ≤ j ∧ j < a + 14 + 6) by omega)]
def qLA (M : sM) (b a : Nat) : sM := qaN M b a (fun _ => True)
/-- rows filled -/
def fil (M : sM) (c : Nat) (f : Nat → Int) (k : Nat) : sM := sSr M c (fun j => if j < k then f j else M c j)
theorem fil_0 (M : sM) (c : Nat) (f : Nat → Int) : M = fil M c f 0 := by
  unfold fil
  rw [show (fun j => if j < 0 then f j else M c j) = M c from funext fun j => if_neg (Nat.not_lt_zero j), sSr_id]
theorem fil_s (M : sM) (c : Nat) (f : Nat → Int) (k : Nat) : sSt (fil M c f k) c k (f k) = fil M c f (k + 1) := by
  funext a j
  unfold fil
  rw [sSt_at, sSr_at, sSr_at]
  by_cases ha : a = c
  · rw [if_pos ha, if_pos ha]
    by_cases hj : j = k
    · rw [if_pos ⟨ha, hj⟩, if_pos (by omega), hj]
    · rw [if_neg (fun z => hj z.2)]
      exact if_congr' (by omega)
  · rw [if_neg (fun z => ha z.1), if_neg ha, if_neg ha]
theorem fil3_s (M : sM) {c d e : Nat} (f g h : Nat → Int) (k : Nat) (h1 : c ≠ d) (h2 : c ≠ e) (h3 : d ≠ e) :
    sSt (sSt (sSt (fil (fil (fil M c f k) d g k) e h k) c k (f k)) d k (g k)) e k (h k) = fil (fil (fil M c f (k + 1)) d g (k + 1)) e h (k + 1) := by
  funext a j
  unfold fil
  simp only [sSt_at, sSr_at]
  by_cases hj : j = k
  · subst hj
    by_cases a1 : a = c
    · subst a1
      rw [if_neg (by omega), if_neg (by omega), if_pos ⟨rfl, rfl⟩, if_neg h2, if_neg h1, if_pos rfl, if_pos (by omega)]
    by_cases a2 : a = d
    · subst a2
      rw [if_neg (by omega), if_pos ⟨rfl, rfl⟩, if_neg h3, if_pos rfl, if_pos (by omega)]
    by_cases a3 : a = e
    · subst a3
      rw [if_pos ⟨rfl, rfl⟩, if_pos rfl, if_pos (by omega)]
    · rw [if_neg (by omega), if_neg (by omega), if_neg (by omega), if_neg a3, if_neg a2, if_neg a1, if_neg a3, if_neg a2, if_neg a1]
  · rw [if_neg (by omega), if_neg (by omega), if_neg (by omega)]
    have e1 : (j < k) = (j < k + 1) := propext ⟨fun z => by omega, fun z => by omega⟩
    simp only [e1]
theorem fil_in (M : sM) (c : Nat) (f : Nat → Int) {k j : Nat} (h : j < k) : fil M c f k c j = f j := by
  unfold fil
  rw [sSr_eq]
  exact if_pos h
theorem fil_ne {M : sM} {c : Nat} {f : Nat → Int} {k d : Nat} (h : d ≠ c) : fil M c f k d = M d := sSr_ne h
/-- what is laid down comes back, all of it -/
def qTA0 (M : sM) (b a : Nat) : sM := sSt (sSt (sSt (sSt (sSt (sSt (qTak M b a) 258 1 (M b (a + 20))) 258 2 (M b (a + 21))) 258 5 (M b (a + 22))) 258 6 (M b (a + 23))) 258 7 (M b (a + 24))) 258 25 (M b (a + 25))
def qTA1 (M : sM) (b a k : Nat) : sM := fil (qTA0 M b a) 260 (fun j => M b (a + 26 + j)) k
def qTA2 (M : sM) (b a k : Nat) : sM := fil (fil (fil (qTA1 M b a 12) 261 (fun j => M b (a + 38 + j)) k) 262 (fun j => M b (a + 44 + j)) k) 266 (fun j => M b (a + 50 + j)) k
def qTA3 (M : sM) (b a k : Nat) : sM := fil (qTA2 M b a 6) 267 (fun j => M b (a + 56 + j)) k
def qTA4 (M : sM) (b a k : Nat) : sM := fil (qTA3 M b a 10) 268 (fun j => M b (a + 66 + j)) k
def qTA5 (M : sM) (b a k : Nat) : sM := fil (qTA4 M b a 24) 269 (fun j => M b (a + 90 + j)) k
def qTA6 (M : sM) (b a k : Nat) : sM := fil (qTA5 M b a 18) 272 (fun j => M b (a + 108 + j)) k
def qTA (M : sM) (b a : Nat) : sM := qTA6 M b a 160
def qrFrom (M : sM) (i : Int) : Int := if 0 ≤ i ∧ i ≤ 1 then (if M 279 i.toNat = 0 then -3 else 1) else -2
def qmFrom (M : sM) (i : Int) : sM := if 0 ≤ i ∧ i ≤ 1 then (if M 279 i.toNat = 0 then qNo M else qTA M 278 (280 * i.toNat)) else qBad M
def qrImage (i : Int) : Int := if 0 ≤ i ∧ i ≤ 1 then 1 else -2
def qmImage (M : sM) (i : Int) : sM := if 0 ≤ i ∧ i ≤ 1 then qLA (sSt M 279 i.toNat 1) 278 (280 * i.toNat) else qBad M
/-! the digest -/
def qdS (M : sM) : Nat → Int64 → Int64
  | 0, h => h
  | s + 1, h => mixR (fun w => qTel M s w) 5 (qdS M s h)
def qd1 (M : sM) : Int64 := mixR (fun w => qrCount0 M w) 11 1613
def qd2 (M : sM) : Int64 := mixR (M 260) 12 (qd1 M)
def qd3 (M : sM) : Int64 := qdS M (qn M) (qd2 M)
def qd4 (M : sM) : Int64 := mixR (M 266) (qc M) (qd3 M)
def qd5 (M : sM) : Int64 := mixR (M 267) (2 * qs M) (qd4 M)
def qd6 (M : sM) : Int64 := mixR (M 268) (4 * qo M) (qd5 M)
def qd7 (M : sM) : Int64 := mixR (M 269) (3 * qm M) (qd6 M)
def qdig (M : sM) (L : sL) : Int64 := 31 * (31 * qd7 M + L 258 31) + L 258 32
theorem sSl_eq {L : sL} {k j : Nat} {v : Int64} : sSl L k j v k j = v := by rw [sSl_at, if_pos ⟨rfl, rfl⟩]
theorem sSl_tw (L : sL) (k j : Nat) (a b : Int64) : sSl (sSl L k j a) k j b = sSl L k j b := by
  funext c i
  rw [sSl_at, sSl_at, sSl_at]
  by_cases h : c = k ∧ i = j
  · rw [if_pos h, if_pos h]
  · rw [if_neg h, if_neg h, if_neg h]
theorem ra_cu {b a n k : Nat} (hr : isRa b a n) (hk : k < 12) : rg b (a + 26 + k) = (-2, 2) := by
  rw [Nat.add_assoc, hr.2.2 (26 + k) (by omega)]
  unfold rgE
  rw [if_neg (by omega), if_neg (by omega), if_neg (by omega), if_neg (by omega), if_neg (by omega), if_pos (by omega)]
theorem ra_kd {b a n k : Nat} (hr : isRa b a n) (hk : k < 6) : rg b (a + 38 + k) = (0, 5) := by
  rw [Nat.add_assoc, hr.2.2 (38 + k) (by omega)]
  unfold rgE
  rw [if_neg (by omega), if_neg (by omega), if_neg (by omega), if_neg (by omega), if_neg (by omega), if_neg (by omega), if_pos (by omega)]
theorem ra_wt {b a n k : Nat} (hr : isRa b a n) (hk : k < 6) : rg b (a + 44 + k) = (0, 9) := by
  rw [Nat.add_assoc, hr.2.2 (44 + k) (by omega)]
  unfold rgE
  rw [if_neg (by omega), if_neg (by omega), if_neg (by omega), if_neg (by omega), if_neg (by omega), if_neg (by omega), if_neg (by omega), if_pos (by omega)]
theorem ra_ck {b a n k : Nat} (hr : isRa b a n) (hk : k < 6) : rg b (a + 50 + k) = (0, 5) := by
  rw [Nat.add_assoc, hr.2.2 (50 + k) (by omega)]
  unfold rgE
  rw [if_neg (by omega), if_neg (by omega), if_neg (by omega), if_neg (by omega), if_neg (by omega), if_neg (by omega), if_neg (by omega), if_neg (by omega), if_pos (by omega)]
theorem ra_se {b a n k : Nat} (hr : isRa b a n) (hk : k < 10) : rg b (a + 56 + k) = (0, 60) := by
  rw [Nat.add_assoc, hr.2.2 (56 + k) (by omega)]
  unfold rgE
  rw [if_neg (by omega), if_neg (by omega), if_neg (by omega), if_neg (by omega), if_neg (by omega), if_neg (by omega), if_neg (by omega), if_neg (by omega), if_neg (by omega), if_pos (by omega)]
theorem ra_no {b a n k : Nat} (hr : isRa b a n) (hk : k < 24) : rg b (a + 66 + k) = (0, 99) := by
  rw [Nat.add_assoc, hr.2.2 (66 + k) (by omega)]
  unfold rgE
  rw [if_neg (by omega), if_neg (by omega), if_neg (by omega), if_neg (by omega), if_neg (by omega), if_neg (by omega), if_neg (by omega), if_neg (by omega), if_neg (by omega), if_neg (by omega), if_pos (by omega)]
theorem ra_mk {b a n k : Nat} (hr : isRa b a n) (hk : k < 18) : rg b (a + 90 + k) = (0, 60) := by
  rw [Nat.add_assoc, hr.2.2 (90 + k) (by omega)]
  unfold rgE
  rw [if_neg (by omega), if_neg (by omega), if_neg (by omega), if_neg (by omega), if_neg (by omega), if_neg (by omega), if_neg (by omega), if_neg (by omega), if_neg (by omega), if_neg (by omega), if_neg (by omega), if_pos (by omega)]
theorem ra_un {b a n k : Nat} (hr : isRa b a n) (hk : k < 160) : rg b (a + 108 + k) = rgM (k % 20) := by
  rw [Nat.add_assoc, hr.2.2 (108 + k) (by omega)]
  unfold rgE
  rw [if_neg (by omega), if_neg (by omega), if_neg (by omega), if_neg (by omega), if_neg (by omega), if_neg (by omega), if_neg (by omega), if_neg (by omega), if_neg (by omega), if_neg (by omega), if_neg (by omega), if_neg (by omega), show 108 + k - 108 = k by omega]
theorem fil3_0 (M : sM) (c d e : Nat) (f g h : Nat → Int) : M = fil (fil (fil M c f 0) d g 0) e h 0 := by rw [← fil_0, ← fil_0, ← fil_0]
theorem TInv_e {M N : sM} (h : M = N) (hT : TInv M) : TInv N := h ▸ hT
theorem lz : (0 : Int64) = lN 0 := rfl
section R5
variable {p : Program} {l : Launch} {e : Env} {R : Room} {s : State} {m : MethodId} {args : Array Value} {below : List Frame} {meth : Method} {c : Code} {D : va_G} {G : sG} {nL cs sl : Nat} {Q : State → Prop}
variable {pc : Nat} {lv : List (Nat × Value)} {st : List Value} {M : sM} {L : sL}
theorem at_L {L' : sL} (h : L = L') (k : sAt p l e R s m args below meth c D G nL cs sl Q pc lv st M L') : sAt p l e R s m args below meth c D G nL cs sl Q pc lv st M L := by rw [h]; exact k
end R5
theorem qd1_e (M : sM) : mixR (fun w => qrCount0 M w) 11 1613 = qd1 M := rfl
theorem qd2_e (M : sM) : mixR (M 260) 12 (qd1 M) = qd2 M := rfl
theorem qd3_e (M : sM) : qdS M (qn M) (qd2 M) = qd3 M := rfl
theorem qd4_e (M : sM) : mixR (M 266) (qc M) (qd3 M) = qd4 M := rfl
theorem qd5_e (M : sM) : mixR (M 267) (2 * qs M) (qd4 M) = qd5 M := rfl
theorem qd6_e (M : sM) : mixR (M 268) (4 * qo M) (qd5 M) = qd6 M := rfl
theorem qd7_e (M : sM) : mixR (M 269) (3 * qm M) (qd6 M) = qd7 M := rfl
theorem qdS_e (M : sM) (s : Nat) (h : Int64) : mixR (fun w => qTel M s w) 5 (qdS M s h) = qdS M (s + 1) h := rfl
theorem qdig_e (M : sM) (L : sL) : 31 * (31 * qd7 M + L 258 31) + L 258 32 = qdig M L := rfl
theorem mix_s (r : Nat → Int) (n : Nat) (h : Int64) : 31 * mixR r n h + (sI (r n)).toInt64 = mixR r (n + 1) h := rfl
theorem mix_0 (r : Nat → Int) (h : Int64) : h = mixR r 0 h := rfl
