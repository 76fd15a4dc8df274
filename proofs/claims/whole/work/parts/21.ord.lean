/-! rows that come one behind the other -/
def pvt (r : Nat → Int) : Nat → Int
  | 0 => -1
  | t + 1 => if r t > r (t + 1) then pvt r t else (t : Int)
theorem pvt_r (r : Nat → Int) : ∀ n, -1 ≤ pvt r n ∧ pvt r n < n
  | 0 => ⟨Int.le_refl _, show (-1 : Int) < 0 by decide⟩
  | n + 1 => by
    have h := pvt_r r n
    unfold pvt
    split <;> omega
theorem pvt_le {r : Nat → Int} : ∀ {n : Nat}, pvt r n ≠ -1 → r (pvt r n).toNat ≤ r ((pvt r n).toNat + 1)
  | 0, h => absurd rfl h
  | n + 1, h => by
    unfold pvt at h ⊢
    by_cases e : r n > r (n + 1)
    · rw [if_pos e] at h ⊢
      exact pvt_le h
    · rw [if_neg e, show ((n : Int)).toNat = n by omega]
      omega
def jx (r : Nat → Int) (v : Int) (lo : Nat) : Nat → Nat
  | 0 => 0
  | j + 1 => if lo < j + 1 ∧ r (j + 1) < v then jx r v lo j else j + 1
theorem jx_le (r : Nat → Int) (v : Int) (lo : Nat) : ∀ n, jx r v lo n ≤ n
  | 0 => Nat.le_refl 0
  | n + 1 => by
    have h := jx_le r v lo n
    unfold jx
    split <;> omega
def swp (r : Nat → Int) (a b : Nat) : Nat → Int := fun i => if i = b then r a else if i = a then r b else r i
def rvs : Nat → (Nat → Int) → Nat → Nat → (Nat → Int)
  | 0, r, _, _ => r
  | f + 1, r, a, b => if a < b then rvs f (swp r a b) (a + 1) (b - 1) else r
theorem rvs_n {f : Nat} {r : Nat → Int} {a b : Nat} (h : ¬ a < b) : rvs f r a b = r := by
  cases f with
  | zero => rfl
  | succ f => exact if_neg h
theorem rvs_y {f : Nat} {r : Nat → Int} {a b : Nat} (h : a < b) : rvs (f + 1) r a b = rvs f (swp r a b) (a + 1) (b - 1) := if_pos h
abbrev hasN (r : Nat → Int) (n : Nat) : Prop := pvt r (n - 1) ≠ -1
def nxt (r : Nat → Int) (n : Nat) : Nat → Int :=
  rvs n (swp r (pvt r (n - 1)).toNat (jx r (r (pvt r (n - 1)).toNat) (pvt r (n - 1)).toNat (n - 1))) ((pvt r (n - 1)).toNat + 1) (n - 1)
/-- who takes which: d s i is how far s feels from what i looks for -/
def neaS (d : Nat → Nat → Int) (i left : Nat) : Int := nea (fun s => left.testBit s = true) (fun s => d s i) 6
def obL (d : Nat → Nat → Int) (r : Nat → Int) (sh : Nat) : Nat → Nat
  | 0 => sh
  | k + 1 => if obL d r sh k = 0 then 0 else sDel (obL d r sh k) (2 ^ (neaS d (r k).toNat (obL d r sh k)).toNat)
def obO (d : Nat → Nat → Int) (r : Nat → Int) (sh : Nat) : Nat → Int
  | 0 => 0
  | k + 1 => if obL d r sh k = 0 then obO d r sh k else obO d r sh k + (if neaS d (r k).toNat (obL d r sh k) = r k then 1 else 0)
theorem obL_lt {d : Nat → Nat → Int} {r : Nat → Int} {sh : Nat} (h : sh < 64) : ∀ k, obL d r sh k < 64
  | 0 => h
  | k + 1 => by
    unfold obL
    split
    · decide
    · exact sDel_lt (obL_lt h k)
theorem obO_r (d : Nat → Nat → Int) (r : Nat → Int) (sh : Nat) : ∀ k, 0 ≤ obO d r sh k ∧ obO d r sh k ≤ k
  | 0 => ⟨Int.le_refl 0, Int.le_refl 0⟩
  | k + 1 => by
    have h := obO_r d r sh k
    unfold obO
    repeat' split
    all_goals omega
theorem obL_0 {d : Nat → Nat → Int} {r : Nat → Int} {sh k : Nat} (h : obL d r sh k = 0) : ∀ n, obL d r sh (k + n) = 0 ∧ obO d r sh (k + n) = obO d r sh k
  | 0 => ⟨h, rfl⟩
  | n + 1 => by
    obtain ⟨h1, h2⟩ := obL_0 h n
    constructor
    · show (if obL d r sh (k + n) = 0 then _ else _) = _
      rw [if_pos h1]
    · show (if obL d r sh (k + n) = 0 then _ else _) = _
      rw [if_pos h1]; exact h2
theorem nea_none {p : Nat → Prop} [DecidablePred p] {d : Nat → Int} : ∀ {n : Nat}, nea p d n = -1 → ∀ s, s < n → ¬ p s
  | 0, _, s, hs => absurd hs (Nat.not_lt_zero s)
  | n + 1, h, s, hs => by
    unfold nea at h
    by_cases e : p n ∧ (nea p d n = -1 ∨ d n < d (nea p d n).toNat)
    · rw [if_pos e] at h; omega
    · rw [if_neg e] at h
      rcases Nat.lt_succ_iff_lt_or_eq.mp hs with q | q
      · exact nea_none h s q
      · rw [q]; exact fun z => e ⟨z, Or.inl h⟩
theorem bit_ex : ∀ x : Nat, x < 64 → x ≠ 0 → ∃ s : Nat, s < 6 ∧ x.testBit s = true := by
  intro x hx h0
  apply Classical.byContradiction
  intro hn
  apply h0
  apply Nat.eq_of_testBit_eq
  intro i
  rw [Nat.zero_testBit]
  by_cases hi : i < 6
  · cases hb : x.testBit i with
    | false => rfl
    | true => exact absurd ⟨i, hi, hb⟩ hn
  · exact Nat.testBit_lt_two_pow (Nat.lt_of_lt_of_le (show x < 2 ^ 6 from hx) (Nat.pow_le_pow_right (by decide) (show 6 ≤ i by omega)))
theorem neaS_r {d : Nat → Nat → Int} {i left : Nat} (h : left < 64) (h0 : left ≠ 0) : 0 ≤ neaS d i left ∧ neaS d i left ≤ 5 := by
  have h1 := nea_r (fun s => left.testBit s = true) (fun s => d s i) 6
  obtain ⟨s, hs, hb⟩ := bit_ex left h h0
  have h2 : neaS d i left ≠ -1 := fun z => nea_none z s hs hb
  unfold neaS at *
  omega
theorem sDel_t : ∀ x : Nat, x < 64 → ∀ y : Nat, y < 64 → ∀ i : Nat, i < 6 → (sDel x y).testBit i = (x.testBit i && !y.testBit i) := by decide +kernel
theorem pow_lt64 {s : Nat} (h : s ≤ 5) : 2 ^ s < 64 := Nat.lt_of_le_of_lt (Nat.pow_le_pow_right (n := 2) (by decide) h) (by decide)
/-- the most so far, and where first -/
def mxV (V : Nat → Int) : Nat → Int
  | 0 => -1
  | k + 1 => if V k > mxV V k then V k else mxV V k
def mxI (V : Nat → Int) : Nat → Nat
  | 0 => 0
  | k + 1 => if V k > mxV V k then k else mxI V k
theorem mxV_r {V : Nat → Int} (h : ∀ k, 0 ≤ V k ∧ V k ≤ 6) : ∀ k, -1 ≤ mxV V k ∧ mxV V k ≤ 6
  | 0 => ⟨Int.le_refl _, show (-1 : Int) ≤ 6 by decide⟩
  | k + 1 => by
    have h1 := mxV_r h k
    have h2 := h k
    unfold mxV
    split <;> omega
def rowN (r : Nat → Int) (n : Nat) : Nat → (Nat → Int)
  | 0 => r
  | k + 1 => nxt (rowN r n k) n
/-- those who hold none -/
def frC (f : Nat → Int) : Nat → Nat
  | 0 => 0
  | k + 1 => if f k = -1 then frC f k + 1 else frC f k
def frR (r : Nat → Int) (f : Nat → Int) : Nat → (Nat → Int)
  | 0 => r
  | k + 1 => if f k = -1 then (fun j => if j = frC f k then (k : Int) else frR r f k j) else frR r f k
theorem frC_le (f : Nat → Int) : ∀ k, frC f k ≤ k
  | 0 => Nat.le_refl 0
  | k + 1 => by
    have h := frC_le f k
    unfold frC
    split <;> omega
theorem frR_at (r f : Nat → Int) : ∀ k j, j < frC f k → ∃ i, i < k ∧ frR r f k j = (i : Int) ∧ f i = -1
  | 0, j, h => absurd h (Nat.not_lt_zero j)
  | k + 1, j, h => by
    unfold frC at h
    unfold frR
    by_cases e : f k = -1
    · rw [if_pos e] at h ⊢
      by_cases hj : j = frC f k
      · exact ⟨k, Nat.lt_succ_self k, if_pos hj, e⟩
      · obtain ⟨i, h1, h2, h3⟩ := frR_at r f k j (by omega)
        exact ⟨i, by omega, by rw [← h2]; exact if_neg hj, h3⟩
    · rw [if_neg e] at h ⊢
      obtain ⟨i, h1, h2, h3⟩ := frR_at r f k j h
      exact ⟨i, by omega, h2, h3⟩
