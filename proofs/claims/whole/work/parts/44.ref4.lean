/-! the reference: what was seen, noted, marked -/
def qrSeen (M : sM) (m c : Int) : Int := if (0 ≤ m ∧ m ≤ 60) ∧ (0 ≤ c ∧ c ≤ 11) then (if M 258 5 = 5 then -4 else M 258 5 + 1) else -2
def qAS (M : sM) (m c : Int) : sM := sSt (sSt (sSt M 267 (2 * qs M) m) 267 (2 * qs M + 1) c) 258 5 (M 258 5 + 1)
def qmSeen (M : sM) (m c : Int) : sM := if (0 ≤ m ∧ m ≤ 60) ∧ (0 ≤ c ∧ c ≤ 11) then (if M 258 5 = 5 then qFul M else qAS M m c) else qBad M
abbrev qokNote (M : sM) (s w d x : Int) : Prop := isQS M s ∧ (1 ≤ w ∧ w ≤ 9) ∧ (0 ≤ d ∧ d ≤ 99) ∧ (0 ≤ x ∧ x ≤ 30)
def qrNote (M : sM) (s w d x : Int) : Int := if qokNote M s w d x then (if M 258 6 = 6 then -4 else M 258 6 + 1) else -2
def qAN (M : sM) (s w d x : Int) : sM := sSt (sSt (sSt (sSt (sSt M 268 (4 * qo M) s) 268 (4 * qo M + 1) w) 268 (4 * qo M + 2) d) 268 (4 * qo M + 3) x) 258 6 (M 258 6 + 1)
def qmNote (M : sM) (s w d x : Int) : sM := if qokNote M s w d x then (if M 258 6 = 6 then qFul M else qAN M s w d x) else qBad M
abbrev qokMark (M : sM) (i x y : Int) : Prop := isQC M i ∧ (0 ≤ x ∧ x ≤ 30) ∧ (0 ≤ y ∧ y ≤ 60)
def qrMark (M : sM) (i x y : Int) : Int := if qokMark M i x y then (if M 258 7 = 6 then -4 else M 258 7 + 1) else -2
def qAK (M : sM) (i x y : Int) : sM := sSt (sSt (sSt (sSt M 269 (3 * qm M) i) 269 (3 * qm M + 1) x) 269 (3 * qm M + 2) y) 258 7 (M 258 7 + 1)
def qmMark (M : sM) (i x y : Int) : sM := if qokMark M i x y then (if M 258 7 = 6 then qFul M else qAK M i x y) else qBad M
def qrForget (M : sM) (w : Int) : Int := if 0 ≤ w ∧ w ≤ 2 then (if w = 0 then M 258 5 else if w = 1 then M 258 6 else M 258 7) else -2
def qFg (M : sM) (w : Int) : sM := sSt (sSt (sSt M 258 5 (if w = 0 then 0 else M 258 5)) 258 6 (if w = 1 then 0 else M 258 6)) 258 7 (if w = 2 then 0 else M 258 7)
def qmForget (M : sM) (w : Int) : sM := if 0 ≤ w ∧ w ≤ 2 then qFg M w else qBad M
/-- those that are adrift and will be there by the first r SEEN -/
abbrev qseP (M : sM) (s r : Nat) : Prop := 0 ≤ M 263 s ∧ ∀ q, q < r → driN (M 260) (M 267 (2 * q)).toNat (M 263 s) = M 267 (2 * q + 1)
def qSeB (M : sM) : Nat := bits (fun s => qseP M s (qs M)) (qn M)
theorem qse_y {M : sM} {s r : Nat} (h : qseP M s r) (h2 : driN (M 260) (M 267 (2 * r)).toNat (M 263 s) = M 267 (2 * r + 1)) : qseP M s (r + 1) :=
  ⟨h.1, fun q hq => by
    rcases Nat.lt_succ_iff_lt_or_eq.mp hq with z | z
    · exact h.2 q z
    · rw [z]; exact h2⟩
theorem qse_n {M : sM} {s r : Nat} (h2 : driN (M 260) (M 267 (2 * r)).toNat (M 263 s) ≠ M 267 (2 * r + 1)) : ¬ qseP M s (r + 1) := fun z => h2 (z.2 r (Nat.lt_succ_self r))
theorem qse_m {M : sM} {s r n : Nat} (hn : r ≤ n) (h : ¬ qseP M s r) : ¬ qseP M s n := fun z => h ⟨z.1, fun q hq => z.2 q (by omega)⟩
theorem qse_0 {M : sM} {s : Nat} (h : 0 ≤ M 263 s) : qseP M s 0 := ⟨h, fun q hq => absurd hq (Nat.not_lt_zero q)⟩
theorem qse_t {M : sM} {s : Nat} (h : (qSeB M).testBit s = true) : s < qn M ∧ 0 ≤ M 263 s := by
  unfold qSeB at h
  rw [bits_t] at h
  have := of_decide_eq_true h
  exact ⟨this.1, this.2.1⟩
theorem qSeB_lt {M : sM} (hT : TInv M) : qSeB M < 64 := bits_lt6 _ (qn_r hT).1
/-- the most that go with one -/
def mxc (p : Nat → Nat → Prop) [∀ a, DecidablePred (p a)] (n : Nat) : Nat → Int
  | 0 => 0
  | a + 1 => max (mxc p n a) (cnt (p a) n)
theorem mxc_r (p : Nat → Nat → Prop) [∀ a, DecidablePred (p a)] (n : Nat) : ∀ a, 0 ≤ mxc p n a ∧ mxc p n a ≤ n
  | 0 => ⟨Int.le_refl 0, show (0 : Int) ≤ n by omega⟩
  | a + 1 => by
    have h1 := mxc_r p n a
    have h2 := cnt_r (p a) n
    show 0 ≤ max (mxc p n a) (cnt (p a) n) ∧ max (mxc p n a) (cnt (p a) n) ≤ n
    omega
/-- the fewest so far, and where first -/
def qsF (f : Nat → Int) : Nat → Int
  | 0 => 1048576
  | k + 1 => min (qsF f k) (f k)
def qsB (f : Nat → Int) : Nat → Int
  | 0 => -1
  | k + 1 => if f k < qsF f k then (k : Int) else qsB f k
theorem qsF_r {f : Nat → Int} (h : ∀ n, 0 ≤ f n) : ∀ n, 0 ≤ qsF f n ∧ qsF f n ≤ 1048576
  | 0 => ⟨show (0 : Int) ≤ 1048576 by decide, Int.le_refl _⟩
  | n + 1 => by
    have h1 := qsF_r h n
    have h2 := h n
    show 0 ≤ min (qsF f n) (f n) ∧ min (qsF f n) (f n) ≤ 1048576
    omega
theorem qsB_r (f : Nat → Int) : ∀ n, -1 ≤ qsB f n ∧ qsB f n < n
  | 0 => ⟨Int.le_refl _, show (-1 : Int) < 0 by decide⟩
  | n + 1 => by
    have h := qsB_r f n
    unfold qsB
    split <;> omega
theorem qsB_y {f : Nat → Int} {n : Nat} (h : f n < qsF f n) : qsB f (n + 1) = n := if_pos h
theorem qsB_n {f : Nat → Int} {n : Nat} (h : f n ≥ qsF f n) : qsB f (n + 1) = qsB f n := if_neg (Int.not_lt.mpr h)
def qsA (m : Nat) (f : Nat → Int) (n : Nat) : Int := if m = 0 then -1 else qsB f n
theorem qsA_y {m : Nat} {f : Nat → Int} {n : Nat} (h : m = 0) : qsA m f n = -1 := if_pos h
theorem qsA_n {m : Nat} {f : Nat → Int} {n : Nat} (h : m ≠ 0) : qsA m f n = qsB f n := if_neg h
abbrev qtlP (M : sM) (t a b : Nat) : Prop := (qSeB M).testBit a = true ∧ (qSeB M).testBit b = true ∧ driN (M 260) t (M 263 a) = driN (M 260) t (M 263 b)
def qtlF (M : sM) (t : Nat) : Int := mxc (fun a b => qtlP M t a b) (qn M) (qn M)
def qrTell (M : sM) : Int := qsA (qSeB M) (qtlF M) 21
theorem qtlF_r (M : sM) (t : Nat) : 0 ≤ qtlF M t ∧ qtlF M t ≤ qn M := mxc_r _ _ _
/-- by which kinds all notes of a soul, all marks of a caller are so -/
abbrev qkdP (M : sM) (s n k : Nat) : Prop := ∀ r, r < n → M 268 (4 * r) = (s : Int) → wgh k (M 268 (4 * r + 1)) (M 268 (4 * r + 2)) = M 268 (4 * r + 3)
def qkdB (M : sM) (s : Nat) : Nat := bits (fun k => qkdP M s (qo M) k) 6
theorem qkd_0 (M : sM) (s k : Nat) : qkdP M s 0 k := fun r hr => absurd hr (Nat.not_lt_zero r)
theorem qkd_a {M : sM} {s n k : Nat} (h : qkdP M s n k) (h2 : M 268 (4 * n) ≠ (s : Int)) : qkdP M s (n + 1) k := all_s.mpr ⟨h, fun z => absurd z h2⟩
theorem qkd_b {M : sM} {s n k : Nat} (h : qkdP M s n k) (h2 : wgh k (M 268 (4 * n + 1)) (M 268 (4 * n + 2)) = M 268 (4 * n + 3)) : qkdP M s (n + 1) k := all_s.mpr ⟨h, fun _ => h2⟩
theorem qkd_c {M : sM} {s n k : Nat} (h : ¬ qkdP M s n k) : ¬ qkdP M s (n + 1) k := fun z => h (all_s.mp z).1
theorem qkd_d {M : sM} {s n k : Nat} (h : M 268 (4 * n) = (s : Int)) (h2 : wgh k (M 268 (4 * n + 1)) (M 268 (4 * n + 2)) ≠ M 268 (4 * n + 3)) : ¬ qkdP M s (n + 1) k := fun z => h2 ((all_s.mp z).2 h)
abbrev qkfP (M : sM) (i n k : Nat) : Prop := ∀ r, r < n → M 269 (3 * r) = (i : Int) → hvy k (M 269 (3 * r + 1)) = M 269 (3 * r + 2)
def qkfB (M : sM) (i : Nat) : Nat := bits (fun k => qkfP M i (qm M) k) 6
theorem qkf_0 (M : sM) (s k : Nat) : qkfP M s 0 k := fun r hr => absurd hr (Nat.not_lt_zero r)
theorem qkf_a {M : sM} {s n k : Nat} (h : qkfP M s n k) (h2 : M 269 (3 * n) ≠ (s : Int)) : qkfP M s (n + 1) k := all_s.mpr ⟨h, fun z => absurd z h2⟩
theorem qkf_b {M : sM} {s n k : Nat} (h : qkfP M s n k) (h2 : hvy k (M 269 (3 * n + 1)) = M 269 (3 * n + 2)) : qkfP M s (n + 1) k := all_s.mpr ⟨h, fun _ => h2⟩
theorem qkf_c {M : sM} {s n k : Nat} (h : ¬ qkfP M s n k) : ¬ qkfP M s (n + 1) k := fun z => h (all_s.mp z).1
theorem qkf_d {M : sM} {s n k : Nat} (h : M 269 (3 * n) = (s : Int)) (h2 : hvy k (M 269 (3 * n + 1)) ≠ M 269 (3 * n + 2)) : ¬ qkfP M s (n + 1) k := fun z => h2 ((all_s.mp z).2 h)
theorem qkdB_lt (M : sM) (s : Nat) : qkdB M s < 64 := bits_lt _ 6
theorem qkfB_lt (M : sM) (s : Nat) : qkfB M s < 64 := bits_lt _ 6
def qrIs (M : sM) (s : Int) : Int := if isQS M s then (qkdB M s.toNat : Int) else -2
def qrKinds (M : sM) (i : Int) : Int := if isQC M i then (qkfB M i.toNat : Int) else -2
abbrev qlkP (m : Nat) (w : Int) (d a b : Nat) : Prop := m.testBit a = true ∧ m.testBit b = true ∧ wgh a w d = wgh b w d
def qlkF (m : Nat) (w : Int) (d : Nat) : Int := mxc (fun a b => qlkP m w d a b) 6 6
theorem qlkF_r (m : Nat) (w : Int) (t : Nat) : 0 ≤ qlkF m w t ∧ qlkF m w t ≤ (6 : Nat) := mxc_r _ _ _
def qrLook (M : sM) (s : Int) : Int := if isQS M s then qsA (qkdB M s.toNat) (qlkF (qkdB M s.toNat) (M 262 s.toNat)) 10 else -2
abbrev qakP (m x a b : Nat) : Prop := m.testBit a = true ∧ m.testBit b = true ∧ hvy a x = hvy b x
def qakF (m x : Nat) : Int := mxc (fun a b => qakP m x a b) 6 6
theorem qakF_r (m t : Nat) : 0 ≤ qakF m t ∧ qakF m t ≤ (6 : Nat) := mxc_r _ _ _
def qrAsk (M : sM) (i : Int) : Int := if isQC M i then qsA (qkfB M i.toNat) (qakF (qkfB M i.toNat)) 31 else -2
/-! claims -/
def clT (u v k : Int) : Nat → Int
  | 0 => -5
  | p + 1 => if cR u v p ∧ cnt (cR u v) p = k then (p : Int) else clT u v k p
theorem clT_r (u v k : Int) : ∀ n, -5 ≤ clT u v k n ∧ clT u v k n < n
  | 0 => ⟨Int.le_refl _, show (-5 : Int) < 0 by decide⟩
  | n + 1 => by
    have h := clT_r u v k n
    unfold clT
    split <;> omega
theorem clT_y {u v k : Int} {p : Nat} (h : cR u v p) (h2 : cnt (cR u v) p = k) : clT u v k (p + 1) = p := if_pos ⟨h, h2⟩
theorem clT_n {u v k : Int} {p : Nat} (h : ¬ (cR u v p ∧ cnt (cR u v) p = k)) : clT u v k (p + 1) = clT u v k p := if_neg h
theorem cR_i {u v : Int} {i j : Nat} (hj : j < 10) : cR u v (10 * i + j) ↔ rst i j u v 10 := by
  unfold cR
  rw [show (10 * i + j) / 10 = i by omega, show (10 * i + j) % 10 = j by omega]
theorem rst_y {i j : Nat} {u v : Int} {n : Nat} (h : rst i j u v n) (h1 : gF n j u ≤ gF i j u) (h2 : gS i n v ≤ gS i j v) : rst i j u v (n + 1) := all_s.mpr ⟨h, h1, h2⟩
theorem rst_c {i j : Nat} {u v : Int} {n : Nat} (h : ¬ rst i j u v n) : ¬ rst i j u v (n + 1) := fun z => h (all_s.mp z).1
theorem rst_d {i j : Nat} {u v : Int} {n : Nat} (h : gF i j u < gF n j u) : ¬ rst i j u v (n + 1) := fun z => absurd (all_s.mp z).2.1 (by omega)
theorem rst_e {i j : Nat} {u v : Int} {n : Nat} (h : gS i j v < gS i n v) : ¬ rst i j u v (n + 1) := fun z => absurd (all_s.mp z).2.2 (by omega)
abbrev qokClaim (M : sM) (a b s k : Int) : Prop := isQC M a ∧ isQC M b ∧ a ≠ b ∧ isQS M s ∧ -1 ≤ k
def qclm (u v k : Int) : Int := if k = -1 then cnt (cR u v) 100 else clT u v k 100
def qrClaim (M : sM) (a b s k : Int) : Int := if qokClaim M a b s k then qclm (9 - qDst M s.toNat a.toNat) (9 - qDst M s.toNat b.toNat) k else -10
