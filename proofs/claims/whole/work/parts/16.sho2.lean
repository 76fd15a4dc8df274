theorem wgh_b {k w d : Int} (hw : 0 ≤ w) (hd : 0 ≤ d) : 0 ≤ wgh k w d ∧ wgh k w d ≤ 2 * w + 4 := by
  unfold wgh
  repeat' split
  all_goals omega
theorem hvy_b {k x : Int} (hx : 0 ≤ x) : 0 ≤ hvy k x ∧ hvy k x ≤ 2 * x + 1 := by
  unfold hvy
  repeat' split
  all_goals omega
theorem bits_a (p q : Nat → Prop) [DecidablePred p] [DecidablePred q] (n : Nat) : bits p n &&& bits q n = bits (fun i => p i ∧ q i) n := by
  apply Nat.eq_of_testBit_eq
  intro i
  rw [Nat.testBit_and, bits_t, bits_t, bits_t]
  by_cases hi : i < n
  · by_cases hp : p i
    · by_cases hq : q i
      · simp [hi, hp, hq]
      · simp [hi, hp, hq]
    · simp [hp]
  · simp [hi]
/-- whether a soul is adrift and will be there by the first k SEEN -/
abbrev seenP (M : sM) (s k : Nat) : Prop := adr M 1 s ∧ ∀ r, r < k → bAhe M 1 s (M 12 (r * 2 + 0)).toNat = M 12 (r * 2 + 1)
def seenB (M : sM) : Nat := bits (fun s => seenP M s (M 11 3).toNat) (nS M 1)
theorem seen_s {M : sM} {s k : Nat} (h : seenP M s k) (h2 : bAhe M 1 s (M 12 (k * 2 + 0)).toNat = M 12 (k * 2 + 1)) : seenP M s (k + 1) :=
  ⟨h.1, fun r hr => by
    rcases Nat.lt_succ_iff_lt_or_eq.mp hr with q | q
    · exact h.2 r q
    · rw [q]; exact h2⟩
theorem seen_m {M : sM} {s k n : Nat} (hn : k ≤ n) (h : seenP M s n) : seenP M s k := ⟨h.1, fun r hr => h.2 r (by omega)⟩
/-- by which kinds all notes of a soul, all marks of a caller are so -/
abbrev kdsP (M : sM) (s n k : Nat) : Prop := ∀ r, r < n → M 14 (r * 4 + 0) = (s : Int) → wgh k (M 14 (r * 4 + 1)) (M 14 (r * 4 + 2)) = M 14 (r * 4 + 3)
def kdsB (M : sM) (s : Nat) : Nat := bits (fun k => kdsP M s (M 13 3).toNat k) 6
abbrev kfsP (M : sM) (i n k : Nat) : Prop := ∀ r, r < n → M 16 (r * 3 + 0) = (i : Int) → hvy k (M 16 (r * 3 + 1)) = M 16 (r * 3 + 2)
def kfsB (M : sM) (i : Nat) : Nat := bits (fun k => kfsP M i (M 15 3).toNat k) 6
theorem all_s {p : Nat → Prop} {n : Nat} : (∀ r, r < n + 1 → p r) ↔ (∀ r, r < n → p r) ∧ p n := by
  constructor
  · intro h; exact ⟨fun r hr => h r (by omega), h n (by omega)⟩
  · intro h r hr
    rcases Nat.lt_succ_iff_lt_or_eq.mp hr with q | q
    · exact h.1 r q
    · rw [q]; exact h.2
theorem kds_y {M : sM} {s n : Nat} (h : M 14 (n * 4 + 0) = (s : Int)) : bits (fun k => kdsP M s n k) 6 &&& bits (fun k => wgh k (M 14 (n * 4 + 1)) (M 14 (n * 4 + 2)) = M 14 (n * 4 + 3)) 6 = bits (fun k => kdsP M s (n + 1) k) 6 := by
  rw [bits_a]
  exact bits_c (fun k _ => ((all_s (p := fun r => M 14 (r * 4 + 0) = (s : Int) → wgh k (M 14 (r * 4 + 1)) (M 14 (r * 4 + 2)) = M 14 (r * 4 + 3))).trans (and_congr Iff.rfl ⟨fun z => z h, fun z _ => z⟩)).symm)
theorem kds_n {M : sM} {s n : Nat} (h : M 14 (n * 4 + 0) ≠ (s : Int)) : bits (fun k => kdsP M s n k) 6 = bits (fun k => kdsP M s (n + 1) k) 6 :=
  bits_c (fun k _ => ((all_s (p := fun r => M 14 (r * 4 + 0) = (s : Int) → wgh k (M 14 (r * 4 + 1)) (M 14 (r * 4 + 2)) = M 14 (r * 4 + 3))).trans ⟨fun z => z.1, fun z => ⟨z, fun w => absurd w h⟩⟩).symm)
theorem kfs_y {M : sM} {s n : Nat} (h : M 16 (n * 3 + 0) = (s : Int)) : bits (fun k => kfsP M s n k) 6 &&& bits (fun k => hvy k (M 16 (n * 3 + 1)) = M 16 (n * 3 + 2)) 6 = bits (fun k => kfsP M s (n + 1) k) 6 := by
  rw [bits_a]
  exact bits_c (fun k _ => ((all_s (p := fun r => M 16 (r * 3 + 0) = (s : Int) → hvy k (M 16 (r * 3 + 1)) = M 16 (r * 3 + 2))).trans (and_congr Iff.rfl ⟨fun z => z h, fun z _ => z⟩)).symm)
theorem kfs_n {M : sM} {s n : Nat} (h : M 16 (n * 3 + 0) ≠ (s : Int)) : bits (fun k => kfsP M s n k) 6 = bits (fun k => kfsP M s (n + 1) k) 6 :=
  bits_c (fun k _ => ((all_s (p := fun r => M 16 (r * 3 + 0) = (s : Int) → hvy k (M 16 (r * 3 + 1)) = M 16 (r * 3 + 2))).trans ⟨fun z => z.1, fun z => ⟨z, fun w => absurd w h⟩⟩).symm)
theorem bits_63 (p : Nat → Prop) [DecidablePred p] (h : ∀ k, p k) : 63 = bits p 6 := by
  rw [bits_c (q := fun _ => True) (fun i _ => ⟨fun _ => trivial, fun _ => h i⟩)]
  decide +kernel
/-- of the members the most that have one value -/
abbrev alk (m : Nat) (v : Nat → Int) (a b : Nat) : Prop := m.testBit a = true ∧ m.testBit b = true ∧ v a = v b
def malN (m : Nat) (v : Nat → Int) : Nat → Int
  | 0 => 0
  | a + 1 => max (malN m v a) (cnt (fun b => alk m v a b) 6)
def mal (m : Nat) (v : Nat → Int) : Int := malN m v 6
theorem malN_r (m : Nat) (v : Nat → Int) : ∀ n, 0 ≤ malN m v n ∧ malN m v n ≤ 6
  | 0 => ⟨Int.le_refl 0, show (0 : Int) ≤ 6 by decide⟩
  | n + 1 => by
    have h := malN_r m v n
    have h2 := cnt_r (fun b => alk m v n b) 6
    show 0 ≤ max (malN m v n) (cnt (fun b => alk m v n b) 6) ∧ max (malN m v n) (cnt (fun b => alk m v n b) 6) ≤ 6
    omega
theorem cnt_c {p q : Nat → Prop} [DecidablePred p] [DecidablePred q] : ∀ {n : Nat}, (∀ i, i < n → (p i ↔ q i)) → cnt p n = cnt q n
  | 0, _ => rfl
  | n + 1, h => by
    unfold cnt
    rw [cnt_c (fun i hi => h i (by omega)), if_congr' (h n (Nat.lt_succ_self n))]
theorem malN_c {m : Nat} {v w : Nat → Int} (h : ∀ s, s < 6 → m.testBit s = true → v s = w s) : ∀ n, n ≤ 6 → malN m v n = malN m w n
  | 0, _ => rfl
  | n + 1, hn => by
    show max (malN m v n) (cnt (fun b => alk m v n b) 6) = max (malN m w n) (cnt (fun b => alk m w n b) 6)
    rw [malN_c h n (by omega), cnt_c (q := fun b => alk m w n b) (fun b hb => ⟨fun z => ⟨z.1, z.2.1, by rw [← h n (by omega) z.1, ← h b hb z.2.1]; exact z.2.2⟩, fun z => ⟨z.1, z.2.1, by rw [h n (by omega) z.1, h b hb z.2.1]; exact z.2.2⟩⟩)]
theorem mal_c {m : Nat} {v w : Nat → Int} (h : ∀ s, s < 6 → m.testBit s = true → v s = w s) : mal m v = mal m w := malN_c h 6 (Nat.le_refl 6)
/-- the fewest so far, and where: the first of like ones -/
def bsF (f : Nat → Int) : Nat → Int
  | 0 => 7
  | n + 1 => if f n < bsF f n then f n else bsF f n
def bsB (f : Nat → Int) : Nat → Int
  | 0 => -1
  | n + 1 => if f n < bsF f n then (n : Int) else bsB f n
theorem bsF_r {f : Nat → Int} (h : ∀ n, 0 ≤ f n) : ∀ n, 0 ≤ bsF f n ∧ bsF f n ≤ 7
  | 0 => ⟨by show (0 : Int) ≤ 7; decide, Int.le_refl 7⟩
  | n + 1 => by
    have h1 := bsF_r h n
    have h2 := h n
    unfold bsF
    split <;> omega
theorem bsB_r (f : Nat → Int) : ∀ n, -1 ≤ bsB f n ∧ bsB f n < n
  | 0 => ⟨Int.le_refl _, by show (-1 : Int) < 0; decide⟩
  | n + 1 => by
    have h1 := bsB_r f n
    unfold bsB
    split <;> omega
/-- a set that parts nothing: none -/
def bsA (m : Nat) (f : Nat → Int) (n : Nat) : Int := if m = 0 then -1 else bsB f n
def rTell (M : sM) : Int := bsA (seenB M) (fun t => mal (seenB M) (fun s => driN (M 2) t (M 7 s))) 21
def rIs (M : sM) (s : Int) : Int := if isSou M s then (kdsB M s.toNat : Int) else -2
def rKinds (M : sM) (i : Int) : Int := if isCal M i then (kfsB M i.toNat : Int) else -2
def rLook (M : sM) (s : Int) : Int := if isSou M s then bsA (kdsB M s.toNat) (fun d => mal (kdsB M s.toNat) (fun k => wgh k (M 4 s.toNat) d)) 10 else -2
def rAsk (M : sM) (i : Int) : Int := if isCal M i then bsA (kfsB M i.toNat) (fun x => mal (kfsB M i.toNat) (fun k => hvy k x)) 31 else -2
/-! claims -/
def gF (i j : Nat) (w : Int) : Int := if i ≤ j then w + (i / 2 : Nat) else 0
def gS (i j : Nat) (w : Int) : Int := if j < i then w + (j / 2 : Nat) else 0
abbrev rst (i j : Nat) (u v : Int) (n : Nat) : Prop := ∀ t, t < n → gF t j u ≤ gF i j u ∧ gS i t v ≤ gS i j v
abbrev okClaim (M : sM) (a b s k : Int) : Prop := isCal M a ∧ isCal M b ∧ a ≠ b ∧ isSou M s ∧ -1 ≤ k
abbrev cR (u v : Int) (p : Nat) : Prop := rst (p / 10) (p % 10) u v 10
def clmA (u v k : Int) : Int := if k = -1 then cnt (cR u v) 100 else if fst (fun p => cR u v p ∧ cnt (cR u v) p = k) 100 = -1 then -5 else fst (fun p => cR u v p ∧ cnt (cR u v) p = k) 100
def rClaim (M : sM) (a b s k : Int) : Int := if okClaim M a b s k then clmA (9 - bDst M 1 s.toNat a.toNat) (9 - bDst M 1 s.toNat b.toNat) k else -10
/-! gulls -/
def sumI (f : Nat → Int) : Nat → Int
  | 0 => 0
  | n + 1 => sumI f n + f n
def kfr : Nat → Int → Int → Int × Int
  | 0, a, b => (a, b)
  | d + 1, a, b => if d = 0 then (a, b) else if a % (d + 1 : Nat) = 0 ∧ b % (d + 1 : Nat) = 0 then kfr d (a / (d + 1 : Nat)) (b / (d + 1 : Nat)) else kfr d a b
def gulS (M : sM) : Int := sumI (fun s => if adr M 1 s then bWei M 1 s else 0) (nS M 1)
def mFrac (M : sM) (q : Int × Int) : sM := sSt (sSt M 0 8 q.1) 0 9 q.2
def rGulls (c : Int) : Int := if 0 ≤ c ∧ c ≤ 10 then 1 else -2
def mGulls (M : sM) (c : Int) : sM := if 0 ≤ c ∧ c ≤ 10 then mFrac M (kfr 10 (gulS M * (10 - c)) 10) else sBad M
theorem sumI_r {f : Nat → Int} {c : Int} (h : ∀ n, 0 ≤ f n ∧ f n ≤ c) : ∀ n, 0 ≤ sumI f n ∧ sumI f n ≤ n * c
  | 0 => ⟨Int.le_refl 0, by show (0 : Int) ≤ (0 : Nat) * c; simp⟩
  | n + 1 => by
    have h1 := sumI_r h n
    have h2 := h n
    show 0 ≤ sumI f n + f n ∧ sumI f n + f n ≤ ((n + 1 : Nat) : Int) * c
    have e : ((n + 1 : Nat) : Int) * c = n * c + c := by rw [Int.natCast_add, Int.add_mul]; simp
    omega
theorem gulS_r {M : sM} (hT : TInv M) : 0 ≤ gulS M ∧ gulS M ≤ 132 := by
  have h := sumI_r (f := fun s => if adr M 1 s then bWei M 1 s else 0) (c := 22) (fun s => by
    have := bWei_r hT (Or.inl rfl) s
    show 0 ≤ (if adr M 1 s then bWei M 1 s else 0) ∧ (if adr M 1 s then bWei M 1 s else 0) ≤ 22
    split <;> omega) (nS M 1)
  have h2 := nS_r hT (Or.inl rfl)
  unfold gulS
  omega
/-! years -/
def lcg (x : Nat) : Nat := (x * 1103515245 + 12345) % 2147483648
theorem lcg_lt (x : Nat) : lcg x < 2147483648 := Nat.mod_lt _ (by decide)
def lcgN (x : Nat) : Nat → Nat
  | 0 => x
  | n + 1 => lcg (lcgN x n)
def yDo (M : sM) (o i : Nat) : sM := if (i : Int) < M o 10 ∧ bCho M o i ≠ -1 then sSt M (o + 7) (bCho M o i).toNat i else M
def yStep (M : sM) (o x : Nat) : sM := yDo (bFlo (bGat M o ((x / 65536 % 3 : Nat) - 1)) o) o (x / 1048576 % 6)
def yIt (M : sM) (o x : Nat) : Nat → sM
  | 0 => M
  | n + 1 => yStep (yIt M o x n) o (lcgN x (n + 1))
abbrev okYears (x n : Int) : Prop := (0 ≤ x ∧ x ≤ 999999) ∧ (0 ≤ n ∧ n ≤ 60)
def rYears (M : sM) (x n : Int) : Int := if okYears x n then bRig (yIt (bCpy M 49 1) 49 x.toNat n.toNat) 49 else -2
def mYears (M : sM) (x n : Int) : sM := if okYears x n then yIt (bCpy M 49 1) 49 x.toNat n.toNat else sBad M
theorem yDo_t (M : sM) (o i : Nat) : yDo M o i (o + 5) 4 = M (o + 5) 4 := by
  unfold yDo
  split
  · rw [sSt_at, if_neg (by omega)]
  · rfl
theorem yIt_t (M : sM) (o x : Nat) : ∀ n, yIt M o x n (o + 5) 4 = M (o + 5) 4 + n
  | 0 => by show M (o + 5) 4 = _; omega
  | n + 1 => by
    show yStep _ o _ (o + 5) 4 = _
    unfold yStep
    rw [yDo_t, bFlo_tide, bGat_tide, yIt_t M o x n]
    omega
def rPart (M : sM) (w : Int) : Int64 := if w = 0 then (sI (M 0 8)).toInt64 else if w = 1 then (sI (M 0 9)).toInt64 else (sI (-2)).toInt64
/-! the digest -/
def dgS (M : sM) : Nat → Int64 → Int64
  | 0, h => h
  | s + 1, h => mixR (fun w => bFact M 1 s w) 5 (dgS M s h)
def dig (M : sM) : Int64 :=
  31 * (31 * mixR (M 16) ((M 15 3).toNat * 3) (mixR (M 14) ((M 13 3).toNat * 4) (mixR (M 12) ((M 11 3).toNat * 2) (mixR (M 5) (nC M 1) (dgS M (nS M 1) (mixR (M 2) 12 (mixR (fun w => rCount0 M w) 11 1613)))))) + (sI (M 0 8)).toInt64) + (sI (M 0 9)).toInt64
/-! swaps -/
def swR (n i : Nat) (h : Nat → Int) (x : Int) (k : Nat) : Nat → Int := fun s => if s < k ∧ s < n ∧ h s = i then x else h s
def swH (n i : Nat) (h : Nat → Int) : Nat → Int := if h i ≠ -1 ∧ h i ≠ i then (fun s => if s = i then (i : Int) else swR n i h (h i) n s) else h
def swN (n : Nat) (h : Nat → Int) : Nat → Nat → Int
  | 0 => h
  | i + 1 => swH n i (swN n h i)
def swC (n : Nat) (h : Nat → Int) : Nat → Int
  | 0 => 0
  | i + 1 => swC n h i + if swN n h i i ≠ -1 ∧ swN n h i i ≠ i then 1 else 0
def rSwaps (M : sM) : Int := swC (nS M 1) (M 8) (min (nS M 1) (nC M 1))
