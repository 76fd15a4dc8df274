/-! bits -/
theorem sI_nI (n : Nat) : sI (n : Int) = nI n := Int32.ofInt_eq_ofNat
theorem zs_l : ∀ n, n < 32 → ((nI n &&& 31).toBitVec.smod 32).toNat = n := by decide +kernel
theorem zs_and (a b : Nat) : nI a &&& nI b = nI (a &&& b) := by
  apply Int32.toBitVec_inj.1
  show BitVec.ofNat 32 a &&& BitVec.ofNat 32 b = BitVec.ofNat 32 (a &&& b)
  apply BitVec.eq_of_getLsbD_eq
  intro i hi
  simp [BitVec.getLsbD_ofNat, hi, Nat.testBit_and]
theorem zs_or (a b : Nat) : nI a ||| nI b = nI (a ||| b) := by
  apply Int32.toBitVec_inj.1
  show BitVec.ofNat 32 a ||| BitVec.ofNat 32 b = BitVec.ofNat 32 (a ||| b)
  apply BitVec.eq_of_getLsbD_eq
  intro i hi
  simp [BitVec.getLsbD_ofNat, hi, Nat.testBit_or]
theorem zb_and (a b : Nat) : sI (a : Int) &&& sI (b : Int) = sI ((a &&& b : Nat) : Int) := by rw [sI_nI, sI_nI, sI_nI, zs_and]
theorem zb_or (a b : Nat) : sI (a : Int) ||| sI (b : Int) = sI ((a ||| b : Nat) : Int) := by rw [sI_nI, sI_nI, sI_nI, zs_or]
theorem zb_shl {k : Nat} (hk : k < 31) : sI 1 <<< (sI (k : Int) &&& 31) = sI ((2 ^ k : Nat) : Int) := by
  rw [show (1 : Int) = ((1 : Nat) : Int) from rfl, sI_nI, sI_nI, sI_nI, pk_shlN _ k (zs_l k (by omega)) (by rw [Nat.one_mul]; exact Nat.pow_lt_pow_right (by decide) (by omega)), Nat.one_mul]
theorem zb_shr {x k : Nat} (hx : x < 2 ^ 31) (hk : k < 32) : sI (x : Int) >>> (sI (k : Int) &&& 31) = sI ((x / 2 ^ k : Nat) : Int) := by
  rw [sI_nI, sI_nI, sI_nI, pk_shrN hx _ k (zs_l k hk)]
theorem zb_a1 (x : Nat) : sI (x : Int) &&& sI 1 = sI ((x % 2 : Nat) : Int) := by
  rw [show (1 : Int) = ((1 : Nat) : Int) from rfl, zb_and, Nat.and_one_is_mod]
theorem zb_test (x k : Nat) : x.testBit k = true ↔ x / 2 ^ k % 2 = 1 := by
  rw [Nat.testBit_eq_decide_div_mod_eq]
  simp
/-- a set without some -/
def sDel (x y : Nat) : Nat := x &&& (63 ^^^ y)
theorem zb_not : ∀ y : Nat, y < 64 → sI (y : Int) ^^^ sI (-1) = sI (-1 - (y : Int)) := by decide +kernel
theorem zb_del1 : ∀ x : Nat, x < 64 → ∀ y : Nat, y < 64 → sI (x : Int) &&& sI (-1 - (y : Int)) = sI ((sDel x y : Nat) : Int) := by decide +kernel
theorem sDel_lt : ∀ {x y : Nat}, x < 64 → sDel x y < 64 := fun {x y} h => Nat.lt_of_le_of_lt Nat.and_le_left h
theorem zb_lt {x y n : Nat} (hx : x < 2 ^ n) (hy : y < 2 ^ n) : x ||| y < 2 ^ n := Nat.or_lt_two_pow hx hy
/-- the set of those below n with p -/
def bits (p : Nat → Prop) [DecidablePred p] : Nat → Nat
  | 0 => 0
  | n + 1 => bits p n ||| (if p n then 2 ^ n else 0)
theorem bits_lt (p : Nat → Prop) [DecidablePred p] : ∀ n, bits p n < 2 ^ n
  | 0 => Nat.lt_of_lt_of_eq Nat.zero_lt_one rfl
  | n + 1 => by
    unfold bits
    have h := bits_lt p n
    have h2 : (2 : Nat) ^ n < 2 ^ (n + 1) := Nat.pow_lt_pow_right (by decide) (Nat.lt_succ_self n)
    apply zb_lt (Nat.lt_trans h h2)
    split
    · exact h2
    · exact Nat.two_pow_pos _
theorem bits_y {p : Nat → Prop} [DecidablePred p] {n : Nat} (h : p n) : bits p (n + 1) = bits p n ||| 2 ^ n := by
  show bits p n ||| (if p n then 2 ^ n else 0) = _
  rw [if_pos h]
theorem bits_n {p : Nat → Prop} [DecidablePred p] {n : Nat} (h : ¬ p n) : bits p (n + 1) = bits p n := by
  show bits p n ||| (if p n then 2 ^ n else 0) = _
  rw [if_neg h, Nat.or_zero]
theorem bits_t (p : Nat → Prop) [DecidablePred p] : ∀ n i, (bits p n).testBit i = decide (i < n ∧ p i)
  | 0, i => by simp [bits]
  | n + 1, i => by
    unfold bits
    rw [Nat.testBit_or, bits_t p n i]
    by_cases hi : i = n
    · subst hi
      by_cases hp : p i
      · simp [hp]
      · simp [hp]
    · have e : (if p n then 2 ^ n else 0).testBit i = false := by
        split
        · rw [Nat.testBit_two_pow]; simp [Ne.symm hi]
        · simp
      rw [e, Bool.or_false]
      have : (i < n ∧ p i) ↔ (i < n + 1 ∧ p i) := by constructor <;> (intro z; exact ⟨by omega, z.2⟩)
      simp only [this]
theorem bits_c {p q : Nat → Prop} [DecidablePred p] [DecidablePred q] : ∀ {n : Nat}, (∀ i, i < n → (p i ↔ q i)) → bits p n = bits q n
  | 0, _ => rfl
  | n + 1, h => by
    unfold bits
    rw [bits_c (fun i hi => h i (by omega)), if_congr' (h n (Nat.lt_succ_self n))]
theorem bits_lt6 (p : Nat → Prop) [DecidablePred p] {n : Nat} (h : n ≤ 6) : bits p n < 64 := Nat.lt_of_lt_of_le (bits_lt p n) (Nat.pow_le_pow_right (n := 2) (by decide) h)
/-! the shore's own answers: what is refused is counted -/
def sBad (M : sM) : sM := sSt M 0 10 (M 0 10 + 1)
def sNo (M : sM) : sM := sSt M 0 11 (M 0 11 + 1)
def sFul (M : sM) : sM := sSt M 0 12 (M 0 12 + 1)
/-- room to count -/
abbrev sCt (M : sM) : Prop := M 0 10 < 1000000 ∧ M 0 11 < 1000000 ∧ M 0 12 < 1000000
def rCur (M : sM) (c v : Int) : Int := if (0 ≤ c ∧ c ≤ 11) ∧ (-2 ≤ v ∧ v ≤ 2) then M 2 c.toNat else -10
def mCur (M : sM) (c v : Int) : sM := if (0 ≤ c ∧ c ≤ 11) ∧ (-2 ≤ v ∧ v ≤ 2) then sSt (sSt M 2 c.toNat v) 1 11 0 else sBad M
abbrev okSoul (k w c : Int) : Prop := (0 ≤ k ∧ k ≤ 5) ∧ (1 ≤ w ∧ w ≤ 9) ∧ (0 ≤ c ∧ c ≤ 11)
def rSoul (M : sM) (k w c : Int) : Int := if okSoul k w c then (if M 1 9 < 6 then M 1 9 else -4) else -2
def mSoul (M : sM) (k w c : Int) : sM := if okSoul k w c then (if M 1 9 < 6 then bAdS (sSt M 1 11 0) 1 k w c else sFul M) else sBad M
def rCaller (M : sM) (k : Int) : Int := if 0 ≤ k ∧ k ≤ 5 then (if M 1 10 < 6 then M 1 10 else -4) else -2
def mCaller (M : sM) (k : Int) : sM := if 0 ≤ k ∧ k ≤ 5 then (if M 1 10 < 6 then bAdI (sSt M 1 11 0) 1 k else sFul M) else sBad M
def rType (M : sM) (c : Int) : Int := if 0 ≤ c ∧ c ≤ 127 then (if M 195 2 < 150 then M 195 2 + 1 else -4) else -2
def mType (M : sM) (c : Int) : sM := if 0 ≤ c ∧ c ≤ 127 then (if M 195 2 < 150 then sSt (sSt M 196 (M 195 2).toNat c) 195 2 (M 195 2 + 1) else sFul M) else sBad M
def rTides (M : sM) (n : Int) : Int := if 1 ≤ n ∧ n ≤ 60 then bAdC (bPas (bRem M 1) 1 n.toNat) 1 else -2
def mTides (M : sM) (n : Int) : sM := if 1 ≤ n ∧ n ≤ 60 then bPas (bRem M 1) 1 n.toNat else sBad M
def rWalks (M : sM) (d : Int) : Int := if -1 ≤ d ∧ d ≤ 1 then (if M 6 4 < 999 then bGaC (bRem M 1) 1 d else -3) else -2
def mWalks (M : sM) (d : Int) : sM := if -1 ≤ d ∧ d ≤ 1 then (if M 6 4 < 999 then bFlo (bGat (bRem M 1) 1 d) 1 else sNo M) else sBad M
abbrev isCal (M : sM) (i : Int) : Prop := 0 ≤ i ∧ i < M 1 10
abbrev isSou (M : sM) (i : Int) : Prop := 0 ≤ i ∧ i < M 1 9
def rCalls (M : sM) (i : Int) : Int := if isCal M i then (if bCho M 1 i.toNat = -1 then -3 else bCho M 1 i.toNat) else -2
def mCalls (M : sM) (i : Int) : sM := if isCal M i then (if bCho M 1 i.toNat = -1 then sNo M else sSt (bRem M 1) 8 (bCho M 1 i.toNat).toNat i) else sBad M
def rReturns (M : sM) (i : Int) : Int := if isCal M i then (if bHeld M 1 i.toNat = -1 then -3 else bHeld M 1 i.toNat) else -2
def mReturns (M : sM) (i : Int) : sM := if isCal M i then (if bHeld M 1 i.toNat = -1 then sNo M else sSt (bRem M 1) 8 (bHeld M 1 i.toNat).toNat (-1)) else sBad M
def rUndo (M : sM) : Int := if 0 < M 1 11 then bUnd M 1 6 4 else -3
def mUndo (M : sM) : sM := if 0 < M 1 11 then bUnd M 1 else sNo M
def rOf (M : sM) (s w : Int) : Int := if isSou M s ∧ (0 ≤ w ∧ w ≤ 5) then bFact M 1 s.toNat w else -2
def rAbout (M : sM) (i w : Int) : Int := if isCal M i ∧ (0 ≤ w ∧ w ≤ 3) then (if w = 0 then M 5 i.toNat else if w = 1 then bHeld M 1 i.toNat else if w = 2 then bWan M 1 i.toNat else bCho M 1 i.toNat) else -2
def rFeels (M : sM) (s i : Int) : Int := if isSou M s ∧ isCal M i then bFel M 1 s.toNat i.toNat else -2
def rWhere (M : sM) (s m : Int) : Int := if isSou M s ∧ (0 ≤ m ∧ m ≤ 60) then bAhe M 1 s.toNat m.toNat else -2
def rComes (M : sM) (c m : Int) : Int := if (0 ≤ c ∧ c ≤ 11) ∧ (0 ≤ m ∧ m ≤ 60) then ((bits (fun a => driN (M 2) m.toNat (a : Int) = c) 12 : Nat) : Int) else -2
/-- nothing but the count of refusals changes -/
def mB (M : sM) (P : Prop) [Decidable P] : sM := if P then M else sBad M
def rSeen (M : sM) (m c : Int) : Int := if (0 ≤ m ∧ m ≤ 60) ∧ (0 ≤ c ∧ c ≤ 11) then (if M 11 3 < 5 then M 11 3 + 1 else -4) else -2
def mSeen (M : sM) (m c : Int) : sM := if (0 ≤ m ∧ m ≤ 60) ∧ (0 ≤ c ∧ c ≤ 11) then (if M 11 3 < 5 then tadd M 11 2 m c 0 0 else sFul M) else sBad M
abbrev okNote (M : sM) (s w d x : Int) : Prop := isSou M s ∧ (1 ≤ w ∧ w ≤ 9) ∧ (0 ≤ d ∧ d ≤ 99) ∧ (0 ≤ x ∧ x ≤ 30)
def rNote (M : sM) (s w d x : Int) : Int := if okNote M s w d x then (if M 13 3 < 6 then M 13 3 + 1 else -4) else -2
def mNote (M : sM) (s w d x : Int) : sM := if okNote M s w d x then (if M 13 3 < 6 then tadd M 13 4 s w d x else sFul M) else sBad M
abbrev okMark (M : sM) (i x y : Int) : Prop := isCal M i ∧ (0 ≤ x ∧ x ≤ 30) ∧ (0 ≤ y ∧ y ≤ 60)
def rMark (M : sM) (i x y : Int) : Int := if okMark M i x y then (if M 15 3 < 6 then M 15 3 + 1 else -4) else -2
def mMark (M : sM) (i x y : Int) : sM := if okMark M i x y then (if M 15 3 < 6 then tadd M 15 3 i x y 0 else sFul M) else sBad M
def rForget (M : sM) (w : Int) : Int := if w = 0 then M 11 3 else if w = 1 then M 13 3 else if w = 2 then M 15 3 else -2
def mForget (M : sM) (w : Int) : sM := if w = 0 then sSt M 11 3 0 else if w = 1 then sSt M 13 3 0 else if w = 2 then sSt M 15 3 0 else sBad M
def rStatus (M : sM) (w : Int) : Int := if w = 0 then M 0 10 else if w = 1 then M 0 11 else if w = 2 then M 0 12 else -1
def rCount0 (M : sM) (w : Int) : Int := if w = 0 then M 1 9 else if w = 1 then M 1 10 else if w = 2 then M 6 4 else if w = 3 then bAdC M 1 else if w = 4 then bShC M 1 else if w = 5 then M 6 3 else if w = 6 then M 11 3 else if w = 7 then M 13 3 else if w = 8 then M 15 3 else if w = 9 then M 1 11 else M 195 2
def rCount (M : sM) (w : Int) : Int := if 0 ≤ w ∧ w ≤ 10 then rCount0 M w else -2
/-- where the i-th image begins -/
def imO (i : Int) : Nat := if i = 0 then 98 else 146
def rImage (i : Int) : Int := if 0 ≤ i ∧ i ≤ 1 then 1 else -2
def mImage (M : sM) (i : Int) : sM := if 0 ≤ i ∧ i ≤ 1 then sSt (bCpy M (imO i) 1) 194 i.toNat 1 else sBad M
def rFrom (M : sM) (i : Int) : Int := if 0 ≤ i ∧ i ≤ 1 then (if M 194 i.toNat = 0 then -3 else 1) else -2
def mFrom (M : sM) (i : Int) : sM := if 0 ≤ i ∧ i ≤ 1 then (if M 194 i.toNat = 0 then sNo M else bCpy M 1 (imO i)) else sBad M
theorem bRem_ne {M : sM} {o c j : Nat} (h : ¬ (o + 16 ≤ c ∧ c < o + 48)) (h2 : ¬ (c = o ∧ j = 11)) : bRem M o c j = M c j := by
  unfold bRem
  split
  · rw [sSt_at, if_neg h2, mCp_at, if_neg (by unfold nU; omega)]
  · rw [sSt_at, if_neg h2, mCp_at, if_neg (by omega), shf_out (by omega)]
theorem bGat_tide {o : Nat} (M : sM) (d : Int) : bGat M o d (o + 5) 4 = M (o + 5) 4 := by
  unfold bGat
  rw [gaN_at, if_neg (by omega), if_neg (by omega), sSt_nj (by decide)]
