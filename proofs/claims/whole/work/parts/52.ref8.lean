/-! the reference: the soonest walk, from behind -/
abbrev bitL (x : Int64) (k : Nat) : Prop := x.toBitVec.getLsbD k = true
theorem ls_l : ∀ k : Nat, k < 64 → (((sI (k : Int)).toInt64 &&& 63).toBitVec.smod 64).toNat = k := by decide +kernel
theorem lshr_b {x : Int64} {k : Nat} (hk : k < 64) : (x >>> ((sI (k : Int)).toInt64 &&& 63)) &&& 1 = if bitL x k then 1 else 0 := by
  apply Int64.toBitVec_inj.1
  have e : (x >>> ((sI (k : Int)).toInt64 &&& 63)).toBitVec = x.toBitVec.sshiftRight k := by
    show x.toBitVec.sshiftRight ((((sI (k : Int)).toInt64 &&& 63).toBitVec.smod 64).toNat) = _
    rw [ls_l k hk]
  rw [Int64.toBitVec_and, e]
  have one : (1 : Int64).toBitVec = 1#64 := rfl
  have zero : (0 : Int64).toBitVec = 0#64 := rfl
  have g : ∀ i, (x.toBitVec.sshiftRight k &&& 1#64).getLsbD i = (decide (i = 0) && x.toBitVec.getLsbD k) := by
    intro i
    rw [BitVec.getLsbD_and, BitVec.getLsbD_one, BitVec.getLsbD_sshiftRight]
    by_cases hi : i = 0
    · subst hi
      rw [if_pos (show k + 0 < 64 by omega)]
      simp
    · simp [hi]
  apply BitVec.eq_of_getLsbD_eq
  intro i _
  rw [one, g i]
  by_cases hb : bitL x k
  · rw [if_pos hb, one, BitVec.getLsbD_one, show x.toBitVec.getLsbD k = true from hb]
    simp
  · rw [if_neg hb, zero, show x.toBitVec.getLsbD k = false from Bool.eq_false_iff.mpr hb]
    simp
theorem lshl_b {k : Nat} (hk : k < 64) : (1 : Int64) <<< ((sI (k : Int)).toInt64 &&& 63) = lN (2 ^ k) := by
  apply Int64.toBitVec_inj.1
  show (1#64 <<< ((((sI (k : Int)).toInt64 &&& 63).toBitVec.smod 64).toNat)) = BitVec.ofNat 64 (2 ^ k)
  rw [ls_l k hk]
  apply BitVec.eq_of_toNat_eq
  rw [BitVec.toNat_shiftLeft, BitVec.toNat_ofNat, BitVec.toNat_ofNat, Nat.shiftLeft_eq]
  simp
theorem lN_or (a b : Nat) : lN a ||| lN b = lN (a ||| b) := by
  apply Int64.toBitVec_inj.1
  show BitVec.ofNat 64 a ||| BitVec.ofNat 64 b = BitVec.ofNat 64 (a ||| b)
  rw [BitVec.ofNat_or]
theorem lor_0 (a : Int64) : a ||| 0 = a := by
  rw [Int64.or_zero]
theorem bitL_N {v k : Nat} (hk : k < 64) : bitL (lN v) k ↔ v.testBit k = true := by
  show (BitVec.ofNat 64 v).getLsbD k = true ↔ _
  rw [BitVec.getLsbD_ofNat]
  simp [hk]
theorem bitL_1 {k : Nat} (hk : k < 64) : bitL 1 k ↔ k = 0 := by
  show (1#64).getLsbD k = true ↔ _
  rw [BitVec.getLsbD_one]
  simp
theorem bit1_y {P : Prop} [Decidable P] (h : (if P then (1 : Int64) else 0) = 1) : P := by
  by_cases hp : P
  · exact hp
  · rw [if_neg hp] at h; exact absurd h (by decide)
theorem bit1_n {P : Prop} [Decidable P] (h : (if P then (1 : Int64) else 0) ≠ 1) : ¬ P := fun hp => h (if_pos hp)
theorem bit0_n {P : Prop} [Decidable P] (h : (if P then (1 : Int64) else 0) = 0) : ¬ P := fun hp => by
  rw [if_pos hp] at h; exact absurd h (by decide)
theorem bit0_y {P : Prop} [Decidable P] (h : (if P then (1 : Int64) else 0) ≠ 0) : P := by
  by_cases hp : P
  · exact hp
  · exact absurd (if_neg hp) h
/-- who lies where, then -/
def qFd (M : sM) (m c : Nat) : Nat := bits (fun s => 0 ≤ M 263 s ∧ driN (M 260) m (M 263 s) = (c : Int)) (qn M)
theorem qFd_lt {M : sM} (hT : TInv M) (m c : Nat) : qFd M m c < 64 := bits_lt6 _ (qn_r hT).1
def qFf (M : sM) (j : Nat) : Int := (qFd M (j / 12) (j % 12) : Nat)
def qFM (M : sM) : sM := fil M 275 (qFf M) 240
theorem qFl_s {M : sM} {m c : Nat} (hc : c < 12) : sSt (fil M 275 (qFf M) (12 * m + c)) 275 (12 * m + c) (qFd M m c : Nat) = fil M 275 (qFf M) (12 * m + (c + 1)) := by
  rw [← Nat.add_assoc, ← fil_s]
  unfold qFf
  rw [show (12 * m + c) / 12 = m by omega, show (12 * m + c) % 12 = c by omega]
theorem qFM_at {M : sM} {m c : Nat} (hm : m < 20) (hc : c < 12) : qFM M 275 (12 * m + c) = (qFd M m c : Nat) := by
  unfold qFM
  rw [fil_in _ _ _ (by omega)]
  unfold qFf
  rw [show (12 * m + c) / 12 = m by omega, show (12 * m + c) % 12 = c by omega]
def qTo (c : Nat) (d : Int) : Nat := (max 0 (min 11 ((c : Int) + d))).toNat
theorem qTo_lt (c : Nat) (d : Int) : qTo c d < 12 := by unfold qTo; omega
abbrev fdM (M : sM) (m c : Nat) : Nat := (M 275 (12 * m + c)).toNat
abbrev mayP (M : sM) (L : sL) (m c : Nat) (d : Int) (x : Nat) : Prop := bitL (L 274 (12 * (m + 1) + qTo c d)) (sDel x (fdM M m (qTo c d)))
/-- whether all of a set can be found in d steps, from step m on, out of cell c -/
def canB (f : Nat → Nat → Nat) : Nat → Nat → Nat → Nat → Bool
  | 0, _, _, x => x == 0
  | d + 1, m, c, x => canB f d (m + 1) (qTo c (-1)) (sDel x (f m (qTo c (-1)))) || canB f d (m + 1) (qTo c 0) (sDel x (f m (qTo c 0))) || canB f d (m + 1) (qTo c 1) (sDel x (f m (qTo c 1)))
def cnI (M : sM) (n T m : Nat) (L1 : sL) : Prop := ∀ a c x, m ≤ a → a ≤ T → c < 12 → x < 2 ^ n → (bitL (L1 274 (12 * a + c)) x ↔ canB (fdM M) (T - a) a c x = true)
abbrev may3 (M : sM) (L : sL) (m c x : Nat) : Prop := mayP M L m c (-1) x ∨ mayP M L m c 0 x ∨ mayP M L m c 1 x
theorem sDel_n {x y n : Nat} (h : x < 2 ^ n) : sDel x y < 2 ^ n := Nat.lt_of_le_of_lt Nat.and_le_left h
theorem cnI_may {M : sM} {n T m c x : Nat} {L1 : sL} (h : cnI M n T (m + 1) L1) (hm : m + 1 ≤ T) (hx : x < 2 ^ n) (d : Int) :
    mayP M L1 m c d x ↔ canB (fdM M) (T - (m + 1)) (m + 1) (qTo c d) (sDel x (fdM M m (qTo c d))) = true :=
  h (m + 1) (qTo c d) _ (Nat.le_refl _) hm (qTo_lt c d) (sDel_n hx)
theorem cnI_may3 {M : sM} {n T m c x : Nat} {L1 : sL} (h : cnI M n T (m + 1) L1) (hm : m + 1 ≤ T) (hx : x < 2 ^ n) :
    may3 M L1 m c x ↔ canB (fdM M) (T - m) m c x = true := by
  rw [show T - m = (T - (m + 1)) + 1 by omega]
  unfold canB
  rw [Bool.or_eq_true, Bool.or_eq_true, ← cnI_may h hm hx (-1), ← cnI_may h hm hx 0, ← cnI_may h hm hx 1]
  exact ⟨fun z => z.elim (fun a => Or.inl (Or.inl a)) (fun b => b.elim (fun a => Or.inl (Or.inr a)) Or.inr), fun z => z.elim (fun a => a.elim Or.inl (fun b => Or.inr (Or.inl b))) (fun a => Or.inr (Or.inr a))⟩
theorem cnI_0 {M : sM} {n T : Nat} {L1 : sL} (hn : n ≤ 6) (h : ∀ c, c < 12 → L1 274 (12 * T + c) = 1) : cnI M n T T L1 := by
  intro a c x h1 h2 hc hx
  have h64 : x < 64 := Nat.lt_of_lt_of_le hx (Nat.pow_le_pow_right (n := 2) (by decide) hn)
  obtain rfl : a = T := by omega
  rw [h c hc, Nat.sub_self, bitL_1 h64]
  unfold canB
  exact ⟨fun z => by rw [z]; rfl, fun z => eq_of_beq z⟩
/-- one row more: its first c cells -/
def cnJ (M : sM) (n T m k : Nat) (L1 : sL) : Prop := ∀ c x, c < k → x < 2 ^ n → (bitL (L1 274 (12 * m + c)) x ↔ canB (fdM M) (T - m) m c x = true)
theorem cnJ_s {M : sM} {n T m k : Nat} {L1 : sL} (hn : n ≤ 6) (hI : cnI M n T (m + 1) L1) (hJ : cnJ M n T m k L1) (hm : m + 1 ≤ T) (hk : k < 12) :
    cnI M n T (m + 1) (sSl L1 274 (12 * m + k) (lN (bits (fun x => may3 M L1 m k x) (2 ^ n)))) ∧ cnJ M n T m (k + 1) (sSl L1 274 (12 * m + k) (lN (bits (fun x => may3 M L1 m k x) (2 ^ n)))) := by
  constructor
  · intro a c x h1 h2 hc hx
    rw [sSl_at, if_neg (by omega)]
    exact hI a c x h1 h2 hc hx
  · intro c x hc hx
    have h64 : x < 64 := Nat.lt_of_lt_of_le hx (Nat.pow_le_pow_right (n := 2) (by decide) hn)
    rw [sSl_at]
    by_cases e : c = k
    · subst e
      rw [if_pos ⟨rfl, rfl⟩, bitL_N h64, bits_t, decide_eq_true_iff, ← cnI_may3 hI hm hx]
      exact ⟨fun z => z.2, fun z => ⟨hx, z⟩⟩
    · rw [if_neg (fun z => e (by have := z.2; omega))]
      exact hJ c x (by omega) hx
theorem cnI_s {M : sM} {n T m : Nat} {L1 : sL} (hI : cnI M n T (m + 1) L1) (hJ : cnJ M n T m 12 L1) : cnI M n T m L1 := by
  intro a c x h1 h2 hc hx
  by_cases e : a = m
  · rw [e]; exact hJ c x hc hx
  · exact hI a c x (by omega) h2 hc hx
/-- the first row of steps: where one stands, what is left, the step -/
def gSt (f : Nat → Nat → Nat) (T c0 x0 : Nat) : Nat → Nat × Nat × Int
  | 0 => (c0, x0, 0)
  | j + 1 =>
    let c := (gSt f T c0 x0 j).1
    let x := (gSt f T c0 x0 j).2.1
    let d : Int := if canB f (T - (j + 1)) (j + 1) (qTo c (-1)) (sDel x (f j (qTo c (-1)))) = true then -1 else if canB f (T - (j + 1)) (j + 1) (qTo c 0) (sDel x (f j (qTo c 0))) = true then 0 else 1
    (qTo c d, sDel x (f j (qTo c d)), d)
def gD (f : Nat → Nat → Nat) (T j c x : Nat) : Int := if canB f (T - (j + 1)) (j + 1) (qTo c (-1)) (sDel x (f j (qTo c (-1)))) = true then -1 else if canB f (T - (j + 1)) (j + 1) (qTo c 0) (sDel x (f j (qTo c 0))) = true then 0 else 1
theorem gSt_s (f : Nat → Nat → Nat) (T c0 x0 j : Nat) : gSt f T c0 x0 (j + 1) =
    (qTo (gSt f T c0 x0 j).1 (gD f T j (gSt f T c0 x0 j).1 (gSt f T c0 x0 j).2.1), sDel (gSt f T c0 x0 j).2.1 (f j (qTo (gSt f T c0 x0 j).1 (gD f T j (gSt f T c0 x0 j).1 (gSt f T c0 x0 j).2.1))), gD f T j (gSt f T c0 x0 j).1 (gSt f T c0 x0 j).2.1) := rfl
def qWS (M : sM) (a : Nat) : Nat := bits (fun s => a.testBit s = true ∧ 0 ≤ M 263 s) (qn M)
theorem qWS_lt (M : sM) (a : Nat) : qWS M a < 2 ^ qn M := bits_lt _ _
def qcb (M : sM) : Nat := (M 258 4).toNat
theorem qcb_r {M : sM} (hT : TInv M) : qcb M < 12 ∧ M 258 4 = (qcb M : Int) := by
  have := tv hT (k := 258) (j := 4) (lo := 0) (hi := 11) rfl
  unfold qcb
  omega
theorem gSt_r {f : Nat → Nat → Nat} {T c0 x0 n : Nat} (hc : c0 < 12) (hx : x0 < 2 ^ n) : ∀ j, (gSt f T c0 x0 j).1 < 12 ∧ (gSt f T c0 x0 j).2.1 < 2 ^ n ∧ -1 ≤ (gSt f T c0 x0 j).2.2 ∧ (gSt f T c0 x0 j).2.2 ≤ 1
  | 0 => ⟨hc, hx, by show (-1 : Int) ≤ 0; decide, by show (0 : Int) ≤ 1; decide⟩
  | j + 1 => by
    have ih := gSt_r (f := f) (T := T) hc hx j
    rw [gSt_s]
    refine ⟨qTo_lt _ _, sDel_n ih.2.1, ?_⟩
    show -1 ≤ gD _ _ _ _ _ ∧ gD _ _ _ _ _ ≤ 1
    unfold gD
    repeat' split
    all_goals omega
abbrev canM (M : sM) (S x : Nat) : Prop := canB (fun m c => qFd M m c) S 0 (qcb M) x = true
abbrev okQW (M : sM) (a k : Int) : Prop := (0 ≤ a ∧ a < ((2 ^ qn M : Nat) : Int)) ∧ (-2 = k ∨ 0 ≤ k)
/-- the answer of walk -/
def qwAns (M : sM) (a k r : Int) : Prop :=
  ((∀ S, S ≤ 20 → ¬ canM M S (qWS M a.toNat)) ∧ r = -6) ∨ (∃ T, T ≤ 20 ∧ canM M T (qWS M a.toNat) ∧ (∀ S, S < T → ¬ canM M S (qWS M a.toNat)) ∧
    r = if k = -2 then (T : Int) else if k < T then (gSt (fun m c => qFd M m c) T (qcb M) (qWS M a.toNat) (k.toNat + 1)).2.2 + 1 else -5)
/-- where all found ones are told rightly, the row is the same -/
theorem canB_c {f g : Nat → Nat → Nat} : ∀ d m c x, (∀ a b, a < m + d → b < 12 → f a b = g a b) → canB f d m c x = canB g d m c x
  | 0, _, _, _, _ => rfl
  | d + 1, m, c, x, h => by
    unfold canB
    rw [h m (qTo c (-1)) (by omega) (qTo_lt _ _), h m (qTo c 0) (by omega) (qTo_lt _ _), h m (qTo c 1) (by omega) (qTo_lt _ _)]
    rw [canB_c d (m + 1) _ _ (fun a b h1 h2 => h a b (by omega) h2), canB_c d (m + 1) _ _ (fun a b h1 h2 => h a b (by omega) h2), canB_c d (m + 1) _ _ (fun a b h1 h2 => h a b (by omega) h2)]
theorem fd_e {M : sM} {m c : Nat} (hm : m < 20) (hc : c < 12) : fdM (qFM M) m c = qFd M m c := by
  unfold fdM
  rw [qFM_at hm hc, Int.toNat_natCast]
theorem canM_e {M : sM} {S x : Nat} (hS : S ≤ 20) : canB (fdM (qFM M)) S 0 (qcb M) x = true ↔ canM M S x := by
  unfold canM
  rw [canB_c S 0 _ _ (fun a b h1 h2 => fd_e (M := M) (m := a) (c := b) (by omega) h2)]
theorem gSt_c {M : sM} {T c0 x0 : Nat} (hT : T ≤ 20) : ∀ j, j ≤ T → gSt (fdM (qFM M)) T c0 x0 j = gSt (fun m c => qFd M m c) T c0 x0 j
  | 0, _ => rfl
  | j + 1, hj => by
    have ih := gSt_c (M := M) (c0 := c0) (x0 := x0) hT j (by omega)
    rw [gSt_s, gSt_s, ih]
    have e : ∀ b, b < 12 → fdM (qFM M) j b = qFd M j b := fun b hb => fd_e (by omega) hb
    have ed : ∀ c x, gD (fdM (qFM M)) T j c x = gD (fun m c => qFd M m c) T j c x := fun c x => by
      unfold gD
      rw [e _ (qTo_lt _ _), e _ (qTo_lt _ _), canB_c _ _ _ _ (fun a b h1 h2 => fd_e (M := M) (m := a) (c := b) (by omega) h2), canB_c _ _ _ _ (fun a b h1 h2 => fd_e (M := M) (m := a) (c := b) (by omega) h2)]
    rw [ed, e _ (qTo_lt _ _)]
theorem gD_r (f : Nat → Nat → Nat) (T j c x : Nat) : -1 ≤ gD f T j c x ∧ gD f T j c x ≤ 1 := by
  unfold gD
  repeat' split
  all_goals omega
theorem fdM_e {M : sM} (hT : TInv M) (m c : Nat) : M 275 (12 * m + c) = (fdM M m c : Int) := by
  have h := tv hT (k := 275) (j := 12 * m + c) (lo := 0) (hi := 63) rfl
  unfold fdM
  omega
theorem fdM_lt {M : sM} (hT : TInv M) (m c : Nat) : fdM M m c < 64 := by
  have h := tv hT (k := 275) (j := 12 * m + c) (lo := 0) (hi := 63) rfl
  unfold fdM
  omega
