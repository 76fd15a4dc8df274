/-! the rows of OrderSearch, found -/
def mLF (M : sM) (k : Nat) : sM := sSr (sSt M 253 4 (frC (bHeld M 1) k : Int)) 254 (frR (M 254) (bHeld M 1) k)
theorem mLF_ne {M : sM} {k c : Nat} (h : c < 253) : mLF M k c = M c := by
  unfold mLF
  rw [sSr_ne (by omega), sSt_ne (by omega)]
theorem mLF_4 (M : sM) (k : Nat) : mLF M k 253 4 = (frC (bHeld M 1) k : Int) := by
  unfold mLF
  rw [sSr_ne (by decide), sSt_eq]
theorem mLF_h (M : sM) (k i : Nat) : bHeld (mLF M k) 1 i = bHeld M 1 i := by
  unfold bHeld
  show fst (fun s => mLF M k 8 s = i) (mLF M k 1 9).toNat = fst (fun s => M 8 s = i) (M 1 9).toNat
  rw [mLF_ne (by decide), mLF_ne (by decide)]
theorem mLF_0 (M : sM) : sSt M 253 4 0 = mLF M 0 := by
  funext c j
  show _ = sSr (sSt M 253 4 ((0 : Nat) : Int)) 254 (M 254) c j
  rw [sSr_at]
  by_cases hc : c = 254
  · rw [if_pos hc, hc, sSt_ne (by decide)]
  · rw [if_neg hc]; rfl
theorem mLF_n {M : sM} {k : Nat} (h : bHeld M 1 k ≠ -1) : mLF M k = mLF M (k + 1) := by
  unfold mLF
  rw [show frC (bHeld M 1) (k + 1) = frC (bHeld M 1) k from if_neg h, show frR (M 254) (bHeld M 1) (k + 1) = frR (M 254) (bHeld M 1) k from if_neg h]
theorem mLF_y {M : sM} {k : Nat} (h : bHeld M 1 k = -1) : sSt (sSt (mLF M k) 254 (frC (bHeld M 1) k) k) 253 4 ((frC (bHeld M 1) k : Int) + 1) = mLF M (k + 1) := by
  have e1 : frC (bHeld M 1) (k + 1) = frC (bHeld M 1) k + 1 := if_pos h
  have e2 : frR (M 254) (bHeld M 1) (k + 1) = fun j => if j = frC (bHeld M 1) k then (k : Int) else frR (M 254) (bHeld M 1) k j := if_pos h
  funext c j
  unfold mLF
  rw [e1, e2, sSt_at, sSt_at, sSr_at, sSr_at, sSt_at, sSt_at]
  by_cases hc : c = 254
  · subst hc
    rw [if_neg (by omega)]
    by_cases hj : j = frC (bHeld M 1) k
    · rw [if_pos ⟨rfl, hj⟩]; exact ((if_pos rfl).trans (if_pos hj)).symm
    · rw [if_neg (fun z => hj z.2)]; exact (if_pos rfl).trans ((if_pos rfl).trans (if_neg hj)).symm
  · rw [if_neg hc, if_neg hc]
    by_cases hd : c = 253 ∧ j = 4
    · rw [if_pos hd, if_pos hd]; omega
    · rw [if_neg hd, if_neg (fun z => hc z.1), if_neg hd, if_neg hd]
theorem sSt_tw (M : sM) (k j : Nat) (a b : Int) : sSt (sSt M k j a) k j b = sSt M k j b := by
  funext c i
  rw [sSt_at, sSt_at, sSt_at]
  by_cases h : c = k ∧ i = j
  · rw [if_pos h, if_pos h]
  · rw [if_neg h, if_neg h, if_neg h]
/-- the shelf, a set; how many of the row find their own there -/
def shlB (M : sM) (k : Nat) : Nat := bits (fun s => shv M 1 s) k
def hpN (M : sM) (S : Nat) : Nat → Int := cnt (fun q => S.testBit (M 254 q).toNat = true)
def mMe (M : sM) (x h : Int) : sM := sSt (sSt M 253 3 x) 253 6 h
theorem mMe_ne {M : sM} {x h : Int} {c : Nat} (hc : c ≠ 253) : mMe M x h c = M c := by
  unfold mMe
  rw [sSt_ne hc, sSt_ne hc]
theorem mMe_3 (M : sM) (x h : Int) : mMe M x h 253 3 = x := by
  unfold mMe
  rw [sSt_nj (by decide), sSt_eq]
theorem mMe_6 (M : sM) (x h : Int) : mMe M x h 253 6 = h := sSt_eq
theorem mMe_4 (M : sM) (x h : Int) : mMe M x h 253 4 = M 253 4 := by
  unfold mMe
  rw [sSt_nj (by decide), sSt_nj (by decide)]
theorem mMe_s (M : sM) (x h h2 : Int) : sSt (mMe M x h) 253 6 h2 = mMe M x h2 := sSt_tw _ _ _ _ _
theorem bDst_cg {M N : sM} {o s i : Nat} (h : ∀ c, o ≤ c → c < o + 48 → M c = N c) : bDst M o s i = bDst N o s i := by
  unfold bDst
  rw [h (o + 2) (by omega) (by omega), h (o + 3) (by omega) (by omega), h (o + 8) (by omega) (by omega), h (o + 4) (by omega) (by omega), h o (by omega) (by omega)]
theorem if_congr2 {α : Type} {P R : Prop} [Decidable P] [Decidable R] {a b a2 b2 : α} (h : P ↔ R) (h1 : a = a2) (h2 : b = b2) : (if P then a else b) = if R then a2 else b2 := by
  rw [if_congr' h, h1, h2]
theorem nea_c {p q : Nat → Prop} [DecidablePred p] [DecidablePred q] {d e : Nat → Int} : ∀ {n : Nat}, (∀ s, s < n → (p s ↔ q s)) → (∀ s, s < n → p s → d s = e s) → nea p d n = nea q e n
  | 0, _, _ => rfl
  | n + 1, h1, h2 => by
    have ih := nea_c (n := n) (fun s hs => h1 s (by omega)) (fun s hs => h2 s (by omega))
    unfold nea
    refine if_congr2 ?_ rfl ih
    rw [← ih, ← h1 n (by omega)]
    by_cases hp : p n
    · by_cases hm : nea p d n = -1
      · simp only [hp, hm, true_and, true_or]
      · have hr := nea_r p d n
        rw [h2 n (by omega) hp, h2 _ (by omega) (nea_p hm)]
    · simp only [hp, false_and]
theorem neaS_cg {d e : Nat → Nat → Int} {i left n : Nat} (hl : left < 2 ^ n) (h : ∀ s, s < n → d s i = e s i) : neaS d i left = neaS e i left := by
  refine nea_c (fun s _ => Iff.rfl) (fun s _ hb => h s ?_)
  exact Classical.byContradiction fun w => by
    rw [Nat.testBit_lt_two_pow (Nat.lt_of_lt_of_le hl (Nat.pow_le_pow_right (by decide) (by omega)))] at hb; exact absurd hb (by decide)
theorem sDel_le (x y : Nat) (hx : x < 64) (hy : y < 64) {n : Nat} (h : x < 2 ^ n) : sDel x y < 2 ^ n := by
  by_cases hn : n < 6
  · apply Nat.lt_pow_two_of_testBit
    intro i hi
    by_cases hi6 : i < 6
    · rw [sDel_t x hx y hy i hi6, Nat.testBit_lt_two_pow (Nat.lt_of_lt_of_le h (Nat.pow_le_pow_right (by decide) hi))]; rfl
    · exact Nat.testBit_lt_two_pow (Nat.lt_of_lt_of_le (show sDel x y < 2 ^ 6 from sDel_lt hx) (Nat.pow_le_pow_right (by decide) (by omega)))
  · exact Nat.lt_of_lt_of_le (show sDel x y < 2 ^ 6 from sDel_lt hx) (Nat.pow_le_pow_right (by decide) (by omega))
/-- the measure looks at what is there alone -/
theorem obL_n {d : Nat → Nat → Int} {r : Nat → Int} {sh n : Nat} (h : sh < 64) (hs : sh < 2 ^ n) : ∀ k, obL d r sh k < 2 ^ n
  | 0 => hs
  | k + 1 => by
    have h1 := obL_n (d := d) (r := r) h hs k
    have h2 := obL_lt (d := d) (r := r) h k
    unfold obL
    by_cases e : obL d r sh k = 0
    · rw [if_pos e]; exact Nat.two_pow_pos n
    · rw [if_neg e]
      exact sDel_le _ _ h2 (pow_lt64 (by have := neaS_r (d := d) (i := (r k).toNat) h2 e; omega)) h1
theorem ob_cg {d e : Nat → Nat → Int} {r r2 : Nat → Int} {sh n m : Nat} (h : sh < 64) (hs : sh < 2 ^ n) (hd : ∀ s i, s < n → i < m → d s i = e s i) :
    ∀ k, (∀ j, j < k → r j = r2 j ∧ (r j).toNat < m) → obL d r sh k = obL e r2 sh k ∧ obO d r sh k = obO e r2 sh k
  | 0, _ => ⟨rfl, rfl⟩
  | k + 1, hr => by
    obtain ⟨h1, h2⟩ := ob_cg (r := r) (r2 := r2) h hs hd k (fun j hj => hr j (by omega))
    obtain ⟨q1, q2⟩ := hr k (by omega)
    have hn := obL_n (d := d) (r := r) h hs k
    have hh : neaS d (r k).toNat (obL d r sh k) = neaS e (r k).toNat (obL d r sh k) := neaS_cg hn (fun s hs => hd s _ hs q2)
    constructor
    · unfold obL
      rw [← h1, hh, q1]
    · unfold obO
      rw [← h1, hh, q1, h2]
/-- a row stays a row -/
def rIn (n m : Nat) (r : Nat → Int) : Prop := ∀ j, j < n → 0 ≤ r j ∧ (r j).toNat < m
theorem swp_in {n m : Nat} {r : Nat → Int} (h : rIn n m r) {a b : Nat} (ha : a < n) (hb : b < n) : rIn n m (swp r a b) := by
  intro j hj
  unfold swp
  repeat' split
  · exact h a ha
  · exact h b hb
  · exact h j hj
theorem rvs_in {n m : Nat} : ∀ {f : Nat} {r : Nat → Int} {a b : Nat}, rIn n m r → b < n → rIn n m (rvs f r a b)
  | 0, r, a, b, h, _ => h
  | f + 1, r, a, b, h, hb => by
    unfold rvs
    split
    · exact rvs_in (swp_in h (by omega) hb) (by omega)
    · exact h
theorem nxt_in {n m : Nat} {r : Nat → Int} (h : rIn n m r) : rIn n m (nxt r n) := by
  by_cases hn : n = 0
  · intro j hj; omega
  · have h1 := pvt_r r (n - 1)
    have h2 := jx_le r (r (pvt r (n - 1)).toNat) (pvt r (n - 1)).toNat (n - 1)
    exact rvs_in (swp_in h (by omega) (by omega)) (by omega)
theorem rowN_in {n m : Nat} {r : Nat → Int} (h : rIn n m r) : ∀ k, rIn n m (rowN r n k)
  | 0 => h
  | k + 1 => nxt_in (rowN_in h k)
theorem frR_in (r f : Nat → Int) (m : Nat) : rIn (frC f m) m (frR r f m) := by
  intro j hj
  obtain ⟨i, h1, h2, _⟩ := frR_at r f m j hj
  rw [h2]
  omega
theorem shlB_y {M : sM} {k : Nat} (h : shv M 1 k) : shlB M (k + 1) = shlB M k ||| 2 ^ k := bits_y h
theorem shlB_n {M : sM} {k : Nat} (h : ¬ shv M 1 k) : shlB M (k + 1) = shlB M k := bits_n h
