/-! the reference: souls and callers as rows of numbers (258 its words, 260 and on its rows) -/
def qn (M : sM) : Nat := (M 258 1).toNat
def qc (M : sM) : Nat := (M 258 2).toNat
theorem qn_r {M : sM} (hT : TInv M) : qn M ≤ 6 ∧ M 258 1 = (qn M : Int) := by
  have := tv hT (k := 258) (j := 1) (lo := 0) (hi := 6) rfl
  unfold qn
  omega
theorem qc_r {M : sM} (hT : TInv M) : qc M ≤ 6 ∧ M 258 2 = (qc M : Int) := by
  have := tv hT (k := 258) (j := 2) (lo := 0) (hi := 6) rfl
  unfold qc
  omega
def qWei (M : sM) (s : Nat) : Int := wei (M 261) (M 262) (M 265) s
def qFel (M : sM) (s i : Nat) : Int := fel (M 261) (M 262) (M 265) (M 266) s i
def qWan (M : sM) (i : Nat) : Int := wan (M 262) (M 258 1) i
def qDst (M : sM) (s i : Nat) : Int := dst (M 261) (M 262) (M 265) (M 266) (M 258 1) s i
/-- the last with p -/
def lst (p : Nat → Prop) [DecidablePred p] : Nat → Int
  | 0 => -1
  | n + 1 => if p n then (n : Int) else lst p n
theorem lst_r (p : Nat → Prop) [DecidablePred p] : ∀ n, -1 ≤ lst p n ∧ lst p n < n
  | 0 => ⟨Int.le_refl _, show (-1 : Int) < 0 by decide⟩
  | n + 1 => by
    have h := lst_r p n
    unfold lst
    split <;> omega
def qHeld (M : sM) (i : Nat) : Int := lst (fun s => M 264 s = i) (qn M)
def qNea (M : sM) (i : Nat) : Int := nea (fun s => M 263 s = -1) (fun s => qDst M s i) (qn M)
def qCho (M : sM) (i : Nat) : Int := if qHeld M i = -1 then qNea M i else -1
def qCnt (M : sM) (w : Int) : Int := cnt (fun s => M 263 s = w) (qn M)
def qAdC (M : sM) : Int := (qn M : Int) - qCnt M (-1) - qCnt M (-2)
def qRig (M : sM) : Int := cnt (fun i => (i : Int) < M 258 1 ∧ M 264 i = i) (qc M)
def qTel (M : sM) (s : Nat) (w : Int) : Int := if w = 0 then M 261 s else if w = 1 then M 262 s else if w = 2 then (if 0 ≤ M 263 s then M 263 s else -1) else if w = 3 then M 264 s else if w = 4 then M 265 s else qWei M s
def qGoe (M : sM) (i : Nat) : Int := if qHeld M i ≠ -1 ∧ (0 ≤ qHeld M i ∧ qHeld M i < M 258 2) ∧ qHeld M i ≠ i then qHeld M i else -1
theorem qWei_r {M : sM} (hT : TInv M) (s : Nat) : 0 ≤ qWei M s ∧ qWei M s ≤ 22 := wgh_r (tv hT (k := 262) (j := s) (lo := 0) (hi := 9) rfl) (tv hT (k := 265) (j := s) (lo := 0) (hi := 99) rfl).1
theorem qFel_r {M : sM} (hT : TInv M) (s i : Nat) : 0 ≤ qFel M s i ∧ qFel M s i ≤ 44 := hvy_r2 (qWei_r hT s)
theorem qWan_r {M : sM} (hT : TInv M) (i : Nat) : 0 ≤ qWan M i ∧ qWan M i ≤ 9 := by
  have := tv hT (k := 262) (j := i) (lo := 0) (hi := 9) rfl
  unfold qWan wan
  split <;> omega
theorem qDst_r {M : sM} (hT : TInv M) (s i : Nat) : 0 ≤ qDst M s i ∧ qDst M s i ≤ 44 := by
  have h1 := qFel_r hT s i
  have h2 := qWan_r hT i
  unfold qDst dst
  unfold qFel at h1
  unfold qWan at h2
  split <;> omega
theorem qCho_r (M : sM) (i : Nat) : -1 ≤ qCho M i ∧ qCho M i < qn M := by
  have h := nea_r (fun s => M 263 s = -1) (fun s => qDst M s i) (qn M)
  unfold qCho qNea
  split <;> omega
theorem lst_y {p : Nat → Prop} [DecidablePred p] {n : Nat} (h : p n) : lst p (n + 1) = n := if_pos h
theorem lst_n {p : Nat → Prop} [DecidablePred p] {n : Nat} (h : ¬ p n) : lst p (n + 1) = lst p n := if_neg h
theorem lst_e {p : Nat → Prop} [DecidablePred p] {k : Nat} (h0 : 0 < k) (h : p (k - 1)) : lst p k = (k : Int) - 1 := by
  obtain ⟨j, rfl⟩ : ∃ j, k = j + 1 := ⟨k - 1, by omega⟩
  rw [lst_y (p := p) (n := j) h]
  omega
theorem lst_p {p : Nat → Prop} [DecidablePred p] {k : Nat} (h0 : 0 < k) (h : ¬ p (k - 1)) : lst p k = lst p (k - 1) := by
  obtain ⟨j, rfl⟩ : ∃ j, k = j + 1 := ⟨k - 1, by omega⟩
  exact lst_n h
theorem qGoe_r {M : sM} (hT : TInv M) (i : Nat) : -1 ≤ qGoe M i ∧ qGoe M i < 6 := by
  have h2 := qc_r hT
  unfold qGoe
  split
  · rename_i z
    have z1 := z.2.1
    omega
  · omega
