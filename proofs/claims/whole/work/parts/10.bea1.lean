/-! what souls weigh, how that feels, who is where: over rows of integers; the class and its reference share these -/
def wgh (kind w d : Int) : Int :=
  if kind = 1 then w + 2 else if kind = 2 then (w + 1) / 2 else if kind = 3 then (if 3 ≤ d then 2 * (w + 2) else w + 2)
  else if kind = 4 then (if 5 ≤ d then 0 else (w + 1) / 2) else if kind = 5 then (if 3 ≤ d then w else w + 3 - d) else w
def hvy (kind x : Int) : Int :=
  if kind = 1 then x - x % 2 else if kind = 2 then (if 5 < x then 5 else x) else if kind = 3 then x - x % 2 + 1
  else if kind = 4 then 2 * x else if kind = 5 then (if 5 < x then 4 else if 0 < x then x - 1 else 0) else x
theorem wgh_r {k w d : Int} (hw : 0 ≤ w ∧ w ≤ 9) (hd : 0 ≤ d) : 0 ≤ wgh k w d ∧ wgh k w d ≤ 22 := by
  unfold wgh
  repeat' split
  all_goals omega
theorem hvy_r {k x : Int} (hx : 0 ≤ x ∧ x ≤ 30) : 0 ≤ hvy k x ∧ hvy k x ≤ 60 := by
  unfold hvy
  repeat' split
  all_goals omega
theorem hvy_r2 {k x : Int} (hx : 0 ≤ x ∧ x ≤ 22) : 0 ≤ hvy k x ∧ hvy k x ≤ 44 := by
  unfold hvy
  repeat' split
  all_goals omega
def wei (kd wt dr : Nat → Int) (s : Nat) : Int := wgh (kd s) (wt s) (dr s)
def fel (kd wt dr ck : Nat → Int) (s i : Nat) : Int := hvy (ck i) (wei kd wt dr s)
def wan (wt : Nat → Int) (n : Int) (i : Nat) : Int := if (i : Int) < n then wt i else 5
def dst (kd wt dr ck : Nat → Int) (n : Int) (s i : Nat) : Int := if 0 ≤ fel kd wt dr ck s i - wan wt n i then fel kd wt dr ck s i - wan wt n i else -(fel kd wt dr ck s i - wan wt n i)
/-- how many below n -/
def cnt (p : Nat → Prop) [DecidablePred p] : Nat → Int
  | 0 => 0
  | n + 1 => cnt p n + (if p n then 1 else 0)
theorem cnt_r (p : Nat → Prop) [DecidablePred p] : ∀ n, 0 ≤ cnt p n ∧ cnt p n ≤ n
  | 0 => ⟨Int.le_refl 0, Int.le_refl 0⟩
  | n + 1 => by
    have h := cnt_r p n
    unfold cnt
    split <;> omega
/-- the first below n; -1: none -/
def fst (p : Nat → Prop) [DecidablePred p] : Nat → Int
  | 0 => -1
  | n + 1 => if fst p n = -1 then (if p n then (n : Int) else -1) else fst p n
theorem fst_r (p : Nat → Prop) [DecidablePred p] : ∀ n, -1 ≤ fst p n ∧ fst p n < n
  | 0 => ⟨Int.le_refl _, show (-1 : Int) < 0 by decide⟩
  | n + 1 => by
    have h := fst_r p n
    unfold fst
    repeat' split
    all_goals omega
theorem fst_no {p : Nat → Prop} [DecidablePred p] : ∀ {n : Nat}, (∀ k, k < n → ¬ p k) → fst p n = -1
  | 0, _ => rfl
  | n + 1, h => by
    unfold fst
    rw [fst_no (fun k hk => h k (Nat.lt_succ_of_lt hk)), if_pos rfl, if_neg (h n (Nat.lt_succ_self n))]
theorem fst_at {p : Nat → Prop} [DecidablePred p] {k : Nat} (hk : p k) (h : ∀ j, j < k → ¬ p j) : ∀ {n : Nat}, k < n → fst p n = k
  | 0, hn => absurd hn (Nat.not_lt_zero _)
  | n + 1, hn => by
    unfold fst
    by_cases e : k = n
    · subst e
      rw [fst_no h, if_pos rfl, if_pos hk]
    · have := fst_at hk h (n := n) (by omega)
      rw [this, if_neg (by omega)]
theorem fst_yes {p : Nat → Prop} [DecidablePred p] : ∀ {n : Nat}, fst p n ≠ -1 → ∃ k, k < n ∧ fst p n = (k : Int) ∧ p k ∧ ∀ j, j < k → ¬ p j
  | 0, h => absurd rfl h
  | n + 1, h => by
    unfold fst at h ⊢
    by_cases e : fst p n = -1
    · rw [if_pos e] at h ⊢
      by_cases hp : p n
      · rw [if_pos hp]
        refine ⟨n, Nat.lt_succ_self n, rfl, hp, fun j hj hpj => ?_⟩
        have : ∀ m, m ≤ n → (∃ q, q < m ∧ p q) → fst p m ≠ -1 := by
          intro m
          induction m with
          | zero => intro _ ⟨q, hq, _⟩; exact absurd hq (Nat.not_lt_zero _)
          | succ m ih =>
            intro hm ⟨q, hq, hpq⟩
            unfold fst
            by_cases e2 : fst p m = -1
            · rw [if_pos e2]
              by_cases hqm : q = m
              · rw [hqm] at hpq
                rw [if_pos hpq]; omega
              · exact absurd e2 (ih (by omega) ⟨q, by omega, hpq⟩)
            · rw [if_neg e2]; exact e2
        exact this n (Nat.le_refl n) ⟨j, hj, hpj⟩ e
      · rw [if_neg hp] at h; exact absurd rfl h
    · rw [if_neg e]
      obtain ⟨k, h1, h2, h3, h4⟩ := fst_yes e
      exact ⟨k, by omega, h2, h3, h4⟩
/-- of those that are there, the one that is nearest; of like ones the least; -1: none -/
def nea (p : Nat → Prop) [DecidablePred p] (d : Nat → Int) : Nat → Int
  | 0 => -1
  | n + 1 => if p n ∧ (nea p d n = -1 ∨ d n < d (nea p d n).toNat) then (n : Int) else nea p d n
theorem nea_r (p : Nat → Prop) [DecidablePred p] (d : Nat → Int) : ∀ n, -1 ≤ nea p d n ∧ nea p d n < n
  | 0 => ⟨Int.le_refl _, show (-1 : Int) < 0 by decide⟩
  | n + 1 => by
    have h := nea_r p d n
    unfold nea
    split <;> omega
theorem nea_p {p : Nat → Prop} [DecidablePred p] {d : Nat → Int} : ∀ {n : Nat}, nea p d n ≠ -1 → p (nea p d n).toNat
  | 0, h => absurd rfl h
  | n + 1, h => by
    unfold nea at h ⊢
    by_cases e : p n ∧ (nea p d n = -1 ∨ d n < d (nea p d n).toNat)
    · rw [if_pos e, show ((n : Int)).toNat = n by omega]; exact e.1
    · rw [if_neg e] at h ⊢
      exact nea_p h
/-- where what is in a cell is behind a tide, behind n of them -/
def dri (cu : Nat → Int) (c : Int) : Int := max 0 (min 11 (c + cu c.toNat))
def driN (cu : Nat → Int) : Nat → Int → Int
  | 0, c => c
  | n + 1, c => dri cu (driN cu n c)
theorem dri_r (cu : Nat → Int) (c : Int) : 0 ≤ dri cu c ∧ dri cu c ≤ 11 := by unfold dri; omega
theorem driN_r (cu : Nat → Int) {c : Int} (h : 0 ≤ c ∧ c ≤ 11) : ∀ n, 0 ≤ driN cu n c ∧ driN cu n c ≤ 11
  | 0 => h
  | n + 1 => dri_r cu _
/-! of a Beach at o -/
abbrev nS (M : sM) (o : Nat) : Nat := (M o 9).toNat
abbrev nC (M : sM) (o : Nat) : Nat := (M o 10).toNat
abbrev nU (M : sM) (o : Nat) : Nat := (M o 11).toNat
abbrev adr (M : sM) (o s : Nat) : Prop := M (o + 6) s ≠ -1
abbrev shv (M : sM) (o s : Nat) : Prop := M (o + 6) s = -1 ∧ M (o + 7) s = -1
def bWei (M : sM) (o s : Nat) : Int := wei (M (o + 2)) (M (o + 3)) (M (o + 8)) s
def bFel (M : sM) (o s i : Nat) : Int := fel (M (o + 2)) (M (o + 3)) (M (o + 8)) (M (o + 4)) s i
def bWan (M : sM) (o i : Nat) : Int := wan (M (o + 3)) (M o 9) i
def bDst (M : sM) (o s i : Nat) : Int := dst (M (o + 2)) (M (o + 3)) (M (o + 8)) (M (o + 4)) (M o 9) s i
def bHeld (M : sM) (o i : Nat) : Int := fst (fun s => M (o + 7) s = i) (nS M o)
def bNea (M : sM) (o i : Nat) : Int := nea (fun s => shv M o s) (fun s => bDst M o s i) (nS M o)
def bCho (M : sM) (o i : Nat) : Int := if bHeld M o i = -1 then bNea M o i else -1
def bRig (M : sM) (o : Nat) : Int := cnt (fun s => M (o + 7) s = s) (nS M o)
def bAdC (M : sM) (o : Nat) : Int := cnt (fun s => adr M o s) (nS M o)
def bShC (M : sM) (o : Nat) : Int := cnt (fun s => shv M o s) (nS M o)
def bAhe (M : sM) (o s m : Nat) : Int := if adr M o s then driN (M (o + 1)) m (M (o + 6) s) else -1
def bFact (M : sM) (o s : Nat) (w : Int) : Int := if w = 0 then M (o + 2) s else if w = 1 then M (o + 3) s else if w = 2 then M (o + 6) s else if w = 3 then M (o + 7) s else if w = 4 then M (o + 8) s else bWei M o s
theorem bWei_r {M : sM} {o : Nat} (hT : TInv M) (ho : isB o) (s : Nat) : 0 ≤ bWei M o s ∧ bWei M o s ≤ 22 := wgh_r (tv_wt hT ho s) (tv_dry hT ho s).1
theorem bFel_r {M : sM} {o : Nat} (hT : TInv M) (ho : isB o) (s i : Nat) : 0 ≤ bFel M o s i ∧ bFel M o s i ≤ 44 := hvy_r2 (bWei_r hT ho s)
theorem bWan_r {M : sM} {o : Nat} (hT : TInv M) (ho : isB o) (i : Nat) : 0 ≤ bWan M o i ∧ bWan M o i ≤ 9 := by
  have := tv_wt hT ho i
  unfold bWan wan
  split <;> omega
theorem bDst_r {M : sM} {o : Nat} (hT : TInv M) (ho : isB o) (s i : Nat) : 0 ≤ bDst M o s i ∧ bDst M o s i ≤ 44 := by
  have h1 := bFel_r hT ho s i
  have h2 := bWan_r hT ho i
  unfold bFel at h1
  unfold bWan at h2
  unfold bDst dst
  split <;> omega
theorem nS_r {M : sM} {o : Nat} (hT : TInv M) (ho : isB o) : nS M o ≤ 6 ∧ M o 9 = (nS M o : Int) := by
  have := tv_souls hT ho
  unfold nS
  omega
theorem nC_r {M : sM} {o : Nat} (hT : TInv M) (ho : isB o) : nC M o ≤ 6 ∧ M o 10 = (nC M o : Int) := by
  have := tv_callers hT ho
  unfold nC
  omega

set_option maxHeartbeats 4000000 in
set_option maxRecDepth 100000 in
theorem c_X6_within (l : Launch) (D : va_G) (G : sG) {M : sM} {L : sL} (a b c : Int) (ha : InR a) (hb : InR b) (hc : InR c) : sKi l D G yX6_within cX6_within 3 .boolean 0 0 [.int (sI (a)), .int (sI (b)), .int (sI (c))] M L (fun r M' L' => r = sB (b ≤ a ∧ a ≤ c) ∧ (M = M' ∧ L = L')) := by
  refine sKz_go (by decide) (Nat.le_of_ble_eq_true rfl) ?_
  intro zp ze zs zm za zb zt zc Q C hret
  refine at_eq (lv' := [(0, .int (sI (a))), (1, .int (sI (b))), (2, .int (sI (c)))]) (st' := []) (M' := M) (L' := L) ?_ rfl rfl rfl rfl
  refine at_iload_n C 0 dX6_within_0 rfl ?_
  refine at_iload_n C 1 dX6_within_1 rfl ?_
  refine at_icmp_lt C 14 dX6_within_2 (by decide) (⟨by omega, by omega⟩) (⟨by omega, by omega⟩) (fun h1 => ?_) (fun h1 => ?_)
  · refine at_iconst C dX6_within_14 ?_
    exact hret _ _ _ _ _ dX6_within_15 (sB_f (by omega)) ⟨rfl, rfl⟩
  · refine at_iload_n C 0 dX6_within_5 rfl ?_
    refine at_iload_n C 2 dX6_within_6 rfl ?_
    refine at_icmp_gt C 14 dX6_within_7 (by decide) (⟨by omega, by omega⟩) (⟨by omega, by omega⟩) (fun h2 => ?_) (fun h2 => ?_)
    · refine at_iconst C dX6_within_14 ?_
      exact hret _ _ _ _ _ dX6_within_15 (sB_f (by omega)) ⟨rfl, rfl⟩
    · refine at_iconst C dX6_within_10 ?_
      refine at_goto C 15 dX6_within_11 (by decide) ?_
      exact hret _ _ _ _ _ dX6_within_15 (sB_t (by omega)) ⟨rfl, rfl⟩

set_option maxHeartbeats 4000000 in
set_option maxRecDepth 100000 in
theorem c_X6_weighed (l : Launch) (D : va_G) (G : sG) {M : sM} {L : sL} (k w d : Int) (hk : 0 ≤ k ∧ k ≤ 5) (hw : 0 ≤ w ∧ w ≤ 9) (hd : 0 ≤ d ∧ d ≤ 99) : sKi l D G yX6_weighed cX6_weighed 5 .int 0 0 [.int (sI (k)), .int (sI (w)), .int (sI (d))] M L (fun r M' L' => r = sI (wgh k w d) ∧ M = M' ∧ L = L') := by
  refine sKi_go (by decide) (Nat.le_of_ble_eq_true rfl) ?_
  intro zp ze zs zm za zb zt zc Q C hret
  refine at_eq (lv' := [(0, .int (sI (k))), (1, .int (sI (w))), (2, .int (sI (d)))]) (st' := []) (M' := M) (L' := L) ?_ rfl rfl rfl rfl
  refine at_iload_n C 1 dX6_weighed_0 rfl ?_
  refine at_iconst C dX6_weighed_1 ?_
  refine at_iadd C dX6_weighed_2 ?_
  refine at_istore_n C [(3, .int (sI (w + 2))), (0, .int (sI (k))), (1, .int (sI (w))), (2, .int (sI (d)))] dX6_weighed_3 (by decide) rfl ?_
  refine at_iload_n C 2 dX6_weighed_4 rfl ?_
  refine at_iconst C dX6_weighed_5 ?_
  refine at_iadd C dX6_weighed_6 ?_
  refine at_iconst C dX6_weighed_7 ?_
  refine at_idiv C dX6_weighed_8 (by omega) (by omega) (by omega) (by omega) ?_
  refine at_istore C [(4, .int (sI ((w + 1) / 2))), (3, .int (sI (w + 2))), (0, .int (sI (k))), (1, .int (sI (w))), (2, .int (sI (d)))] dX6_weighed_9 (by decide) rfl ?_
  refine at_iload_n C 2 dX6_weighed_11 rfl ?_
  by_cases hs1 : k = 1
  · refine at_tsw C dX6_weighed_12 (⟨by omega, by omega⟩) 48 (Or.inr ⟨by omega, by omega, 36, by rw [hs1]; rfl, by decide⟩) ?_
    refine at_iload_n C 1 dX6_weighed_48 rfl ?_
    exact hret _ _ _ _ _ dX6_weighed_49 (⟨congrArg sI (by unfold wgh; repeat' split; all_goals omega), rfl, rfl⟩)
  by_cases hs2 : k = 2
  · refine at_tsw C dX6_weighed_12 (⟨by omega, by omega⟩) 50 (Or.inr ⟨by omega, by omega, 38, by rw [hs2]; rfl, by decide⟩) ?_
    refine at_iload C 0 dX6_weighed_50 rfl ?_
    exact hret _ _ _ _ _ dX6_weighed_52 (⟨congrArg sI (by unfold wgh; repeat' split; all_goals omega), rfl, rfl⟩)
  by_cases hs3 : k = 3
  · refine at_tsw C dX6_weighed_12 (⟨by omega, by omega⟩) 53 (Or.inr ⟨by omega, by omega, 41, by rw [hs3]; rfl, by decide⟩) ?_
    refine at_iload_n C 4 dX6_weighed_53 rfl ?_
    refine at_iconst C dX6_weighed_54 ?_
    refine at_icmp_lt C 64 dX6_weighed_55 (by decide) (⟨by omega, by omega⟩) (⟨by omega, by omega⟩) (fun h4 => ?_) (fun h4 => ?_)
    · refine at_iload_n C 1 dX6_weighed_64 rfl ?_
      exact hret _ _ _ _ _ dX6_weighed_65 (⟨congrArg sI (by unfold wgh; repeat' split; all_goals omega), rfl, rfl⟩)
    · refine at_iconst C dX6_weighed_58 ?_
      refine at_iload_n C 1 dX6_weighed_59 rfl ?_
      refine at_imul C dX6_weighed_60 ?_
      refine at_goto C 65 dX6_weighed_61 (by decide) ?_
      exact hret _ _ _ _ _ dX6_weighed_65 (⟨congrArg sI (by unfold wgh; repeat' split; all_goals omega), rfl, rfl⟩)
  by_cases hs5 : k = 4
  · refine at_tsw C dX6_weighed_12 (⟨by omega, by omega⟩) 66 (Or.inr ⟨by omega, by omega, 54, by rw [hs5]; rfl, by decide⟩) ?_
    refine at_iload_n C 4 dX6_weighed_66 rfl ?_
    refine at_iconst C dX6_weighed_67 ?_
    refine at_icmp_lt C 75 dX6_weighed_68 (by decide) (⟨by omega, by omega⟩) (⟨by omega, by omega⟩) (fun h6 => ?_) (fun h6 => ?_)
    · refine at_iload C 0 dX6_weighed_75 rfl ?_
      exact hret _ _ _ _ _ dX6_weighed_77 (⟨congrArg sI (by unfold wgh; repeat' split; all_goals omega), rfl, rfl⟩)
    · refine at_iconst C dX6_weighed_71 ?_
      refine at_goto C 77 dX6_weighed_72 (by decide) ?_
      exact hret _ _ _ _ _ dX6_weighed_77 (⟨congrArg sI (by unfold wgh; repeat' split; all_goals omega), rfl, rfl⟩)
  by_cases hs7 : k = 5
  · refine at_tsw C dX6_weighed_12 (⟨by omega, by omega⟩) 78 (Or.inr ⟨by omega, by omega, 66, by rw [hs7]; rfl, by decide⟩) ?_
    refine at_iload_n C 4 dX6_weighed_78 rfl ?_
    refine at_iconst C dX6_weighed_79 ?_
    refine at_icmp_lt C 87 dX6_weighed_80 (by decide) (⟨by omega, by omega⟩) (⟨by omega, by omega⟩) (fun h8 => ?_) (fun h8 => ?_)
    · refine at_iload_n C 3 dX6_weighed_87 rfl ?_
      refine at_iconst C dX6_weighed_88 ?_
      refine at_iadd C dX6_weighed_89 ?_
      refine at_iload_n C 4 dX6_weighed_90 rfl ?_
      refine at_isub C dX6_weighed_91 ?_
      exact hret _ _ _ _ _ dX6_weighed_92 (⟨congrArg sI (by unfold wgh; repeat' split; all_goals omega), rfl, rfl⟩)
    · refine at_iload_n C 3 dX6_weighed_83 rfl ?_
      refine at_goto C 92 dX6_weighed_84 (by decide) ?_
      exact hret _ _ _ _ _ dX6_weighed_92 (⟨congrArg sI (by unfold wgh; repeat' split; all_goals omega), rfl, rfl⟩)
  refine at_tsw C dX6_weighed_12 (⟨by omega, by omega⟩) 93 (Or.inl ⟨by omega, by decide⟩) ?_
  refine at_iload_n C 3 dX6_weighed_93 rfl ?_
  exact hret _ _ _ _ _ dX6_weighed_94 (⟨congrArg sI (by unfold wgh; repeat' split; all_goals omega), rfl, rfl⟩)

set_option maxHeartbeats 4000000 in
set_option maxRecDepth 100000 in
theorem c_X6_heaviness (l : Launch) (D : va_G) (G : sG) {M : sM} {L : sL} (k x : Int) (hk : 0 ≤ k ∧ k ≤ 5) (hx : 0 ≤ x ∧ x ≤ 30) : sKi l D G yX6_heaviness cX6_heaviness 4 .int 0 0 [.int (sI (k)), .int (sI (x))] M L (fun r M' L' => r = sI (hvy k x) ∧ M = M' ∧ L = L') := by
  refine sKi_go (by decide) (Nat.le_of_ble_eq_true rfl) ?_
  intro zp ze zs zm za zb zt zc Q C hret
  refine at_eq (lv' := [(0, .int (sI (k))), (1, .int (sI (x)))]) (st' := []) (M' := M) (L' := L) ?_ rfl rfl rfl rfl
  refine at_iload_n C 1 dX6_heaviness_0 rfl ?_
  refine at_iload_n C 1 dX6_heaviness_1 rfl ?_
  refine at_iconst C dX6_heaviness_2 ?_
  refine at_irem C dX6_heaviness_3 (by omega) (by omega) (by omega) (by omega) ?_
  refine at_isub C dX6_heaviness_4 ?_
  refine at_istore_n C [(2, .int (sI (x - (x % 2)))), (0, .int (sI (k))), (1, .int (sI (x)))] dX6_heaviness_5 (by decide) rfl ?_
  refine at_iload_n C 2 dX6_heaviness_6 rfl ?_
  refine at_iconst C dX6_heaviness_7 ?_
  refine at_icmp_le C 15 dX6_heaviness_8 (by decide) (⟨by omega, by omega⟩) (⟨by omega, by omega⟩) (fun h1 => ?_) (fun h1 => ?_)
  · refine at_iload_n C 2 dX6_heaviness_15 rfl ?_
    refine at_istore_n C [(3, .int (sI (x))), (2, .int (sI (x - (x % 2)))), (0, .int (sI (k))), (1, .int (sI (x)))] dX6_heaviness_16 (by decide) rfl ?_
    refine at_iload_n C 2 dX6_heaviness_17 rfl ?_
    by_cases hs2 : k = 1
    · refine at_tsw C dX6_heaviness_18 (⟨by omega, by omega⟩) 52 (Or.inr ⟨by omega, by omega, 34, by rw [hs2]; rfl, by decide⟩) ?_
      refine at_iload_n C 1 dX6_heaviness_52 rfl ?_
      exact hret _ _ _ _ _ dX6_heaviness_53 (⟨congrArg sI (by unfold hvy; repeat' split; all_goals omega), rfl, rfl⟩)
    by_cases hs3 : k = 2
    · refine at_tsw C dX6_heaviness_18 (⟨by omega, by omega⟩) 54 (Or.inr ⟨by omega, by omega, 36, by rw [hs3]; rfl, by decide⟩) ?_
      refine at_iload_n C 0 dX6_heaviness_54 rfl ?_
      exact hret _ _ _ _ _ dX6_heaviness_55 (⟨congrArg sI (by unfold hvy; repeat' split; all_goals omega), rfl, rfl⟩)
    by_cases hs4 : k = 3
    · refine at_tsw C dX6_heaviness_18 (⟨by omega, by omega⟩) 56 (Or.inr ⟨by omega, by omega, 38, by rw [hs4]; rfl, by decide⟩) ?_
      refine at_iload_n C 1 dX6_heaviness_56 rfl ?_
      refine at_iconst C dX6_heaviness_57 ?_
      refine at_iadd C dX6_heaviness_58 ?_
      exact hret _ _ _ _ _ dX6_heaviness_59 (⟨congrArg sI (by unfold hvy; repeat' split; all_goals omega), rfl, rfl⟩)
    by_cases hs5 : k = 4
    · refine at_tsw C dX6_heaviness_18 (⟨by omega, by omega⟩) 60 (Or.inr ⟨by omega, by omega, 42, by rw [hs5]; rfl, by decide⟩) ?_
      refine at_iconst C dX6_heaviness_60 ?_
      refine at_iload_n C 3 dX6_heaviness_61 rfl ?_
      refine at_imul C dX6_heaviness_62 ?_
      exact hret _ _ _ _ _ dX6_heaviness_63 (⟨congrArg sI (by unfold hvy; repeat' split; all_goals omega), rfl, rfl⟩)
    by_cases hs6 : k = 5
    · refine at_tsw C dX6_heaviness_18 (⟨by omega, by omega⟩) 64 (Or.inr ⟨by omega, by omega, 46, by rw [hs6]; rfl, by decide⟩) ?_
      refine at_iload_n C 0 dX6_heaviness_64 rfl ?_
      refine at_if_le C 74 dX6_heaviness_65 (by decide) (⟨by omega, by omega⟩) (fun h7 => ?_) (fun h7 => ?_)
      · refine at_iconst C dX6_heaviness_74 ?_
        exact hret _ _ _ _ _ dX6_heaviness_75 (⟨congrArg sI (by unfold hvy; repeat' split; all_goals omega), rfl, rfl⟩)
      · refine at_iload_n C 0 dX6_heaviness_68 rfl ?_
        refine at_iconst C dX6_heaviness_69 ?_
        refine at_isub C dX6_heaviness_70 ?_
        refine at_goto C 75 dX6_heaviness_71 (by decide) ?_
        exact hret _ _ _ _ _ dX6_heaviness_75 (⟨congrArg sI (by unfold hvy; repeat' split; all_goals omega), rfl, rfl⟩)
    refine at_tsw C dX6_heaviness_18 (⟨by omega, by omega⟩) 76 (Or.inl ⟨by omega, by decide⟩) ?_
    refine at_iload_n C 3 dX6_heaviness_76 rfl ?_
    exact hret _ _ _ _ _ dX6_heaviness_77 (⟨congrArg sI (by unfold hvy; repeat' split; all_goals omega), rfl, rfl⟩)
  · refine at_iconst C dX6_heaviness_11 ?_
    refine at_goto C 16 dX6_heaviness_12 (by decide) ?_
    refine at_istore_n C [(3, .int (sI (5))), (2, .int (sI (x - (x % 2)))), (0, .int (sI (k))), (1, .int (sI (x)))] dX6_heaviness_16 (by decide) rfl ?_
    refine at_iload_n C 2 dX6_heaviness_17 rfl ?_
    by_cases hs8 : k = 1
    · refine at_tsw C dX6_heaviness_18 (⟨by omega, by omega⟩) 52 (Or.inr ⟨by omega, by omega, 34, by rw [hs8]; rfl, by decide⟩) ?_
      refine at_iload_n C 1 dX6_heaviness_52 rfl ?_
      exact hret _ _ _ _ _ dX6_heaviness_53 (⟨congrArg sI (by unfold hvy; repeat' split; all_goals omega), rfl, rfl⟩)
    by_cases hs9 : k = 2
    · refine at_tsw C dX6_heaviness_18 (⟨by omega, by omega⟩) 54 (Or.inr ⟨by omega, by omega, 36, by rw [hs9]; rfl, by decide⟩) ?_
      refine at_iload_n C 0 dX6_heaviness_54 rfl ?_
      exact hret _ _ _ _ _ dX6_heaviness_55 (⟨congrArg sI (by unfold hvy; repeat' split; all_goals omega), rfl, rfl⟩)
    by_cases hs10 : k = 3
    · refine at_tsw C dX6_heaviness_18 (⟨by omega, by omega⟩) 56 (Or.inr ⟨by omega, by omega, 38, by rw [hs10]; rfl, by decide⟩) ?_
      refine at_iload_n C 1 dX6_heaviness_56 rfl ?_
      refine at_iconst C dX6_heaviness_57 ?_
      refine at_iadd C dX6_heaviness_58 ?_
      exact hret _ _ _ _ _ dX6_heaviness_59 (⟨congrArg sI (by unfold hvy; repeat' split; all_goals omega), rfl, rfl⟩)
    by_cases hs11 : k = 4
    · refine at_tsw C dX6_heaviness_18 (⟨by omega, by omega⟩) 60 (Or.inr ⟨by omega, by omega, 42, by rw [hs11]; rfl, by decide⟩) ?_
      refine at_iconst C dX6_heaviness_60 ?_
      refine at_iload_n C 3 dX6_heaviness_61 rfl ?_
      refine at_imul C dX6_heaviness_62 ?_
      exact hret _ _ _ _ _ dX6_heaviness_63 (⟨congrArg sI (by unfold hvy; repeat' split; all_goals omega), rfl, rfl⟩)
    by_cases hs12 : k = 5
    · refine at_tsw C dX6_heaviness_18 (⟨by omega, by omega⟩) 64 (Or.inr ⟨by omega, by omega, 46, by rw [hs12]; rfl, by decide⟩) ?_
      refine at_iload_n C 0 dX6_heaviness_64 rfl ?_
      refine at_if_le C 74 dX6_heaviness_65 (by decide) (⟨by omega, by omega⟩) (fun h13 => absurd h13 (by omega)) (fun h13 => ?_)
      refine at_iload_n C 0 dX6_heaviness_68 rfl ?_
      refine at_iconst C dX6_heaviness_69 ?_
      refine at_isub C dX6_heaviness_70 ?_
      refine at_goto C 75 dX6_heaviness_71 (by decide) ?_
      exact hret _ _ _ _ _ dX6_heaviness_75 (⟨congrArg sI (by unfold hvy; repeat' split; all_goals omega), rfl, rfl⟩)
    refine at_tsw C dX6_heaviness_18 (⟨by omega, by omega⟩) 76 (Or.inl ⟨by omega, by decide⟩) ?_
    refine at_iload_n C 3 dX6_heaviness_76 rfl ?_
    exact hret _ _ _ _ _ dX6_heaviness_77 (⟨congrArg sI (by unfold hvy; repeat' split; all_goals omega), rfl, rfl⟩)

set_option maxHeartbeats 4000000 in
set_option maxRecDepth 100000 in
theorem c_X0_hasSoul (l : Launch) (D : va_G) (G : sG) {M : sM} {L : sL} {o : Nat} (ho : isB o) (hT : TInv M) (a : Int) (ha : InR a) : sKi l D G yX0_hasSoul cX0_hasSoul 2 .boolean 1 22 [.ref (G.1 (o)), .int (sI (a))] M L (fun r M' L' => r = sB (0 ≤ a ∧ a < M o 9) ∧ (M = M' ∧ L = L')) := by
  refine sKz_go (by decide) (Nat.le_of_ble_eq_true rfl) ?_
  intro zp ze zs zm za zb zt zc Q C hret
  refine at_eq (lv' := [(0, .ref (G.1 (o))), (1, .int (sI (a)))]) (st' := []) (M' := M) (L' := L) ?_ rfl rfl rfl rfl
  refine at_iload_n C 1 dX0_hasSoul_0 rfl ?_
  refine at_iconst C dX0_hasSoul_1 ?_
  refine at_aload_n C 0 dX0_hasSoul_2 rfl ?_
  refine at_getf (v := .int (sI (M o 9))) C (obj_Bea G ho) (ci := 0) rfl inX0 (slot := 9) (by decide) qw_106 rfl rfl dX0_hasSoul_3 ?_
  have hb1 := tv_souls hT ho
  refine at_iconst C dX0_hasSoul_6 ?_
  refine at_isub C dX0_hasSoul_7 ?_
  refine at_nest_i C (c_X6_within l D G a 0 ((M o 9) - 1) ⟨by omega, by omega⟩ ⟨by omega, by omega⟩ ⟨by omega, by omega⟩) (As := [.int (sI (a)), .int (sI (0)), .int (sI ((M o 9) - 1))]) qw_307 (host := RX6) (List.mem_of_getElem? (i := 7) rfl) qw_1 qw_306 ⟨by decide, by decide, show (parseMethodDescriptor yX6_within.desc).map (fun d => d.parameters.length) = some 3 by decide +kernel⟩ ⟨by decide, by decide⟩ ⟨Nat.zero_le _, Nat.zero_le _⟩ (Nat.le_of_ble_eq_true rfl) dX0_hasSoul_8 rfl (fun r M' L' hp2 => ?_)
  obtain ⟨rfl, rfl, rfl⟩ := hp2
  exact hret _ _ _ _ _ dX0_hasSoul_11 (sB_c (by omega)) ⟨rfl, rfl⟩

set_option maxHeartbeats 4000000 in
set_option maxRecDepth 100000 in
theorem c_X0_hasCaller (l : Launch) (D : va_G) (G : sG) {M : sM} {L : sL} {o : Nat} (ho : isB o) (hT : TInv M) (a : Int) (ha : InR a) : sKi l D G yX0_hasCaller cX0_hasCaller 2 .boolean 1 22 [.ref (G.1 (o)), .int (sI (a))] M L (fun r M' L' => r = sB (0 ≤ a ∧ a < M o 10) ∧ (M = M' ∧ L = L')) := by
  refine sKz_go (by decide) (Nat.le_of_ble_eq_true rfl) ?_
  intro zp ze zs zm za zb zt zc Q C hret
  refine at_eq (lv' := [(0, .ref (G.1 (o))), (1, .int (sI (a)))]) (st' := []) (M' := M) (L' := L) ?_ rfl rfl rfl rfl
  refine at_iload_n C 1 dX0_hasCaller_0 rfl ?_
  refine at_iconst C dX0_hasCaller_1 ?_
  refine at_aload_n C 0 dX0_hasCaller_2 rfl ?_
  refine at_getf (v := .int (sI (M o 10))) C (obj_Bea G ho) (ci := 0) rfl inX0 (slot := 10) (by decide) qw_109 rfl rfl dX0_hasCaller_3 ?_
  have hb1 := tv_callers hT ho
  refine at_iconst C dX0_hasCaller_6 ?_
  refine at_isub C dX0_hasCaller_7 ?_
  refine at_nest_i C (c_X6_within l D G a 0 ((M o 10) - 1) ⟨by omega, by omega⟩ ⟨by omega, by omega⟩ ⟨by omega, by omega⟩) (As := [.int (sI (a)), .int (sI (0)), .int (sI ((M o 10) - 1))]) qw_307 (host := RX6) (List.mem_of_getElem? (i := 7) rfl) qw_1 qw_306 ⟨by decide, by decide, show (parseMethodDescriptor yX6_within.desc).map (fun d => d.parameters.length) = some 3 by decide +kernel⟩ ⟨by decide, by decide⟩ ⟨Nat.zero_le _, Nat.zero_le _⟩ (Nat.le_of_ble_eq_true rfl) dX0_hasCaller_8 rfl (fun r M' L' hp2 => ?_)
  obtain ⟨rfl, rfl, rfl⟩ := hp2
  exact hret _ _ _ _ _ dX0_hasCaller_11 (sB_c (by omega)) ⟨rfl, rfl⟩

set_option maxHeartbeats 4000000 in
set_option maxRecDepth 100000 in
theorem c_X0_adrift (l : Launch) (D : va_G) (G : sG) {M : sM} {L : sL} {o : Nat} (ho : isB o) (hT : TInv M) (s : Nat) (hs : s < 6) : sKi l D G yX0_adrift cX0_adrift 2 .boolean 0 0 [.ref (G.1 (o)), .int (sI ((s : Int)))] M L (fun r M' L' => r = sB (adr M o s) ∧ (M = M' ∧ L = L')) := by
  refine sKz_go (by decide) (Nat.le_of_ble_eq_true rfl) ?_
  intro zp ze zs zm za zb zt zc Q C hret
  refine at_eq (lv' := [(0, .ref (G.1 (o))), (1, .int (sI ((s : Int))))]) (st' := []) (M' := M) (L' := L) ?_ rfl rfl rfl rfl
  refine at_aload_n C 0 dX0_adrift_0 rfl ?_
  refine at_getf (v := .ref (G.1 ((o + 5)))) C (obj_Bea G ho) (ci := 0) rfl inX0 (slot := 4) (by decide) qw_93 rfl rfl dX0_adrift_1 ?_
  refine at_getf (v := .ref (G.1 ((o + 6)))) C ((isMo_now G ho).1) (ci := 1) rfl inX1 (slot := 0) (by decide) qw_37 rfl rfl dX0_adrift_4 ?_
  refine at_iload_n C 1 dX0_adrift_7 rfl ?_
  refine at_iald C s (arI_cell G ho) (rfl) (by omega) dX0_adrift_8 ?_
  have hb1 := tv_cell hT ho s
  refine at_iconst C dX0_adrift_9 ?_
  refine at_icmp_eq C 17 dX0_adrift_10 (by decide) (⟨by omega, by omega⟩) (⟨by omega, by omega⟩) (fun h2 => ?_) (fun h2 => ?_)
  · refine at_iconst C dX0_adrift_17 ?_
    exact hret _ _ _ _ _ dX0_adrift_18 (sB_f (by omega)) ⟨rfl, rfl⟩
  · refine at_iconst C dX0_adrift_13 ?_
    refine at_goto C 18 dX0_adrift_14 (by decide) ?_
    exact hret _ _ _ _ _ dX0_adrift_18 (sB_t (by omega)) ⟨rfl, rfl⟩

set_option maxHeartbeats 4000000 in
set_option maxRecDepth 100000 in
theorem c_X0_shelved (l : Launch) (D : va_G) (G : sG) {M : sM} {L : sL} {o : Nat} (ho : isB o) (hT : TInv M) (s : Nat) (hs : s < 6) : sKi l D G yX0_shelved cX0_shelved 2 .boolean 0 0 [.ref (G.1 (o)), .int (sI ((s : Int)))] M L (fun r M' L' => r = sB (shv M o s) ∧ (M = M' ∧ L = L')) := by
  refine sKz_go (by decide) (Nat.le_of_ble_eq_true rfl) ?_
  intro zp ze zs zm za zb zt zc Q C hret
  refine at_eq (lv' := [(0, .ref (G.1 (o))), (1, .int (sI ((s : Int))))]) (st' := []) (M' := M) (L' := L) ?_ rfl rfl rfl rfl
  refine at_aload_n C 0 dX0_shelved_0 rfl ?_
  refine at_getf (v := .ref (G.1 ((o + 5)))) C (obj_Bea G ho) (ci := 0) rfl inX0 (slot := 4) (by decide) qw_93 rfl rfl dX0_shelved_1 ?_
  refine at_getf (v := .ref (G.1 ((o + 6)))) C ((isMo_now G ho).1) (ci := 1) rfl inX1 (slot := 0) (by decide) qw_37 rfl rfl dX0_shelved_4 ?_
  refine at_iload_n C 1 dX0_shelved_7 rfl ?_
  refine at_iald C s (arI_cell G ho) (rfl) (by omega) dX0_shelved_8 ?_
  have hb1 := tv_cell hT ho s
  refine at_iconst C dX0_shelved_9 ?_
  refine at_icmp_ne C 30 dX0_shelved_10 (by decide) (⟨by omega, by omega⟩) (⟨by omega, by omega⟩) (fun h2 => ?_) (fun h2 => ?_)
  · refine at_iconst C dX0_shelved_30 ?_
    exact hret _ _ _ _ _ dX0_shelved_31 (sB_f (by unfold shv; omega)) ⟨rfl, rfl⟩
  · refine at_aload_n C 0 dX0_shelved_13 rfl ?_
    refine at_getf (v := .ref (G.1 ((o + 5)))) C (obj_Bea G ho) (ci := 0) rfl inX0 (slot := 4) (by decide) qw_93 rfl rfl dX0_shelved_14 ?_
    refine at_getf (v := .ref (G.1 ((o + 7)))) C ((isMo_now G ho).1) (ci := 1) rfl inX1 (slot := 1) (by decide) qw_40 rfl rfl dX0_shelved_17 ?_
    refine at_iload_n C 1 dX0_shelved_20 rfl ?_
    refine at_iald C s (arI_hold G ho) (rfl) (by omega) dX0_shelved_21 ?_
    have hb3 := tv_hold hT ho s
    refine at_iconst C dX0_shelved_22 ?_
    refine at_icmp_ne C 30 dX0_shelved_23 (by decide) (⟨by omega, by omega⟩) (⟨by omega, by omega⟩) (fun h4 => ?_) (fun h4 => ?_)
    · refine at_iconst C dX0_shelved_30 ?_
      exact hret _ _ _ _ _ dX0_shelved_31 (sB_f (by unfold shv; omega)) ⟨rfl, rfl⟩
    · refine at_iconst C dX0_shelved_26 ?_
      refine at_goto C 31 dX0_shelved_27 (by decide) ?_
      exact hret _ _ _ _ _ dX0_shelved_31 (sB_t (by unfold shv; omega)) ⟨rfl, rfl⟩

set_option maxHeartbeats 4000000 in
set_option maxRecDepth 100000 in
theorem c_X0_adriftCount (l : Launch) (D : va_G) (G : sG) {M : sM} {L : sL} {o : Nat} (ho : isB o) (hT : TInv M) : sKi l D G yX0_adriftCount cX0_adriftCount 3 .int 1 21 [.ref (G.1 (o))] M L (fun r M' L' => r = sI (bAdC M o) ∧ M = M' ∧ L = L') := by
  refine sKi_go (by decide) (Nat.le_of_ble_eq_true rfl) ?_
  intro zp ze zs zm za zb zt zc Q C hret
  refine at_eq (lv' := [(0, .ref (G.1 (o)))]) (st' := []) (M' := M) (L' := L) ?_ rfl rfl rfl rfl
  have hn := nS_r hT ho
  refine at_iconst C dX0_adriftCount_0 ?_
  refine at_istore_n C [(1, .int (sI (0))), (0, .ref (G.1 (o)))] dX0_adriftCount_1 (by decide) rfl ?_
  refine at_iconst C dX0_adriftCount_2 ?_
  refine at_istore_n C [(2, .int (sI (0))), (1, .int (sI (0))), (0, .ref (G.1 (o)))] dX0_adriftCount_3 (by decide) rfl ?_
  have H4 : ∀ (d : Nat) (k : Nat), nS M o - k < d → (k ≤ nS M o) → sAt zp l ze (sRm 1 21) zs zm za zb zt zc D G 3 0 0 Q 4 [(0, .ref (G.1 (o))), (1, .int (sI (cnt (fun s => adr M o s) k))), (2, .int (sI ((k : Int))))] [] M L := by
    intro d
    induction d with
    | zero => intro k hd hk; exact absurd hd (Nat.not_lt_zero _)
    | succ d ih4 =>
      intro k hd4 hk
      refine at_iload_n C 2 dX0_adriftCount_4 rfl ?_
      refine at_aload_n C 0 dX0_adriftCount_5 rfl ?_
      refine at_getf (v := .int (sI (M o 9))) C (obj_Bea G ho) (ci := 0) rfl inX0 (slot := 9) (by decide) qw_106 rfl rfl dX0_adriftCount_6 ?_
      have hb1 := tv_souls hT ho
      refine at_icmp_ge C 34 dX0_adriftCount_9 (by decide) (⟨by omega, by omega⟩) (⟨by omega, by omega⟩) (fun h2 => ?_) (fun h2 => ?_)
      · refine at_iload_n C 1 dX0_adriftCount_34 rfl ?_
        exact hret _ _ _ _ _ dX0_adriftCount_35 (⟨congrArg sI (by unfold bAdC; rw [show nS M o = k by omega]), rfl, rfl⟩)
      · refine at_iload_n C 1 dX0_adriftCount_12 rfl ?_
        refine at_aload_n C 0 dX0_adriftCount_13 rfl ?_
        refine at_iload_n C 2 dX0_adriftCount_14 rfl ?_
        refine at_call_i C (c_X0_adrift l D G ho hT k (by omega)) (As := [.int (sI ((k : Int)))]) (obj_Bea G ho) (ci := 0) rfl qw_481 qw_478 qw_2 qw_479 qw_480 ⟨by decide, by decide, show (parseMethodDescriptor yX0_adrift.desc).map (fun d => d.parameters.length) = some 1 by decide +kernel⟩ ⟨by decide, by decide⟩ ⟨Nat.zero_le _, Nat.zero_le _⟩ (Nat.le_of_ble_eq_true rfl) dX0_adriftCount_15 rfl (fun r M' L' hp3 => ?_)
        obtain ⟨rfl, rfl, rfl⟩ := hp3
        refine at_if_eqB C 25 dX0_adriftCount_18 (by decide) (fun h4 => ?_) (fun h4 => ?_)
        · refine at_iconst C dX0_adriftCount_25 ?_
          refine at_iadd C dX0_adriftCount_26 ?_
          refine at_istore_n C [(1, .int (sI ((cnt (fun s => adr M o s) k) + 0))), (0, .ref (G.1 (o))), (2, .int (sI ((k : Int))))] dX0_adriftCount_27 (by decide) rfl ?_
          refine at_iinc C 2 [(2, .int (sI ((k : Int) + 1))), (1, .int (sI ((cnt (fun s => adr M o s) k) + 0))), (0, .ref (G.1 (o)))] dX0_adriftCount_28 rfl (by decide) rfl ?_
          refine at_goto C 4 dX0_adriftCount_31 (by decide) ?_
          refine at_lv [2, 1, 0] rfl ?_
          exact at_eq (ih4 (k + 1) (by omega) (by omega)) (lvc_s (lvc_i (by simp only [cnt]; simp [*]) (lvc_i (by omega) rfl))) rfl (rfl) (rfl)
        · refine at_iconst C dX0_adriftCount_21 ?_
          refine at_goto C 26 dX0_adriftCount_22 (by decide) ?_
          refine at_iadd C dX0_adriftCount_26 ?_
          refine at_istore_n C [(1, .int (sI ((cnt (fun s => adr M o s) k) + 1))), (0, .ref (G.1 (o))), (2, .int (sI ((k : Int))))] dX0_adriftCount_27 (by decide) rfl ?_
          refine at_iinc C 2 [(2, .int (sI ((k : Int) + 1))), (1, .int (sI ((cnt (fun s => adr M o s) k) + 1))), (0, .ref (G.1 (o)))] dX0_adriftCount_28 rfl (by decide) rfl ?_
          refine at_goto C 4 dX0_adriftCount_31 (by decide) ?_
          refine at_lv [2, 1, 0] rfl ?_
          exact at_eq (ih4 (k + 1) (by omega) (by omega)) (lvc_s (lvc_i (by simp only [cnt]; simp [*]) (lvc_i (by omega) rfl))) rfl (rfl) (rfl)
  refine at_lv [2, 1, 0] rfl ?_
  exact at_eq (H4 _ 0 (Nat.lt_succ_self _) (by omega)) (lvc_s (lvc_i (rfl) (lvc_i (rfl) rfl))) rfl (rfl) (rfl)

set_option maxHeartbeats 4000000 in
set_option maxRecDepth 100000 in
theorem c_X0_shelfCount (l : Launch) (D : va_G) (G : sG) {M : sM} {L : sL} {o : Nat} (ho : isB o) (hT : TInv M) : sKi l D G yX0_shelfCount cX0_shelfCount 3 .int 1 21 [.ref (G.1 (o))] M L (fun r M' L' => r = sI (bShC M o) ∧ M = M' ∧ L = L') := by
  refine sKi_go (by decide) (Nat.le_of_ble_eq_true rfl) ?_
  intro zp ze zs zm za zb zt zc Q C hret
  refine at_eq (lv' := [(0, .ref (G.1 (o)))]) (st' := []) (M' := M) (L' := L) ?_ rfl rfl rfl rfl
  have hn := nS_r hT ho
  refine at_iconst C dX0_shelfCount_0 ?_
  refine at_istore_n C [(1, .int (sI (0))), (0, .ref (G.1 (o)))] dX0_shelfCount_1 (by decide) rfl ?_
  refine at_iconst C dX0_shelfCount_2 ?_
  refine at_istore_n C [(2, .int (sI (0))), (1, .int (sI (0))), (0, .ref (G.1 (o)))] dX0_shelfCount_3 (by decide) rfl ?_
  have H4 : ∀ (d : Nat) (k : Nat), nS M o - k < d → (k ≤ nS M o) → sAt zp l ze (sRm 1 21) zs zm za zb zt zc D G 3 0 0 Q 4 [(0, .ref (G.1 (o))), (1, .int (sI (cnt (fun s => shv M o s) k))), (2, .int (sI ((k : Int))))] [] M L := by
    intro d
    induction d with
    | zero => intro k hd hk; exact absurd hd (Nat.not_lt_zero _)
    | succ d ih4 =>
      intro k hd4 hk
      refine at_iload_n C 2 dX0_shelfCount_4 rfl ?_
      refine at_aload_n C 0 dX0_shelfCount_5 rfl ?_
      refine at_getf (v := .int (sI (M o 9))) C (obj_Bea G ho) (ci := 0) rfl inX0 (slot := 9) (by decide) qw_106 rfl rfl dX0_shelfCount_6 ?_
      have hb1 := tv_souls hT ho
      refine at_icmp_ge C 34 dX0_shelfCount_9 (by decide) (⟨by omega, by omega⟩) (⟨by omega, by omega⟩) (fun h2 => ?_) (fun h2 => ?_)
      · refine at_iload_n C 1 dX0_shelfCount_34 rfl ?_
        exact hret _ _ _ _ _ dX0_shelfCount_35 (⟨congrArg sI (by unfold bShC; rw [show nS M o = k by omega]), rfl, rfl⟩)
      · refine at_iload_n C 1 dX0_shelfCount_12 rfl ?_
        refine at_aload_n C 0 dX0_shelfCount_13 rfl ?_
        refine at_iload_n C 2 dX0_shelfCount_14 rfl ?_
        refine at_call_i C (c_X0_shelved l D G ho hT k (by omega)) (As := [.int (sI ((k : Int)))]) (obj_Bea G ho) (ci := 0) rfl qw_489 qw_486 qw_2 qw_487 qw_488 ⟨by decide, by decide, show (parseMethodDescriptor yX0_shelved.desc).map (fun d => d.parameters.length) = some 1 by decide +kernel⟩ ⟨by decide, by decide⟩ ⟨Nat.zero_le _, Nat.zero_le _⟩ (Nat.le_of_ble_eq_true rfl) dX0_shelfCount_15 rfl (fun r M' L' hp3 => ?_)
        obtain ⟨rfl, rfl, rfl⟩ := hp3
        refine at_if_eqB C 25 dX0_shelfCount_18 (by decide) (fun h4 => ?_) (fun h4 => ?_)
        · refine at_iconst C dX0_shelfCount_25 ?_
          refine at_iadd C dX0_shelfCount_26 ?_
          refine at_istore_n C [(1, .int (sI ((cnt (fun s => shv M o s) k) + 0))), (0, .ref (G.1 (o))), (2, .int (sI ((k : Int))))] dX0_shelfCount_27 (by decide) rfl ?_
          refine at_iinc C 2 [(2, .int (sI ((k : Int) + 1))), (1, .int (sI ((cnt (fun s => shv M o s) k) + 0))), (0, .ref (G.1 (o)))] dX0_shelfCount_28 rfl (by decide) rfl ?_
          refine at_goto C 4 dX0_shelfCount_31 (by decide) ?_
          refine at_lv [2, 1, 0] rfl ?_
          exact at_eq (ih4 (k + 1) (by omega) (by omega)) (lvc_s (lvc_i (by simp only [cnt]; simp [*]) (lvc_i (by omega) rfl))) rfl (rfl) (rfl)
        · refine at_iconst C dX0_shelfCount_21 ?_
          refine at_goto C 26 dX0_shelfCount_22 (by decide) ?_
          refine at_iadd C dX0_shelfCount_26 ?_
          refine at_istore_n C [(1, .int (sI ((cnt (fun s => shv M o s) k) + 1))), (0, .ref (G.1 (o))), (2, .int (sI ((k : Int))))] dX0_shelfCount_27 (by decide) rfl ?_
          refine at_iinc C 2 [(2, .int (sI ((k : Int) + 1))), (1, .int (sI ((cnt (fun s => shv M o s) k) + 1))), (0, .ref (G.1 (o)))] dX0_shelfCount_28 rfl (by decide) rfl ?_
          refine at_goto C 4 dX0_shelfCount_31 (by decide) ?_
          refine at_lv [2, 1, 0] rfl ?_
          exact at_eq (ih4 (k + 1) (by omega) (by omega)) (lvc_s (lvc_i (by simp only [cnt]; simp [*]) (lvc_i (by omega) rfl))) rfl (rfl) (rfl)
  refine at_lv [2, 1, 0] rfl ?_
  exact at_eq (H4 _ 0 (Nat.lt_succ_self _) (by omega)) (lvc_s (lvc_i (rfl) (lvc_i (rfl) rfl))) rfl (rfl) (rfl)

set_option maxHeartbeats 4000000 in
set_option maxRecDepth 100000 in
theorem c_X0_rightCount (l : Launch) (D : va_G) (G : sG) {M : sM} {L : sL} {o : Nat} (ho : isB o) (hT : TInv M) : sKi l D G yX0_rightCount cX0_rightCount 3 .int 0 0 [.ref (G.1 (o))] M L (fun r M' L' => r = sI (bRig M o) ∧ M = M' ∧ L = L') := by
  refine sKi_go (by decide) (Nat.le_of_ble_eq_true rfl) ?_
  intro zp ze zs zm za zb zt zc Q C hret
  refine at_eq (lv' := [(0, .ref (G.1 (o)))]) (st' := []) (M' := M) (L' := L) ?_ rfl rfl rfl rfl
  have hn := nS_r hT ho
  refine at_iconst C dX0_rightCount_0 ?_
  refine at_istore_n C [(1, .int (sI (0))), (0, .ref (G.1 (o)))] dX0_rightCount_1 (by decide) rfl ?_
  refine at_iconst C dX0_rightCount_2 ?_
  refine at_istore_n C [(2, .int (sI (0))), (1, .int (sI (0))), (0, .ref (G.1 (o)))] dX0_rightCount_3 (by decide) rfl ?_
  have H4 : ∀ (d : Nat) (k : Nat), nS M o - k < d → (k ≤ nS M o) → sAt zp l ze (sRm 0 0) zs zm za zb zt zc D G 3 0 0 Q 4 [(0, .ref (G.1 (o))), (1, .int (sI (cnt (fun s => M (o + 7) s = s) k))), (2, .int (sI ((k : Int))))] [] M L := by
    intro d
    induction d with
    | zero => intro k hd hk; exact absurd hd (Nat.not_lt_zero _)
    | succ d ih4 =>
      intro k hd4 hk
      refine at_iload_n C 2 dX0_rightCount_4 rfl ?_
      refine at_aload_n C 0 dX0_rightCount_5 rfl ?_
      refine at_getf (v := .int (sI (M o 9))) C (obj_Bea G ho) (ci := 0) rfl inX0 (slot := 9) (by decide) qw_106 rfl rfl dX0_rightCount_6 ?_
      have hb1 := tv_souls hT ho
      refine at_icmp_ge C 39 dX0_rightCount_9 (by decide) (⟨by omega, by omega⟩) (⟨by omega, by omega⟩) (fun h2 => ?_) (fun h2 => ?_)
      · refine at_iload_n C 1 dX0_rightCount_39 rfl ?_
        exact hret _ _ _ _ _ dX0_rightCount_40 (⟨congrArg sI (by unfold bRig; rw [show nS M o = k by omega]), rfl, rfl⟩)
      · refine at_iload_n C 1 dX0_rightCount_12 rfl ?_
        refine at_aload_n C 0 dX0_rightCount_13 rfl ?_
        refine at_getf (v := .ref (G.1 ((o + 5)))) C (obj_Bea G ho) (ci := 0) rfl inX0 (slot := 4) (by decide) qw_93 rfl rfl dX0_rightCount_14 ?_
        refine at_getf (v := .ref (G.1 ((o + 7)))) C ((isMo_now G ho).1) (ci := 1) rfl inX1 (slot := 1) (by decide) qw_40 rfl rfl dX0_rightCount_17 ?_
        refine at_iload_n C 2 dX0_rightCount_20 rfl ?_
        refine at_iald C k (arI_hold G ho) (rfl) (by omega) dX0_rightCount_21 ?_
        have hb3 := tv_hold hT ho k
        refine at_iload_n C 2 dX0_rightCount_22 rfl ?_
        refine at_icmp_ne C 30 dX0_rightCount_23 (by decide) (⟨by omega, by omega⟩) (⟨by omega, by omega⟩) (fun h4 => ?_) (fun h4 => ?_)
        · refine at_iconst C dX0_rightCount_30 ?_
          refine at_iadd C dX0_rightCount_31 ?_
          refine at_istore_n C [(1, .int (sI ((cnt (fun s => M (o + 7) s = s) k) + 0))), (0, .ref (G.1 (o))), (2, .int (sI ((k : Int))))] dX0_rightCount_32 (by decide) rfl ?_
          refine at_iinc C 2 [(2, .int (sI ((k : Int) + 1))), (1, .int (sI ((cnt (fun s => M (o + 7) s = s) k) + 0))), (0, .ref (G.1 (o)))] dX0_rightCount_33 rfl (by decide) rfl ?_
          refine at_goto C 4 dX0_rightCount_36 (by decide) ?_
          refine at_lv [2, 1, 0] rfl ?_
          exact at_eq (ih4 (k + 1) (by omega) (by omega)) (lvc_s (lvc_i (by simp only [cnt]; simp [*]) (lvc_i (by omega) rfl))) rfl (rfl) (rfl)
        · refine at_iconst C dX0_rightCount_26 ?_
          refine at_goto C 31 dX0_rightCount_27 (by decide) ?_
          refine at_iadd C dX0_rightCount_31 ?_
          refine at_istore_n C [(1, .int (sI ((cnt (fun s => M (o + 7) s = s) k) + 1))), (0, .ref (G.1 (o))), (2, .int (sI ((k : Int))))] dX0_rightCount_32 (by decide) rfl ?_
          refine at_iinc C 2 [(2, .int (sI ((k : Int) + 1))), (1, .int (sI ((cnt (fun s => M (o + 7) s = s) k) + 1))), (0, .ref (G.1 (o)))] dX0_rightCount_33 rfl (by decide) rfl ?_
          refine at_goto C 4 dX0_rightCount_36 (by decide) ?_
          refine at_lv [2, 1, 0] rfl ?_
          exact at_eq (ih4 (k + 1) (by omega) (by omega)) (lvc_s (lvc_i (by simp only [cnt]; simp [*]) (lvc_i (by omega) rfl))) rfl (rfl) (rfl)
  refine at_lv [2, 1, 0] rfl ?_
  exact at_eq (H4 _ 0 (Nat.lt_succ_self _) (by omega)) (lvc_s (lvc_i (rfl) (lvc_i (rfl) rfl))) rfl (rfl) (rfl)

set_option maxHeartbeats 4000000 in
set_option maxRecDepth 100000 in
theorem c_X0_weighs (l : Launch) (D : va_G) (G : sG) {M : sM} {L : sL} {o : Nat} (ho : isB o) (hT : TInv M) (s : Nat) (hs : s < 6) : sKi l D G yX0_weighs cX0_weighs 2 .int 1 24 [.ref (G.1 (o)), .int (sI ((s : Int)))] M L (fun r M' L' => r = sI (bWei M o s) ∧ M = M' ∧ L = L') := by
  refine sKi_go (by decide) (Nat.le_of_ble_eq_true rfl) ?_
  intro zp ze zs zm za zb zt zc Q C hret
  refine at_eq (lv' := [(0, .ref (G.1 (o))), (1, .int (sI ((s : Int))))]) (st' := []) (M' := M) (L' := L) ?_ rfl rfl rfl rfl
  refine at_aload_n C 0 dX0_weighs_0 rfl ?_
  refine at_getf (v := .ref (G.1 ((o + 2)))) C (obj_Bea G ho) (ci := 0) rfl inX0 (slot := 1) (by decide) qw_88 rfl rfl dX0_weighs_1 ?_
  refine at_iload_n C 1 dX0_weighs_4 rfl ?_
  refine at_iald C s (arI_kd G ho) (rfl) (by omega) dX0_weighs_5 ?_
  have hb1 := tv_kd hT ho s
  refine at_aload_n C 0 dX0_weighs_6 rfl ?_
  refine at_getf (v := .ref (G.1 ((o + 3)))) C (obj_Bea G ho) (ci := 0) rfl inX0 (slot := 2) (by decide) qw_89 rfl rfl dX0_weighs_7 ?_
  refine at_iload_n C 1 dX0_weighs_10 rfl ?_
  refine at_iald C s (arI_wt G ho) (rfl) (by omega) dX0_weighs_11 ?_
  have hb2 := tv_wt hT ho s
  refine at_aload_n C 0 dX0_weighs_12 rfl ?_
  refine at_getf (v := .ref (G.1 ((o + 5)))) C (obj_Bea G ho) (ci := 0) rfl inX0 (slot := 4) (by decide) qw_93 rfl rfl dX0_weighs_13 ?_
  refine at_getf (v := .ref (G.1 ((o + 8)))) C ((isMo_now G ho).1) (ci := 1) rfl inX1 (slot := 2) (by decide) qw_44 rfl rfl dX0_weighs_16 ?_
  refine at_iload_n C 1 dX0_weighs_19 rfl ?_
  refine at_iald C s (arI_dry G ho) (rfl) (by omega) dX0_weighs_20 ?_
  have hb3 := tv_dry hT ho s
  refine at_nest_i C (c_X6_weighed l D G (M (o + 2) s) (M (o + 3) s) (M (o + 8) s) ⟨by omega, by omega⟩ ⟨by omega, by omega⟩ ⟨by omega, by omega⟩) (As := [.int (sI (M (o + 2) s)), .int (sI (M (o + 3) s)), .int (sI (M (o + 8) s))]) qw_512 (host := RX6) (List.mem_of_getElem? (i := 5) rfl) qw_1 qw_511 ⟨by decide, by decide, show (parseMethodDescriptor yX6_weighed.desc).map (fun d => d.parameters.length) = some 3 by decide +kernel⟩ ⟨by decide, by decide⟩ ⟨Nat.zero_le _, Nat.zero_le _⟩ (Nat.le_of_ble_eq_true rfl) dX0_weighs_21 rfl (fun r M' L' hp5 => ?_)
  obtain ⟨rfl, rfl, rfl⟩ := hp5
  have hb4 := wgh_r (k := M (o + 2) s) (w := M (o + 3) s) (d := M (o + 8) s) ⟨by omega, by omega⟩ (by omega)
  exact hret _ _ _ _ _ dX0_weighs_24 (⟨rfl, rfl, rfl⟩)

set_option maxHeartbeats 4000000 in
set_option maxRecDepth 100000 in
theorem c_X0_felt (l : Launch) (D : va_G) (G : sG) {M : sM} {L : sL} {o : Nat} (ho : isB o) (hT : TInv M) (s i : Nat) (hs : s < 6) (hi : i < 6) : sKi l D G yX0_felt cX0_felt 3 .int 1 24 [.ref (G.1 (o)), .int (sI ((s : Int))), .int (sI ((i : Int)))] M L (fun r M' L' => r = sI (bFel M o s i) ∧ M = M' ∧ L = L') := by
  refine sKi_go (by decide) (Nat.le_of_ble_eq_true rfl) ?_
  intro zp ze zs zm za zb zt zc Q C hret
  refine at_eq (lv' := [(0, .ref (G.1 (o))), (1, .int (sI ((s : Int)))), (2, .int (sI ((i : Int))))]) (st' := []) (M' := M) (L' := L) ?_ rfl rfl rfl rfl
  refine at_aload_n C 0 dX0_felt_0 rfl ?_
  refine at_getf (v := .ref (G.1 ((o + 4)))) C (obj_Bea G ho) (ci := 0) rfl inX0 (slot := 3) (by decide) qw_91 rfl rfl dX0_felt_1 ?_
  refine at_iload_n C 2 dX0_felt_4 rfl ?_
  refine at_iald C i (arI_ck G ho) (rfl) (by omega) dX0_felt_5 ?_
  have hb1 := tv_ck hT ho i
  refine at_aload_n C 0 dX0_felt_6 rfl ?_
  refine at_getf (v := .ref (G.1 ((o + 2)))) C (obj_Bea G ho) (ci := 0) rfl inX0 (slot := 1) (by decide) qw_88 rfl rfl dX0_felt_7 ?_
  refine at_iload_n C 1 dX0_felt_10 rfl ?_
  refine at_iald C s (arI_kd G ho) (rfl) (by omega) dX0_felt_11 ?_
  have hb2 := tv_kd hT ho s
  refine at_aload_n C 0 dX0_felt_12 rfl ?_
  refine at_getf (v := .ref (G.1 ((o + 3)))) C (obj_Bea G ho) (ci := 0) rfl inX0 (slot := 2) (by decide) qw_89 rfl rfl dX0_felt_13 ?_
  refine at_iload_n C 1 dX0_felt_16 rfl ?_
  refine at_iald C s (arI_wt G ho) (rfl) (by omega) dX0_felt_17 ?_
  have hb3 := tv_wt hT ho s
  refine at_aload_n C 0 dX0_felt_18 rfl ?_
  refine at_getf (v := .ref (G.1 ((o + 5)))) C (obj_Bea G ho) (ci := 0) rfl inX0 (slot := 4) (by decide) qw_93 rfl rfl dX0_felt_19 ?_
  refine at_getf (v := .ref (G.1 ((o + 8)))) C ((isMo_now G ho).1) (ci := 1) rfl inX1 (slot := 2) (by decide) qw_44 rfl rfl dX0_felt_22 ?_
  refine at_iload_n C 1 dX0_felt_25 rfl ?_
  refine at_iald C s (arI_dry G ho) (rfl) (by omega) dX0_felt_26 ?_
  have hb4 := tv_dry hT ho s
  refine at_nest_i C (c_X6_weighed l D G (M (o + 2) s) (M (o + 3) s) (M (o + 8) s) ⟨by omega, by omega⟩ ⟨by omega, by omega⟩ ⟨by omega, by omega⟩) (As := [.int (sI (M (o + 2) s)), .int (sI (M (o + 3) s)), .int (sI (M (o + 8) s))]) qw_512 (host := RX6) (List.mem_of_getElem? (i := 5) rfl) qw_1 qw_511 ⟨by decide, by decide, show (parseMethodDescriptor yX6_weighed.desc).map (fun d => d.parameters.length) = some 3 by decide +kernel⟩ ⟨by decide, by decide⟩ ⟨Nat.zero_le _, Nat.zero_le _⟩ (Nat.le_of_ble_eq_true rfl) dX0_felt_27 rfl (fun r M' L' hp6 => ?_)
  obtain ⟨rfl, rfl, rfl⟩ := hp6
  have hb5 := wgh_r (k := M (o + 2) s) (w := M (o + 3) s) (d := M (o + 8) s) ⟨by omega, by omega⟩ (by omega)
  refine at_nest_i C (c_X6_heaviness l D G (M (o + 4) i) (wgh (M (o + 2) s) (M (o + 3) s) (M (o + 8) s)) ⟨by omega, by omega⟩ ⟨by omega, by omega⟩) (As := [.int (sI (M (o + 4) i)), .int (sI (wgh (M (o + 2) s) (M (o + 3) s) (M (o + 8) s)))]) qw_515 (host := RX6) (List.mem_of_getElem? (i := 6) rfl) qw_1 qw_514 ⟨by decide, by decide, show (parseMethodDescriptor yX6_heaviness.desc).map (fun d => d.parameters.length) = some 2 by decide +kernel⟩ ⟨by decide, by decide⟩ ⟨Nat.zero_le _, Nat.zero_le _⟩ (Nat.le_of_ble_eq_true rfl) dX0_felt_30 rfl (fun r M' L' hp7 => ?_)
  obtain ⟨rfl, rfl, rfl⟩ := hp7
  exact hret _ _ _ _ _ dX0_felt_33 (⟨rfl, rfl, rfl⟩)

set_option maxHeartbeats 4000000 in
set_option maxRecDepth 100000 in
theorem c_X0_wanted (l : Launch) (D : va_G) (G : sG) {M : sM} {L : sL} {o : Nat} (ho : isB o) (hT : TInv M) (i : Nat) (hi : i < 6) : sKi l D G yX0_wanted cX0_wanted 2 .int 0 0 [.ref (G.1 (o)), .int (sI ((i : Int)))] M L (fun r M' L' => r = sI (bWan M o i) ∧ M = M' ∧ L = L') := by
  refine sKi_go (by decide) (Nat.le_of_ble_eq_true rfl) ?_
  intro zp ze zs zm za zb zt zc Q C hret
  refine at_eq (lv' := [(0, .ref (G.1 (o))), (1, .int (sI ((i : Int))))]) (st' := []) (M' := M) (L' := L) ?_ rfl rfl rfl rfl
  refine at_iload_n C 1 dX0_wanted_0 rfl ?_
  refine at_aload_n C 0 dX0_wanted_1 rfl ?_
  refine at_getf (v := .int (sI (M o 9))) C (obj_Bea G ho) (ci := 0) rfl inX0 (slot := 9) (by decide) qw_106 rfl rfl dX0_wanted_2 ?_
  have hb1 := tv_souls hT ho
  refine at_icmp_ge C 17 dX0_wanted_5 (by decide) (⟨by omega, by omega⟩) (⟨by omega, by omega⟩) (fun h2 => ?_) (fun h2 => ?_)
  · refine at_iconst C dX0_wanted_17 ?_
    exact hret _ _ _ _ _ dX0_wanted_18 (⟨congrArg sI (by unfold bWan wan; split <;> omega), rfl, rfl⟩)
  · refine at_aload_n C 0 dX0_wanted_8 rfl ?_
    refine at_getf (v := .ref (G.1 ((o + 3)))) C (obj_Bea G ho) (ci := 0) rfl inX0 (slot := 2) (by decide) qw_89 rfl rfl dX0_wanted_9 ?_
    refine at_iload_n C 1 dX0_wanted_12 rfl ?_
    refine at_iald C i (arI_wt G ho) (rfl) (by omega) dX0_wanted_13 ?_
    have hb3 := tv_wt hT ho i
    refine at_goto C 18 dX0_wanted_14 (by decide) ?_
    exact hret _ _ _ _ _ dX0_wanted_18 (⟨congrArg sI (by unfold bWan wan; split <;> omega), rfl, rfl⟩)

set_option maxHeartbeats 4000000 in
set_option maxRecDepth 100000 in
theorem c_X0_distance (l : Launch) (D : va_G) (G : sG) {M : sM} {L : sL} {o : Nat} (ho : isB o) (hT : TInv M) (s i : Nat) (hs : s < 6) (hi : i < 6) : sKi l D G yX0_distance cX0_distance 3 .int 2 46 [.ref (G.1 (o)), .int (sI ((s : Int))), .int (sI ((i : Int)))] M L (fun r M' L' => r = sI (bDst M o s i) ∧ M = M' ∧ L = L') := by
  refine sKi_go (by decide) (Nat.le_of_ble_eq_true rfl) ?_
  intro zp ze zs zm za zb zt zc Q C hret
  refine at_eq (lv' := [(0, .ref (G.1 (o))), (1, .int (sI ((s : Int)))), (2, .int (sI ((i : Int))))]) (st' := []) (M' := M) (L' := L) ?_ rfl rfl rfl rfl
  refine at_aload_n C 0 dX0_distance_0 rfl ?_
  refine at_iload_n C 1 dX0_distance_1 rfl ?_
  refine at_iload_n C 2 dX0_distance_2 rfl ?_
  refine at_call_i C (c_X0_felt l D G ho hT s i (by omega) (by omega)) (As := [.int (sI ((s : Int))), .int (sI ((i : Int)))]) (obj_Bea G ho) (ci := 0) rfl qw_509 qw_506 qw_2 qw_507 qw_508 ⟨by decide, by decide, show (parseMethodDescriptor yX0_felt.desc).map (fun d => d.parameters.length) = some 2 by decide +kernel⟩ ⟨by decide, by decide⟩ ⟨Nat.zero_le _, Nat.zero_le _⟩ (Nat.le_of_ble_eq_true rfl) dX0_distance_3 rfl (fun r M' L' hp2 => ?_)
  obtain ⟨rfl, rfl, rfl⟩ := hp2
  have hb1 := bFel_r hT ho s i
  refine at_aload_n C 0 dX0_distance_6 rfl ?_
  refine at_iload_n C 2 dX0_distance_7 rfl ?_
  refine at_call_i C (c_X0_wanted l D G ho hT i (by omega)) (As := [.int (sI ((i : Int)))]) (obj_Bea G ho) (ci := 0) rfl qw_519 qw_516 qw_2 qw_517 qw_518 ⟨by decide, by decide, show (parseMethodDescriptor yX0_wanted.desc).map (fun d => d.parameters.length) = some 1 by decide +kernel⟩ ⟨by decide, by decide⟩ ⟨Nat.zero_le _, Nat.zero_le _⟩ (Nat.le_of_ble_eq_true rfl) dX0_distance_8 rfl (fun r M' L' hp4 => ?_)
  obtain ⟨rfl, rfl, rfl⟩ := hp4
  have hb3 := bWan_r hT ho i
  refine at_isub C dX0_distance_11 ?_
  refine at_mabs C qw_520 (⟨by omega, by omega⟩) ⟨by decide, Nat.le_of_ble_eq_true rfl⟩ ⟨Nat.zero_le _, Nat.zero_le _⟩ dX0_distance_12 ?_
  exact hret _ _ _ _ _ dX0_distance_15 (⟨rfl, rfl, rfl⟩)

set_option maxHeartbeats 4000000 in
set_option maxRecDepth 100000 in
theorem c_X0_heldBy (l : Launch) (D : va_G) (G : sG) {M : sM} {L : sL} {o : Nat} (ho : isB o) (hT : TInv M) (i : Nat) (hi : i < 6) : sKi l D G yX0_heldBy cX0_heldBy 3 .int 0 0 [.ref (G.1 (o)), .int (sI ((i : Int)))] M L (fun r M' L' => r = sI (bHeld M o i) ∧ M = M' ∧ L = L') := by
  refine sKi_go (by decide) (Nat.le_of_ble_eq_true rfl) ?_
  intro zp ze zs zm za zb zt zc Q C hret
  refine at_eq (lv' := [(0, .ref (G.1 (o))), (1, .int (sI ((i : Int))))]) (st' := []) (M' := M) (L' := L) ?_ rfl rfl rfl rfl
  have hn := nS_r hT ho
  refine at_iconst C dX0_heldBy_0 ?_
  refine at_istore_n C [(2, .int (sI (0))), (0, .ref (G.1 (o))), (1, .int (sI ((i : Int))))] dX0_heldBy_1 (by decide) rfl ?_
  have H2 : ∀ (d : Nat) (k : Nat), nS M o - k < d → (k ≤ nS M o) → (∀ j, j < k → ¬ M (o + 7) j = i) → sAt zp l ze (sRm 0 0) zs zm za zb zt zc D G 3 0 0 Q 2 [(0, .ref (G.1 (o))), (1, .int (sI ((i : Int)))), (2, .int (sI ((k : Int))))] [] M L := by
    intro d
    induction d with
    | zero => intro k hd hk hf; exact absurd hd (Nat.not_lt_zero _)
    | succ d ih2 =>
      intro k hd2 hk hf
      refine at_iload_n C 2 dX0_heldBy_2 rfl ?_
      refine at_aload_n C 0 dX0_heldBy_3 rfl ?_
      refine at_getf (v := .int (sI (M o 9))) C (obj_Bea G ho) (ci := 0) rfl inX0 (slot := 9) (by decide) qw_106 rfl rfl dX0_heldBy_4 ?_
      have hb1 := tv_souls hT ho
      refine at_icmp_ge C 31 dX0_heldBy_7 (by decide) (⟨by omega, by omega⟩) (⟨by omega, by omega⟩) (fun h2 => ?_) (fun h2 => ?_)
      · refine at_iconst C dX0_heldBy_31 ?_
        exact hret _ _ _ _ _ dX0_heldBy_32 (⟨congrArg sI (fst_no (fun j hj => hf j (by omega))).symm, rfl, rfl⟩)
      · refine at_aload_n C 0 dX0_heldBy_10 rfl ?_
        refine at_getf (v := .ref (G.1 ((o + 5)))) C (obj_Bea G ho) (ci := 0) rfl inX0 (slot := 4) (by decide) qw_93 rfl rfl dX0_heldBy_11 ?_
        refine at_getf (v := .ref (G.1 ((o + 7)))) C ((isMo_now G ho).1) (ci := 1) rfl inX1 (slot := 1) (by decide) qw_40 rfl rfl dX0_heldBy_14 ?_
        refine at_iload_n C 2 dX0_heldBy_17 rfl ?_
        refine at_iald C k (arI_hold G ho) (rfl) (by omega) dX0_heldBy_18 ?_
        have hb3 := tv_hold hT ho k
        refine at_iload_n C 1 dX0_heldBy_19 rfl ?_
        refine at_icmp_ne C 25 dX0_heldBy_20 (by decide) (⟨by omega, by omega⟩) (⟨by omega, by omega⟩) (fun h4 => ?_) (fun h4 => ?_)
        · refine at_iinc C 2 [(2, .int (sI ((k : Int) + 1))), (0, .ref (G.1 (o))), (1, .int (sI ((i : Int))))] dX0_heldBy_25 rfl (by decide) rfl ?_
          refine at_goto C 2 dX0_heldBy_28 (by decide) ?_
          refine at_lv [1, 2, 0] rfl ?_
          exact at_eq (ih2 (k + 1) (by omega) (by omega) (fun j hj => by
                rcases Nat.lt_succ_iff_lt_or_eq.mp hj with h | h
                · exact hf j h
                · rw [h]; omega)) (lvc_s (lvc_s (lvc_i (by omega) rfl))) rfl (rfl) (rfl)
        · refine at_iload_n C 2 dX0_heldBy_23 rfl ?_
          exact hret _ _ _ _ _ dX0_heldBy_24 (⟨congrArg sI (fst_at (by omega) hf (by omega)).symm, rfl, rfl⟩)
  refine at_lv [1, 2, 0] rfl ?_
  exact at_eq (H2 _ 0 (Nat.lt_succ_self _) (by omega) (fun j hj => absurd hj (Nat.not_lt_zero _))) (lvc_s (lvc_s (lvc_i (rfl) rfl))) rfl (rfl) (rfl)

set_option maxHeartbeats 4000000 in
set_option maxRecDepth 100000 in
theorem c_X0_drifted (l : Launch) (D : va_G) (G : sG) {M : sM} {L : sL} {o : Nat} (ho : isB o) (hT : TInv M) (c : Int) (n : Nat) (hc : 0 ≤ c ∧ c ≤ 11) (hn : n < 1000) : sKi l D G yX0_drifted cX0_drifted 5 .int 1 21 [.ref (G.1 (o)), .int (sI (c)), .int (sI ((n : Int)))] M L (fun r M' L' => r = sI (driN (M (o + 1)) n c) ∧ M = M' ∧ L = L') := by
  refine sKi_go (by decide) (Nat.le_of_ble_eq_true rfl) ?_
  intro zp ze zs zm za zb zt zc Q C hret
  refine at_eq (lv' := [(0, .ref (G.1 (o))), (1, .int (sI (c))), (2, .int (sI ((n : Int))))]) (st' := []) (M' := M) (L' := L) ?_ rfl rfl rfl rfl
  refine at_iload_n C 1 dX0_drifted_0 rfl ?_
  refine at_istore_n C [(3, .int (sI (c))), (0, .ref (G.1 (o))), (1, .int (sI (c))), (2, .int (sI ((n : Int))))] dX0_drifted_1 (by decide) rfl ?_
  refine at_iconst C dX0_drifted_2 ?_
  refine at_istore C [(4, .int (sI (0))), (3, .int (sI (c))), (0, .ref (G.1 (o))), (1, .int (sI (c))), (2, .int (sI ((n : Int))))] dX0_drifted_3 (by decide) rfl ?_
  have H5 : ∀ (d : Nat) (k : Nat), n - k < d → (k ≤ n) → sAt zp l ze (sRm 1 21) zs zm za zb zt zc D G 5 0 0 Q 5 [(0, .ref (G.1 (o))), (1, .int (sI (c))), (2, .int (sI ((n : Int)))), (3, .int (sI (driN (M (o + 1)) k c))), (4, .int (sI ((k : Int))))] [] M L := by
    intro d
    induction d with
    | zero => intro k hd hk; exact absurd hd (Nat.not_lt_zero _)
    | succ d ih5 =>
      intro k hd5 hk
      have hr := driN_r (M (o + 1)) hc k
      refine at_iload C 4 dX0_drifted_5 rfl ?_
      refine at_iload_n C 2 dX0_drifted_7 rfl ?_
      refine at_icmp_ge C 35 dX0_drifted_8 (by decide) (⟨by omega, by omega⟩) (⟨by omega, by omega⟩) (fun h1 => ?_) (fun h1 => ?_)
      · refine at_iload_n C 3 dX0_drifted_35 rfl ?_
        exact hret _ _ _ _ _ dX0_drifted_36 (⟨congrArg sI (by rw [show n = k by omega]), rfl, rfl⟩)
      · refine at_iconst C dX0_drifted_11 ?_
        refine at_bipush C dX0_drifted_12 (by decide) (by decide) ?_
        refine at_iload_n C 3 dX0_drifted_14 rfl ?_
        refine at_aload_n C 0 dX0_drifted_15 rfl ?_
        refine at_getf (v := .ref (G.1 ((o + 1)))) C (obj_Bea G ho) (ci := 0) rfl inX0 (slot := 0) (by decide) qw_85 rfl rfl dX0_drifted_16 ?_
        refine at_iload_n C 3 dX0_drifted_19 rfl ?_
        refine at_iald C ((driN (M (o + 1)) k c).toNat) (arI_cur G ho) (by omega) (by omega) dX0_drifted_20 ?_
        have hb2 := tv_cur hT ho ((driN (M (o + 1)) k c).toNat)
        refine at_iadd C dX0_drifted_21 ?_
        refine at_mmin C qw_464 (⟨by omega, by omega⟩) (⟨by omega, by omega⟩) ⟨by decide, Nat.le_of_ble_eq_true rfl⟩ ⟨Nat.zero_le _, Nat.zero_le _⟩ dX0_drifted_22 ?_
        refine at_mmax C qw_467 (⟨by omega, by omega⟩) (⟨by omega, by omega⟩) ⟨by decide, Nat.le_of_ble_eq_true rfl⟩ ⟨Nat.zero_le _, Nat.zero_le _⟩ dX0_drifted_25 ?_
        refine at_istore_n C [(3, .int (sI (max 0 (min 11 ((driN (M (o + 1)) k c) + (M (o + 1) ((driN (M (o + 1)) k c).toNat))))))), (0, .ref (G.1 (o))), (1, .int (sI (c))), (2, .int (sI ((n : Int)))), (4, .int (sI ((k : Int))))] dX0_drifted_28 (by decide) rfl ?_
        refine at_iinc C 4 [(4, .int (sI ((k : Int) + 1))), (3, .int (sI (max 0 (min 11 ((driN (M (o + 1)) k c) + (M (o + 1) ((driN (M (o + 1)) k c).toNat))))))), (0, .ref (G.1 (o))), (1, .int (sI (c))), (2, .int (sI ((n : Int))))] dX0_drifted_29 rfl (by decide) rfl ?_
        refine at_goto C 5 dX0_drifted_32 (by decide) ?_
        refine at_lv [2, 3, 4, 1, 0] rfl ?_
        exact at_eq (ih5 (k + 1) (by omega) (by omega)) (lvc_s (lvc_s (lvc_s (lvc_i (rfl) (lvc_i (by omega) rfl))))) rfl (rfl) (rfl)
  refine at_lv [2, 3, 4, 1, 0] rfl ?_
  exact at_eq (H5 _ 0 (Nat.lt_succ_self _) (by omega)) (lvc_s (lvc_s (lvc_s (lvc_i (rfl) (lvc_i (rfl) rfl))))) rfl (rfl) (rfl)

set_option maxHeartbeats 4000000 in
set_option maxRecDepth 100000 in
theorem c_X0_cellAhead (l : Launch) (D : va_G) (G : sG) {M : sM} {L : sL} {o : Nat} (ho : isB o) (hT : TInv M) (s n : Nat) (hs : s < 6) (hn : n < 1000) : sKi l D G yX0_cellAhead cX0_cellAhead 3 .int 2 45 [.ref (G.1 (o)), .int (sI ((s : Int))), .int (sI ((n : Int)))] M L (fun r M' L' => r = sI (bAhe M o s n) ∧ M = M' ∧ L = L') := by
  refine sKi_go (by decide) (Nat.le_of_ble_eq_true rfl) ?_
  intro zp ze zs zm za zb zt zc Q C hret
  refine at_eq (lv' := [(0, .ref (G.1 (o))), (1, .int (sI ((s : Int)))), (2, .int (sI ((n : Int))))]) (st' := []) (M' := M) (L' := L) ?_ rfl rfl rfl rfl
  refine at_aload_n C 0 dX0_cellAhead_0 rfl ?_
  refine at_iload_n C 1 dX0_cellAhead_1 rfl ?_
  refine at_call_i C (c_X0_adrift l D G ho hT s (by omega)) (As := [.int (sI ((s : Int)))]) (obj_Bea G ho) (ci := 0) rfl qw_481 qw_478 qw_2 qw_479 qw_480 ⟨by decide, by decide, show (parseMethodDescriptor yX0_adrift.desc).map (fun d => d.parameters.length) = some 1 by decide +kernel⟩ ⟨by decide, by decide⟩ ⟨Nat.zero_le _, Nat.zero_le _⟩ (Nat.le_of_ble_eq_true rfl) dX0_cellAhead_2 rfl (fun r M' L' hp1 => ?_)
  obtain ⟨rfl, rfl, rfl⟩ := hp1
  refine at_if_eqB C 25 dX0_cellAhead_5 (by decide) (fun h2 => ?_) (fun h2 => ?_)
  · refine at_iconst C dX0_cellAhead_25 ?_
    exact hret _ _ _ _ _ dX0_cellAhead_26 (⟨congrArg sI (by unfold bAhe; simp [*]), rfl, rfl⟩)
  · refine at_aload_n C 0 dX0_cellAhead_8 rfl ?_
    refine at_aload_n C 0 dX0_cellAhead_9 rfl ?_
    refine at_getf (v := .ref (G.1 ((o + 5)))) C (obj_Bea G ho) (ci := 0) rfl inX0 (slot := 4) (by decide) qw_93 rfl rfl dX0_cellAhead_10 ?_
    refine at_getf (v := .ref (G.1 ((o + 6)))) C ((isMo_now G ho).1) (ci := 1) rfl inX1 (slot := 0) (by decide) qw_37 rfl rfl dX0_cellAhead_13 ?_
    refine at_iload_n C 1 dX0_cellAhead_16 rfl ?_
    refine at_iald C s (arI_cell G ho) (rfl) (by omega) dX0_cellAhead_17 ?_
    have hb3 := tv_cell hT ho s
    refine at_iload_n C 2 dX0_cellAhead_18 rfl ?_
    refine at_call_i C (c_X0_drifted l D G ho hT (M (o + 6) s) n ⟨by omega, by omega⟩ (by omega)) (As := [.int (sI (M (o + 6) s)), .int (sI ((n : Int)))]) (obj_Bea G ho) (ci := 0) rfl qw_485 qw_482 qw_2 qw_483 qw_484 ⟨by decide, by decide, show (parseMethodDescriptor yX0_drifted.desc).map (fun d => d.parameters.length) = some 2 by decide +kernel⟩ ⟨by decide, by decide⟩ ⟨Nat.zero_le _, Nat.zero_le _⟩ (Nat.le_of_ble_eq_true rfl) dX0_cellAhead_19 rfl (fun r M' L' hp5 => ?_)
    obtain ⟨rfl, rfl, rfl⟩ := hp5
    have hb4 := driN_r (M (o + 1)) (c := M (o + 6) s) ⟨by omega, by omega⟩ n
    refine at_goto C 26 dX0_cellAhead_22 (by decide) ?_
    exact hret _ _ _ _ _ dX0_cellAhead_26 (⟨congrArg sI (by unfold bAhe; simp [*]), rfl, rfl⟩)
