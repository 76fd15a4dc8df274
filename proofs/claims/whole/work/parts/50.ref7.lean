/-! the reference: all orders -/
/-- behind k of the row's callings -/
def qrb (A : sM) (r : Nat → Int) : Nat → sM
  | 0 => A
  | k + 1 => if qNea (qrb A r k) (r k).toNat = -1 then qrb A r k else qTk (qrb A r k) (r k).toNat (qNea (qrb A r k) (r k).toNat).toNat
def qRB (M : sM) (r : Nat → Int) (n : Nat) : Int := qRig (qrb M r n)
theorem qNea_r (A : sM) (i : Nat) : -1 ≤ qNea A i ∧ qNea A i < qn A := nea_r _ _ _
theorem qrb_c (A : sM) (r : Nat → Int) {c : Nat} (h : c ≠ 263) (h2 : c ≠ 264) : ∀ k, qrb A r k c = A c
  | 0 => rfl
  | k + 1 => by
    unfold qrb
    split
    · exact qrb_c A r h h2 k
    · unfold qTk
      rw [sSt_ne h2, sSt_ne h, qrb_c A r h h2 k]
theorem qrb_6 {A : sM} (hT : TInv A) (r : Nat → Int) {j : Nat} (hj : 6 ≤ j) : ∀ k, qrb A r k 263 j = A 263 j ∧ qrb A r k 264 j = A 264 j
  | 0 => ⟨rfl, rfl⟩
  | k + 1 => by
    have ih := qrb_6 hT r hj k
    have h1 := qNea_r (qrb A r k) (r k).toNat
    have h2 : qn (qrb A r k) ≤ 6 := by unfold qn; rw [qrb_c A r (by decide) (by decide)]; exact (qn_r hT).1
    unfold qrb
    split
    · exact ih
    · unfold qTk
      rw [sSt_ne (by decide), sSt_nj (by omega), sSt_nj (by omega), sSt_ne (by decide)]
      exact ih
/-- what the answers rest on -/
def qAg (A B : sM) : Prop := ∀ c, 258 ≤ c → c < 267 → A c = B c
theorem qAg_dst {A B : sM} (h : qAg A B) (s i : Nat) : qDst A s i = qDst B s i := by
  unfold qDst
  rw [h 261 (by decide) (by decide), h 262 (by decide) (by decide), h 265 (by decide) (by decide), h 266 (by decide) (by decide), h 258 (by decide) (by decide)]
theorem qAg_nea {A B : sM} (h : qAg A B) (i : Nat) : qNea A i = qNea B i := by
  unfold qNea qn
  rw [h 258 (by decide) (by decide)]
  refine nea_c (fun s _ => by rw [h 263 (by decide) (by decide)]) (fun s _ _ => qAg_dst h s i)
theorem qAg_tk {A B : sM} (h : qAg A B) (i s : Nat) : qAg (qTk A i s) (qTk B i s) := by
  intro c h1 h2
  unfold qTk
  funext j
  rw [sSt_at, sSt_at, sSt_at, sSt_at, h c h1 h2]
theorem qAg_rb {A B : sM} (h : qAg A B) {r r2 : Nat → Int} : ∀ k, (∀ j, j < k → r j = r2 j) → qAg (qrb A r k) (qrb B r2 k)
  | 0, _ => h
  | k + 1, hr => by
    have ih := qAg_rb h k (fun j hj => hr j (by omega))
    unfold qrb
    rw [← hr k (Nat.lt_succ_self k), qAg_nea ih]
    split
    · exact ih
    · exact qAg_tk ih _ _
theorem qAg_rig {A B : sM} (h : qAg A B) : qRig A = qRig B := by
  unfold qRig qc
  rw [h 258 (by decide) (by decide)]
  exact cnt_c (fun i _ => by rw [h 264 (by decide) (by decide)])
theorem qRB_c {A B : sM} (h : qAg A B) {r r2 : Nat → Int} {n : Nat} (hr : ∀ j, j < n → r j = r2 j) : qRB A r n = qRB B r2 n := qAg_rig (qAg_rb h n hr)
theorem qLay_ag (M : sM) (a : Nat) : qAg (qLay M 273 a) M := fun c h1 h2 => qlN_b M (by omega)
/-- laid aside, gone through, put back: as it was -/
theorem qback {M : sM} (hT : TInv M) (r : Nat → Int) (n : Nat) {c : Nat} (hc : c ≠ 273) : qTak (qrb (qLay M 273 0) r n) 273 0 c = M c := by
  have hT0 : TInv (qLay M 273 0) := qlN_T hT isRc_273 (Nat.le_refl 6)
  have e273 : ∀ j, qrb (qLay M 273 0) r n 273 j = qLay M 273 0 273 j := fun j => by rw [qrb_c _ _ (by decide) (by decide)]
  have e : ∀ d, d ≠ 273 → d ≠ 263 → d ≠ 264 → qrb (qLay M 273 0) r n d = M d := fun d h1 h2 h3 => by rw [qrb_c _ _ h2 h3]; exact qlN_b M h1
  have l0 : qLay M 273 0 273 0 = M 258 3 := by unfold qLay qlN; rw [sSr_eq, if_pos rfl]
  have l1 : qLay M 273 0 273 1 = M 258 4 := by unfold qLay qlN; rw [sSr_eq, if_neg (by decide), if_pos rfl]
  have lp : ∀ s, s < 6 → qLay M 273 0 273 (0 + 2 + s) = M 263 s := fun s hs => by
    unfold qLay qlN
    rw [sSr_eq, if_neg (by omega), if_neg (by omega), if_pos (by omega), show 0 + 2 + s - (0 + 2) = s by omega]
  have lh : ∀ s, s < 6 → qLay M 273 0 273 (0 + 8 + s) = M 264 s := fun s hs => by
    unfold qLay qlN
    rw [sSr_eq, if_neg (by omega), if_neg (by omega), if_neg (by omega), if_pos (by omega), show 0 + 8 + s - (0 + 8) = s by omega]
  have ld : ∀ s, s < 6 → qLay M 273 0 273 (0 + 14 + s) = M 265 s := fun s hs => by
    unfold qLay qlN
    rw [sSr_eq, if_neg (by omega), if_neg (by omega), if_neg (by omega), if_neg (by omega), if_pos (by omega), show 0 + 14 + s - (0 + 14) = s by omega]
  funext j
  unfold qTak qtN
  rw [sSr_at]
  by_cases h5 : c = 265
  · subst h5
    rw [if_pos rfl]
    by_cases hj : j < 6
    · rw [if_pos hj, e273, ld j hj]
    · rw [if_neg hj, e 265 (by decide) (by decide) (by decide)]
  rw [if_neg h5, sSr_at]
  by_cases h4 : c = 264
  · subst h4
    rw [if_pos rfl]
    by_cases hj : j < 6
    · rw [if_pos hj, e273, lh j hj]
    · rw [if_neg hj, (qrb_6 hT0 r (by omega) n).2]; exact congrFun (qlN_b M (by decide)) j
  rw [if_neg h4, sSr_at]
  by_cases h3 : c = 263
  · subst h3
    rw [if_pos rfl]
    by_cases hj : j < 6
    · rw [if_pos hj, e273, lp j hj]
    · rw [if_neg hj, (qrb_6 hT0 r (by omega) n).1]; exact congrFun (qlN_b M (by decide)) j
  rw [if_neg h3, sSt_at, sSt_at]
  by_cases h8 : c = 258
  · subst h8
    by_cases j4 : j = 4
    · rw [if_pos ⟨rfl, j4⟩, e273, j4]; exact l1
    · rw [if_neg (fun z => j4 z.2)]
      by_cases j3 : j = 3
      · rw [if_pos ⟨rfl, j3⟩, e273, j3]; exact l0
      · rw [if_neg (fun z => j3 z.2), e 258 (by decide) (by decide) (by decide)]
  · rw [if_neg (fun z => h8 z.1), if_neg (fun z => h8 z.1), e c hc h3 h4]
theorem qrb_n {A : sM} {r : Nat → Int} {k : Nat} (h : qNea (qrb A r k) (r k).toNat = -1) : qrb A r k = qrb A r (k + 1) := (if_pos h).symm
theorem qrb_y {A : sM} {r : Nat → Int} {k : Nat} (h : qNea (qrb A r k) (r k).toNat ≠ -1) : qTk (qrb A r k) (r k).toNat (qNea (qrb A r k) (r k).toNat).toNat = qrb A r (k + 1) := (if_neg h).symm
/-! how many rows there are: looked through by small numbers -/
def sOr (r q : Nat → Int) (n : Nat) : Prop := ∀ i j, i < n → j < n → (r i < r j ↔ q i < q j)
theorem pvt_g {r q : Nat → Int} {n : Nat} (h : sOr r q n) : ∀ t, t < n → pvt r t = pvt q t
  | 0, _ => rfl
  | t + 1, ht => by
    have ih := pvt_g h t (by omega)
    have e := h (t + 1) t ht (by omega)
    unfold pvt
    rw [ih]
    exact if_congr' e
theorem jx_g {r q : Nat → Int} {n k lo : Nat} (h : sOr r q n) (hk : k < n) : ∀ j, j < n → jx r (r k) lo j = jx q (q k) lo j
  | 0, _ => rfl
  | j + 1, hj => by
    have ih := jx_g (lo := lo) h hk j (by omega)
    have e := h (j + 1) k hj hk
    unfold jx
    rw [ih]
    exact if_congr' ⟨fun z => ⟨z.1, e.mp z.2⟩, fun z => ⟨z.1, e.mpr z.2⟩⟩
theorem swp_g {r q : Nat → Int} {F : Int → Int} {n a b : Nat} (h : ∀ j, j < n → r j = F (q j)) (ha : a < n) (hb : b < n) : ∀ j, j < n → swp r a b j = F (swp q a b j) := by
  intro j hj
  unfold swp
  by_cases h1 : j = b
  · rw [if_pos h1, if_pos h1]; exact h a ha
  · rw [if_neg h1, if_neg h1]
    by_cases h2 : j = a
    · rw [if_pos h2, if_pos h2]; exact h b hb
    · rw [if_neg h2, if_neg h2]; exact h j hj
theorem rvs_g {F : Int → Int} {n : Nat} : ∀ (f : Nat) {r q : Nat → Int} {a b : Nat}, (∀ j, j < n → r j = F (q j)) → b < n → ∀ j, j < n → rvs f r a b j = F (rvs f q a b j)
  | 0, _, _, _, _, h, _ => h
  | f + 1, r, q, a, b, h, hb => by
    intro j hj
    by_cases e : a < b
    · rw [rvs_y e, rvs_y e]
      exact rvs_g f (swp_g h (by omega) hb) (by omega) j hj
    · rw [rvs_n e, rvs_n e]
      exact h j hj
theorem nxt_g {r q : Nat → Int} {F : Int → Int} {n : Nat} (h : ∀ j, j < n → r j = F (q j)) (ho : sOr r q n) : ∀ j, j < n → nxt r n j = F (nxt q n j) := by
  intro j hj
  have e1 : pvt r (n - 1) = pvt q (n - 1) := pvt_g ho _ (by omega)
  have hp := pvt_r q (n - 1)
  have hx := jx_le q (q (pvt q (n - 1)).toNat) (pvt q (n - 1)).toNat (n - 1)
  unfold nxt
  rw [e1, jx_g ho (by omega) _ (by omega)]
  exact rvs_g n (swp_g h (by omega) (by omega)) (by omega) j hj
def lstF (l : List Int) : Nat → Int := fun j => l.getD j 0
def stL (n : Nat) (l : List Int) : List Int := (List.range n).map (nxt (lstF l) n)
def itL (n : Nat) (l : List Int) : Nat → List Int
  | 0 => l
  | k + 1 => stL n (itL n l k)
def goL (n : Nat) : Nat → List Int → Bool
  | 0, l => pvt (lstF l) (n - 1) == -1
  | f + 1, l => (pvt (lstF l) (n - 1) != -1) && goL n f (stL n l)
def inL (n : Nat) : List Int := (List.range n).map (fun (j : Nat) => (j : Int))
def eN (n : Nat) : Nat := [0, 0, 1, 5, 23, 119, 719].getD n 0
theorem eN_ck : ∀ n, n ≤ 6 → goL n (eN n) (inL n) = true := by decide +kernel
theorem stL_at (n : Nat) (l : List Int) {j : Nat} (hj : j < n) : lstF (stL n l) j = nxt (lstF l) n j := by
  unfold stL
  show ((List.range n).map (nxt (lstF l) n)).getD j 0 = _
  rw [List.getD_eq_getElem?_getD, List.getElem?_map, List.getElem?_range hj]
  rfl
theorem itL_f (n : Nat) (l : List Int) : ∀ k, itL n (stL n l) k = stL n (itL n l k)
  | 0 => rfl
  | k + 1 => by
    show stL n (itL n (stL n l) k) = _
    rw [itL_f n l k]; rfl
theorem goL_s (n : Nat) : ∀ f l, goL n f l = true → (∀ k, k < f → hasN (lstF (itL n l k)) n) ∧ ¬ hasN (lstF (itL n l f)) n
  | 0, l, h => ⟨fun k hk => absurd hk (Nat.not_lt_zero k), fun z => z (by unfold goL at h; exact eq_of_beq h)⟩
  | f + 1, l, h => by
    unfold goL at h
    rw [Bool.and_eq_true] at h
    obtain ⟨h1, h2⟩ := goL_s n f (stL n l) h.2
    refine ⟨fun k hk => ?_, ?_⟩
    · cases k with
      | zero => exact fun z => by have h0 := h.1; rw [show pvt (lstF l) (n - 1) = -1 from z] at h0; exact absurd h0 (by decide)
      | succ k =>
        have := h1 k (by omega)
        rw [itL_f] at this
        exact this
    · rw [itL_f] at h2
      exact h2
/-- a row that rises: its rows, one behind the other, by small numbers -/
theorem rowN_g {R : Nat → Int} {n : Nat} (hR : ∀ a b, a < b → b < n → R a < R b) : ∀ k, (∀ j, j < n → rowN R n k j = R (lstF (itL n (inL n) k) j).toNat) ∧ rIn n n (lstF (itL n (inL n) k))
  | 0 => by
    have e : ∀ j, j < n → lstF (inL n) j = (j : Int) := fun j hj => by
      unfold lstF inL
      rw [List.getD_eq_getElem?_getD, List.getElem?_map, List.getElem?_range hj]; rfl
    refine ⟨fun j hj => ?_, fun j hj => ?_⟩
    · show R j = R (lstF (inL n) j).toNat
      rw [e j hj, Int.toNat_natCast]
    · show 0 ≤ lstF (inL n) j ∧ (lstF (inL n) j).toNat < n
      rw [e j hj]; omega
  | k + 1 => by
    obtain ⟨h1, h2⟩ := rowN_g hR k
    have ho : sOr (rowN R n k) (lstF (itL n (inL n) k)) n := fun i j hi hj => by
      rw [h1 i hi, h1 j hj]
      have ai := h2 i hi
      have aj := h2 j hj
      constructor
      · intro z
        by_cases c : lstF (itL n (inL n) k) i < lstF (itL n (inL n) k) j
        · exact c
        · by_cases d : (lstF (itL n (inL n) k) j).toNat < (lstF (itL n (inL n) k) i).toNat
          · have := hR _ _ d ai.2; omega
          · rw [show (lstF (itL n (inL n) k) i).toNat = (lstF (itL n (inL n) k) j).toNat by omega] at z; omega
      · intro z
        exact hR _ _ (by omega) aj.2
    refine ⟨fun j hj => ?_, fun j hj => ?_⟩
    · show nxt (rowN R n k) n j = R (lstF (stL n (itL n (inL n) k)) j).toNat
      rw [stL_at n _ hj]
      exact nxt_g (F := fun x => R x.toNat) h1 ho j hj
    · show 0 ≤ lstF (stL n (itL n (inL n) k)) j ∧ (lstF (stL n (itL n (inL n) k)) j).toNat < n
      rw [stL_at n _ hj]
      exact nxt_in h2 j hj
theorem rows_end {R : Nat → Int} {n : Nat} (hn : n ≤ 6) (hR : ∀ a b, a < b → b < n → R a < R b) : ∀ k, k ≤ eN n → (hasN (rowN R n k) n ↔ k < eN n) := by
  intro k hk
  obtain ⟨g1, g2⟩ := goL_s n (eN n) (inL n) (eN_ck n hn)
  obtain ⟨h1, h2⟩ := rowN_g hR k
  have ho : sOr (rowN R n k) (lstF (itL n (inL n) k)) n := fun i j hi hj => by
    rw [h1 i hi, h1 j hj]
    have ai := h2 i hi
    have aj := h2 j hj
    constructor
    · intro z
      by_cases c : lstF (itL n (inL n) k) i < lstF (itL n (inL n) k) j
      · exact c
      · by_cases d : (lstF (itL n (inL n) k) j).toNat < (lstF (itL n (inL n) k) i).toNat
        · have := hR _ _ d ai.2; omega
        · rw [show (lstF (itL n (inL n) k) i).toNat = (lstF (itL n (inL n) k) j).toNat by omega] at z; omega
    · intro z
      exact hR _ _ (by omega) aj.2
  have e : hasN (rowN R n k) n ↔ hasN (lstF (itL n (inL n) k)) n := by
    unfold hasN
    by_cases h0 : n = 0
    · rw [h0]; exact Iff.rfl
    · rw [pvt_g ho (n - 1) (by omega)]
  rw [e]
  by_cases hlt : k < eN n
  · exact ⟨fun _ => hlt, fun _ => g1 k hlt⟩
  · rw [show k = eN n by omega]
    exact ⟨fun z => absurd z g2, fun z => absurd z (by omega)⟩
theorem eN_r : ∀ n, n ≤ 6 → eN n ≤ 719 := by decide +kernel
/-- those who hold none, in a row that rises -/
theorem frR_lt (r f : Nat → Int) : ∀ k j, j < frC f k → frR r f k j < k
  | 0, j, h => absurd h (Nat.not_lt_zero j)
  | k + 1, j, h => by
    obtain ⟨i, h1, h2, _⟩ := frR_at r f (k + 1) j h
    rw [h2]; omega
theorem frR_up (r f : Nat → Int) : ∀ k a b, a < b → b < frC f k → frR r f k a < frR r f k b
  | 0, a, b, _, h => absurd h (Nat.not_lt_zero b)
  | k + 1, a, b, hab, h => by
    unfold frC at h
    unfold frR
    by_cases e : f k = -1
    · rw [if_pos e] at h ⊢
      show (if a = frC f k then (k : Int) else frR r f k a) < (if b = frC f k then (k : Int) else frR r f k b)
      rw [if_neg (show ¬ a = frC f k by omega)]
      by_cases hb : b = frC f k
      · rw [if_pos hb]; exact frR_lt r f k a (by omega)
      · rw [if_neg hb]; exact frR_up r f k a b hab (by omega)
    · rw [if_neg e] at h ⊢
      exact frR_up r f k a b hab h
/-- all orders of the reference -/
def qoN (M : sM) : Nat := frC (qHeld M) (qc M)
def qoR (M : sM) : Nat → Int := frR (M 276) (qHeld M) (qc M)
def qoV (M : sM) (k : Nat) : Int := qRB M (rowN (qoR M) (qoN M) k) (qoN M)
theorem qoN_r {M : sM} (hT : TInv M) : qoN M ≤ 6 := by
  have h1 := frC_le (qHeld M) (qc M)
  have h2 := qc_r hT
  unfold qoN
  omega
theorem qoR_up (M : sM) : ∀ a b, a < b → b < qoN M → qoR M a < qoR M b := frR_up _ _ _
theorem qoV_r {M : sM} (hT : TInv M) (k : Nat) : 0 ≤ qoV M k ∧ qoV M k ≤ 6 := by
  have h : 0 ≤ qoV M k ∧ qoV M k ≤ qc (qrb M (rowN (qoR M) (qoN M) k) (qoN M)) := cnt_r _ _
  have e : qc (qrb M (rowN (qoR M) (qoN M) k) (qoN M)) = qc M := by unfold qc; rw [qrb_c _ _ (by decide) (by decide)]
  have h2 := qc_r hT
  rw [e] at h
  omega
def qrOrder (M : sM) (k : Int) : Int :=
  if k < -1 then -10 else if k = -1 then mxV (qoV M) (eN (qoN M) + 1) else if k < (qoN M : Int) then rowN (qoR M) (qoN M) (mxI (qoV M) (eN (qoN M) + 1)) k.toNat else -5
def qoAw (M M1 : sM) : Prop := ∀ c, c ≠ 273 → c ≠ 276 → c ≠ 277 → M1 c = M c
theorem qoAw_ag {M M1 : sM} (h : qoAw M M1) : qAg (qLay M1 273 0) M := fun c h1 h2 => (qLay_ag M1 0 c h1 h2).trans (h c (by omega) (by omega) (by omega))
/-- the rows so far -/
def mqF (M : sM) (k : Nat) : sM := sSr M 276 (frR (M 276) (qHeld M) k)
theorem mqF_0 (M : sM) : M = mqF M 0 := by
  unfold mqF
  exact (sSr_id M 276).symm
theorem mqF_n {M : sM} {k : Nat} (h : qHeld M k ≠ -1) : mqF M k = mqF M (k + 1) := by
  unfold mqF
  rw [show frR (M 276) (qHeld M) (k + 1) = frR (M 276) (qHeld M) k from if_neg h]
theorem mqF_y {M : sM} {k : Nat} (h : qHeld M k = -1) : sSt (mqF M k) 276 (frC (qHeld M) k) k = mqF M (k + 1) := by
  have e : frR (M 276) (qHeld M) (k + 1) = fun j => if j = frC (qHeld M) k then (k : Int) else frR (M 276) (qHeld M) k j := if_pos h
  funext c j
  unfold mqF
  rw [e, sSt_at, sSr_at, sSr_at]
  by_cases hc : c = 276
  · rw [if_pos hc, if_pos hc]
    by_cases hj : j = frC (qHeld M) k
    · rw [if_pos ⟨hc, hj⟩, if_pos hj]
    · rw [if_neg (fun z => hj z.2), if_neg hj]
  · rw [if_neg (fun z => hc z.1), if_neg hc, if_neg hc]
theorem frC_n {f : Nat → Int} {k : Nat} (h : f k ≠ -1) : frC f (k + 1) = frC f k := if_neg h
theorem frC_y {f : Nat → Int} {k : Nat} (h : f k = -1) : frC f (k + 1) = frC f k + 1 := if_pos h
theorem mqF_T {M : sM} (hT : TInv M) {k : Nat} (hk : k ≤ qc M) : TInv (mqF M k) := by
  have hc := qc_r hT
  refine tv_row hT (fun j => ?_)
  show (0 : Int) ≤ _ ∧ _ ≤ (5 : Int)
  have key : ∀ k, k ≤ qc M → 0 ≤ frR (M 276) (qHeld M) k j ∧ frR (M 276) (qHeld M) k j ≤ 5 := by
    intro k
    induction k with
    | zero => intro _; exact tv hT (k := 276) (j := j) rfl
    | succ k ih =>
      intro hk
      have := ih (by omega)
      unfold frR
      by_cases e : qHeld M k = -1
      · rw [if_pos e]
        show 0 ≤ (if j = frC (qHeld M) k then (k : Int) else frR (M 276) (qHeld M) k j) ∧ _ ≤ (5 : Int)
        split
        · omega
        · exact this
      · rw [if_neg e]; exact this
  exact key k hk
theorem swp6_is (M : sM) (a b : Nat) : sSt (sSt M 276 a (M 276 b)) 276 b (M 276 a) = sSr M 276 (swp (M 276) a b) := by
  funext c j
  rw [sSt_at, sSt_at, sSr_at]
  unfold swp
  by_cases hc : c = 276
  · subst hc
    by_cases h1 : j = b
    · rw [if_pos ⟨rfl, h1⟩, if_pos rfl, if_pos h1]
    · rw [if_neg (fun z => h1 z.2), if_pos rfl, if_neg h1]
      by_cases h2 : j = a
      · rw [if_pos ⟨rfl, h2⟩, if_pos h2]
      · rw [if_neg (fun z => h2 z.2), if_neg h2]
  · rw [if_neg (fun z => hc z.1), if_neg (fun z => hc z.1), if_neg hc]
theorem swp6_s (M : sM) (q : Nat → Int) (a b : Nat) : sSt (sSt (sSr M 276 q) 276 a (q b)) 276 b (q a) = sSr M 276 (swp q a b) := by
  have e := swp6_is (sSr M 276 q) a b
  rw [sSr_eq] at e
  rw [e]
  funext c
  unfold sSr
  by_cases hc : c = 276
  · rw [if_pos hc, if_pos hc]
  · rw [if_neg hc, if_neg hc, if_neg hc]
theorem qoAw_if {M X : sM} (h : qoAw M X) (P : Prop) [Decidable P] (r : Nat → Int) : qoAw M (if P then sSr X 276 r else X) := by
  intro c h1 h2 h3
  by_cases hp : P
  · rw [if_pos hp, sSr_ne h2]; exact h c h1 h2 h3
  · rw [if_neg hp]; exact h c h1 h2 h3
theorem qo_276 {X : sM} {r : Nat → Int} {n : Nat} (hx : X 276 = r) (hh : hasN r n) : (if hasN (X 276) n then sSr X 276 (nxt (X 276) n) else X) 276 = nxt r n := by
  rw [hx, if_pos hh, sSr_eq]
theorem qo_277 {X : sM} (P : Prop) [Decidable P] (r : Nat → Int) : (if P then sSr X 276 r else X) 277 = X 277 := by
  by_cases hp : P
  · rw [if_pos hp, sSr_ne (by decide)]
  · rw [if_neg hp]
theorem mxI_y {V : Nat → Int} {k : Nat} (h : V k > mxV V k) : mxI V (k + 1) = k := if_pos h
theorem mxI_n {V : Nat → Int} {k : Nat} (h : ¬ V k > mxV V k) : mxI V (k + 1) = mxI V k := if_neg h
theorem mxV_y {V : Nat → Int} {k : Nat} (h : V k > mxV V k) : mxV V (k + 1) = V k := if_pos h
theorem mxV_n {V : Nat → Int} {k : Nat} (h : ¬ V k > mxV V k) : mxV V (k + 1) = mxV V k := if_neg h
theorem mxV_s (V : Nat → Int) (k : Nat) : mxV V (k + 1) = if V k > mxV V k then V k else mxV V k := rfl
