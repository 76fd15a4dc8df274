/-! order: all rows give alike -/
theorem nea_more {p : Nat → Prop} [DecidablePred p] {d : Nat → Int} {a : Nat} : ∀ {b : Nat}, a ≤ b → (∀ k, a ≤ k → k < b → ¬ p k) → nea p d b = nea p d a
  | 0, h, _ => by rw [show a = 0 by omega]
  | b + 1, h, hn => by
    by_cases e : a = b + 1
    · rw [e]
    · have ih := nea_more (d := d) (a := a) (b := b) (by omega) (fun k h1 h2 => hn k h1 (by omega))
      show (if p b ∧ (nea p d b = -1 ∨ d b < d (nea p d b).toNat) then (b : Int) else nea p d b) = nea p d a
      rw [if_neg (fun z => hn b (by omega) (Nat.lt_succ_self b) z.1), ih]
theorem frR_eq (r q f : Nat → Int) : ∀ k j, j < frC f k → frR r f k j = frR q f k j
  | 0, j, h => absurd h (Nat.not_lt_zero j)
  | k + 1, j, h => by
    unfold frC at h
    unfold frR
    by_cases e : f k = -1
    · rw [if_pos e] at h
      rw [if_pos e, if_pos e]
      show (if j = frC f k then (k : Int) else frR r f k j) = (if j = frC f k then (k : Int) else frR q f k j)
      by_cases hj : j = frC f k
      · rw [if_pos hj, if_pos hj]
      · rw [if_neg hj, if_neg hj]; exact frR_eq r q f k j (by omega)
    · rw [if_neg e] at h
      rw [if_neg e, if_neg e]
      exact frR_eq r q f k j h
theorem rowN_eq {r q : Nat → Int} {n : Nat} (h : ∀ j, j < n → r j = q j) : ∀ k j, j < n → rowN r n k j = rowN q n k j
  | 0, j, hj => h j hj
  | k + 1, j, hj => by
    have ih := rowN_eq h k
    exact nxt_g (F := fun x => x) ih (fun a b ha hb => by rw [ih a ha, ih b hb]) j hj
theorem cnt_upd {p q : Nat → Prop} [DecidablePred p] [DecidablePred q] {a : Nat} (h : ∀ i, i ≠ a → (p i ↔ q i)) : ∀ {n : Nat}, a < n → cnt p n + (if q a then 1 else 0) = cnt q n + (if p a then 1 else 0)
  | 0, hn => absurd hn (Nat.not_lt_zero _)
  | n + 1, hn => by
    by_cases e : a = n
    · subst e
      have ec := cnt_c (p := p) (q := q) (n := a) (fun i hi => h i (by omega))
      by_cases hp : p a
      · by_cases hq : q a
        · rw [cnt_y hp, cnt_y hq, if_pos hp, if_pos hq, ec]
        · rw [cnt_y hp, cnt_n hq, if_pos hp, if_neg hq, ec]; omega
      · by_cases hq : q a
        · rw [cnt_n hp, cnt_y hq, if_neg hp, if_pos hq, ec]; omega
        · rw [cnt_n hp, cnt_n hq, if_neg hp, if_neg hq, ec]
    · have ih := cnt_upd h (n := n) (by omega)
      have en := h n (fun z => e z.symm)
      by_cases hp : p n
      · rw [cnt_y hp, cnt_y (en.mp hp)]; omega
      · rw [cnt_n hp, cnt_n (fun z => hp (en.mpr z))]; exact ih
theorem cnt_swp (P : Int → Prop) [DecidablePred P] {r : Nat → Int} {n a b : Nat} (ha : a < n) (hb : b < n) : cnt (fun q => P (swp r a b q)) n = cnt (fun q => P (r q)) n := by
  by_cases e : a = b
  · subst e
    refine cnt_c (fun i _ => ?_)
    unfold swp
    by_cases z : i = a
    · rw [if_pos z, z]
    · rw [if_neg z, if_neg z]
  · obtain ⟨f, hf⟩ : ∃ f : Int → Int, ∀ x, f x = if P x then 1 else 0 := ⟨fun x => if P x then 1 else 0, fun _ => rfl⟩
    have h1 : cnt (fun q => P (if q = b then r a else r q)) n + f (r b) = cnt (fun q => P (r q)) n + f (if b = b then r a else r b) := by
      rw [hf, hf]
      exact cnt_upd (p := fun q => P (if q = b then r a else r q)) (q := fun q => P (r q)) (a := b) (fun i hi => by rw [if_neg hi]) hb
    have h2 : cnt (fun q => P (swp r a b q)) n + f (if a = b then r a else r a) = cnt (fun q => P (if q = b then r a else r q)) n + f (swp r a b a) := by
      rw [hf, hf]
      exact cnt_upd (p := fun q => P (swp r a b q)) (q := fun q => P (if q = b then r a else r q)) (a := a) (fun i hi => by unfold swp; rw [if_neg hi]) ha
    have e3 : swp r a b a = r b := by unfold swp; rw [if_neg e, if_pos rfl]
    rw [if_pos rfl] at h1
    rw [if_neg e, e3] at h2
    omega
theorem cnt_rvs (P : Int → Prop) [DecidablePred P] {n : Nat} : ∀ (f : Nat) {r : Nat → Int} {a b : Nat}, b < n → cnt (fun q => P (rvs f r a b q)) n = cnt (fun q => P (r q)) n
  | 0, _, _, _, _ => rfl
  | f + 1, r, a, b, hb => by
    by_cases e : a < b
    · rw [rvs_y e, cnt_rvs P f (by omega), cnt_swp P (by omega) hb]
    · rw [rvs_n e]
theorem cnt_nxt (P : Int → Prop) [DecidablePred P] (r : Nat → Int) (n : Nat) : cnt (fun q => P (nxt r n q)) n = cnt (fun q => P (r q)) n := by
  by_cases h0 : n = 0
  · rw [h0]; rfl
  · have hp := pvt_r r (n - 1)
    have hx := jx_le r (r (pvt r (n - 1)).toNat) (pvt r (n - 1)).toNat (n - 1)
    unfold nxt
    rw [cnt_rvs P n (by omega), cnt_swp P (by omega) (by omega)]
theorem cnt_row (P : Int → Prop) [DecidablePred P] (r : Nat → Int) (n : Nat) : ∀ k, cnt (fun q => P (rowN r n k q)) n = cnt (fun q => P (r q)) n
  | 0 => rfl
  | k + 1 => (cnt_nxt P (rowN r n k) n).trans (cnt_row P r n k)
theorem obL_sub {d : Nat → Nat → Int} {r : Nat → Int} {sh : Nat} : ∀ k s, (obL d r sh k).testBit s = true → sh.testBit s = true
  | 0, _, h => h
  | k + 1, s, h => by
    unfold obL at h
    by_cases e : obL d r sh k = 0
    · rw [if_pos e] at h
      rw [Nat.zero_testBit] at h; exact absurd h (by decide)
    · rw [if_neg e] at h
      exact obL_sub k s (sDel_bit h)
theorem neaS_bit {d : Nat → Nat → Int} {i left : Nat} (h : neaS d i left ≠ -1) : left.testBit (neaS d i left).toNat = true := nea_p (p := fun s => left.testBit s = true) h
theorem obO_le {d : Nat → Nat → Int} {r : Nat → Int} {sh : Nat} (hr : ∀ k, -1 < r k ∨ True) : ∀ k, (∀ j, j < k → 0 ≤ r j) → obO d r sh k ≤ cnt (fun q => sh.testBit (r q).toNat = true) k
  | 0, _ => Int.le_refl 0
  | k + 1, h0 => by
    have ih := obO_le (d := d) (sh := sh) hr k (fun j hj => h0 j (by omega))
    have hk := h0 k (Nat.lt_succ_self k)
    have step : ∀ c : Int, 0 ≤ c → c ≤ 1 → (c = 1 → sh.testBit (r k).toNat = true) → obO d r sh k + c ≤ cnt (fun q => sh.testBit (r q).toNat = true) (k + 1) := fun c h1 h2 h3 => by
      by_cases hb : sh.testBit (r k).toNat = true
      · rw [cnt_y (p := fun q => sh.testBit (r q).toNat = true) hb]; omega
      · rw [cnt_n (p := fun q => sh.testBit (r q).toNat = true) hb]
        have : c ≠ 1 := fun z => hb (h3 z)
        omega
    unfold obO
    by_cases e : obL d r sh k = 0
    · rw [if_pos e]
      have := step 0 (by decide) (by decide) (fun z => absurd z (by decide))
      rw [Int.add_zero] at this
      exact this
    · rw [if_neg e]
      by_cases e2 : neaS d (r k).toNat (obL d r sh k) = r k
      · rw [if_pos e2]
        refine step 1 (by decide) (by decide) (fun _ => ?_)
        have hb := neaS_bit (d := d) (i := (r k).toNat) (left := obL d r sh k) (by rw [e2]; omega)
        rw [e2] at hb
        exact obL_sub k _ hb
      · rw [if_neg e2]
        exact step 0 (by decide) (by decide) (fun z => absurd z (by decide))
theorem mx_sh {V W : Nat → Int} {c : Int} (hc : 0 ≤ c) (hV : ∀ k, 0 ≤ V k) (hW : ∀ k, W k = V k + c) : ∀ k, mxV W (k + 1) = mxV V (k + 1) + c ∧ mxI W (k + 1) = mxI V (k + 1)
  | 0 => by
    have h0 := hV 0
    have hw := hW 0
    have a1 : mxV W 1 = W 0 := if_pos (show W 0 > -1 by omega)
    have a2 : mxV V 1 = V 0 := if_pos (show V 0 > -1 by omega)
    have a3 : mxI W 1 = 0 := if_pos (show W 0 > -1 by omega)
    have a4 : mxI V 1 = 0 := if_pos (show V 0 > -1 by omega)
    rw [a1, a2, a3, a4]
    exact ⟨hw, rfl⟩
  | k + 1 => by
    obtain ⟨i1, i2⟩ := mx_sh hc hV hW k
    have hw := hW (k + 1)
    show (if W (k + 1) > mxV W (k + 1) then W (k + 1) else mxV W (k + 1)) = (if V (k + 1) > mxV V (k + 1) then V (k + 1) else mxV V (k + 1)) + c ∧ (if W (k + 1) > mxV W (k + 1) then k + 1 else mxI W (k + 1)) = (if V (k + 1) > mxV V (k + 1) then k + 1 else mxI V (k + 1))
    rw [i1, i2]
    by_cases z : V (k + 1) > mxV V (k + 1)
    · rw [if_pos z, if_pos z, if_pos (by omega), if_pos (by omega)]; exact ⟨hw, rfl⟩
    · rw [if_neg z, if_neg z, if_neg (by omega), if_neg (by omega)]; exact ⟨rfl, rfl⟩
theorem mx_top {V : Nat → Int} {H : Int} (h : ∀ k, V k ≤ H) {K : Nat} (hK : H ≤ mxV V K) : ∀ j, mxV V (K + j) = mxV V K ∧ mxI V (K + j) = mxI V K
  | 0 => ⟨rfl, rfl⟩
  | j + 1 => by
    obtain ⟨i1, i2⟩ := mx_top h hK j
    have hk := h (K + j)
    show (if V (K + j) > mxV V (K + j) then V (K + j) else mxV V (K + j)) = _ ∧ (if V (K + j) > mxV V (K + j) then K + j else mxI V (K + j)) = _
    rw [i1, i2, if_neg (by omega), if_neg (by omega)]
    exact ⟨rfl, rfl⟩
section RM
variable {M N : sM} {L : sL}
/-- behind k of a row's callings -/
theorem qrb_r (hT : TInv M) (h : RelC M N 1) {r : Nat → Int} {n : Nat} (hr : rIn n (nC M 1) r) : ∀ k, k ≤ n →
    (∀ s, s < nS M 1 → (qrb N r k 263 s = -1 ↔ (obL (fun s i => bDst M 1 s i) r (ordS M) k).testBit s = true)) ∧ (∀ s, s < nS M 1 → qrb N r k 263 s = -1 → qrb N r k 264 s = -1) ∧
    qRig (qrb N r k) = bRig M 1 + obO (fun s i => bDst M 1 s i) r (ordS M) k
  | 0, _ => by
    refine ⟨fun s hs => ?_, fun s hs z => ?_, ?_⟩
    · show N 263 s = -1 ↔ (shlB M (nS M 1)).testBit s = true
      rw [rc_sh hT ho1 h hs]
      unfold shlB
      rw [bits_t, decide_eq_true_iff]
      exact ⟨fun z => ⟨hs, z⟩, fun z => z.2⟩
    · have q := (rc_sh hT ho1 h hs).mp z
      show N 264 s = -1
      rw [(h.2.2.2.2.1 s hs).2.1]
      exact q.2
    · show qRig N = _ + 0
      rw [rc_rig hT ho1 h, Int.add_zero]
  | k + 1, hk => by
    obtain ⟨i1, i2, i3⟩ := qrb_r hT h hr k (by omega)
    have rk := hr k (by omega)
    have r1 := nS_r hT ho1
    have r2 := nC_r hT ho1
    have hS := ordS_r hT
    have hl := obL_lt (d := fun s i => bDst M 1 s i) (r := r) hS.1 k
    have hn := obL_n (d := fun s i => bDst M 1 s i) (r := r) hS.1 hS.2 k
    generalize hleft : obL (fun s i => bDst M 1 s i) r (ordS M) k = left at i1 hl hn
    generalize hA : qrb N r k = A at i1 i2 i3
    have eA : ∀ c, c ≠ 263 → c ≠ 264 → A c = N c := fun c h1 h2 => by rw [← hA]; exact qrb_c N r h1 h2 k
    have enA : qn A = nS M 1 := by unfold qn; rw [eA 258 (by decide) (by decide)]; exact rc_n h
    have ecA : qc A = nC M 1 := by unfold qc; rw [eA 258 (by decide) (by decide)]; exact rc_m h
    have ed : ∀ s, s < nS M 1 → qDst A s (r k).toNat = bDst M 1 s (r k).toNat := fun s hs => by
      rw [← rc_dst hT ho1 h hs rk.2]
      unfold qDst
      rw [eA 261 (by decide) (by decide), eA 262 (by decide) (by decide), eA 265 (by decide) (by decide), eA 266 (by decide) (by decide), eA 258 (by decide) (by decide)]
    have bhi : ∀ s, nS M 1 ≤ s → ¬ left.testBit s = true := fun s hs z => by
      rw [Nat.testBit_lt_two_pow (Nat.lt_of_lt_of_le hn (Nat.pow_le_pow_right (by decide) hs))] at z; exact absurd z (by decide)
    have en : qNea A (r k).toNat = neaS (fun s i => bDst M 1 s i) (r k).toNat left := by
      unfold qNea neaS
      rw [enA, nea_more (p := fun s => left.testBit s = true) r1.1 (fun s h1 _ => bhi s h1)]
      exact nea_c (fun s hs => i1 s hs) (fun s hs _ => ed s hs)
    have eq1 : qrb N r (k + 1) = if qNea A (r k).toNat = -1 then A else qTk A (r k).toNat (qNea A (r k).toNat).toNat := by rw [← hA]; rfl
    have eq2 : obL (fun s i => bDst M 1 s i) r (ordS M) (k + 1) = if left = 0 then 0 else sDel left (2 ^ (neaS (fun s i => bDst M 1 s i) (r k).toNat left).toNat) := by rw [← hleft]; rfl
    have eq3 : obO (fun s i => bDst M 1 s i) r (ordS M) (k + 1) = if left = 0 then obO (fun s i => bDst M 1 s i) r (ordS M) k else obO (fun s i => bDst M 1 s i) r (ordS M) k + (if neaS (fun s i => bDst M 1 s i) (r k).toNat left = r k then 1 else 0) := by rw [← hleft]; rfl
    rw [eq1, eq2, eq3, en]
    by_cases e : left = 0
    · have e1 : neaS (fun s i => bDst M 1 s i) (r k).toNat left = -1 := Classical.byContradiction fun z => by
        have := neaS_bit z
        rw [e, Nat.zero_testBit] at this; exact absurd this (by decide)
      rw [if_pos e1, if_pos e, if_pos e]
      rw [e] at i1
      exact ⟨i1, i2, i3⟩
    · have hx := neaS_r (d := fun s i => bDst M 1 s i) (i := (r k).toNat) hl e
      have e1 : neaS (fun s i => bDst M 1 s i) (r k).toNat left ≠ -1 := by omega
      have hb := neaS_bit e1
      rw [if_neg e1, if_neg e, if_neg e]
      generalize neaS (fun s i => bDst M 1 s i) (r k).toNat left = x at hx e1 hb
      have hs : x.toNat < nS M 1 := Nat.lt_of_not_le fun z => bhi _ z hb
      have s64 : 2 ^ x.toNat < 64 := Nat.lt_of_lt_of_le (Nat.pow_lt_pow_right (by decide) (show x.toNat < 6 by omega)) (by decide)
      refine ⟨fun t ht => ?_, fun t ht => ?_, ?_⟩
      · show (if t = x.toNat then (-2 : Int) else A 263 t) = -1 ↔ _
        rw [sDel_t _ hl _ s64 t (by omega), Nat.testBit_two_pow]
        by_cases z : t = x.toNat
        · rw [if_pos z, z]; simp
        · rw [if_neg z, i1 t ht]
          have : ¬ x.toNat = t := fun q => z q.symm
          simp [this]
      · show (if t = x.toNat then (-2 : Int) else A 263 t) = -1 → (if t = x.toNat then (((r k).toNat : Nat) : Int) else A 264 t) = -1
        by_cases z : t = x.toNat
        · rw [if_pos z]; exact fun q => absurd q (by decide)
        · rw [if_neg z, if_neg z]; exact i2 t ht
      · have h4 := i2 _ hs ((i1 _ hs).mpr hb)
        have e258 : A 258 1 = M 1 9 := by rw [eA 258 (by decide) (by decide)]; exact h.1.1
        show cnt (fun i => (i : Int) < A 258 1 ∧ (if i = x.toNat then (((r k).toNat : Nat) : Int) else A 264 i) = i) (qc A) = _
        have i3' : cnt (fun i => (i : Int) < A 258 1 ∧ A 264 i = i) (qc A) = bRig M 1 + obO (fun s i => bDst M 1 s i) r (ordS M) k := i3
        by_cases z : x = r k
        · rw [if_pos z, ← Int.add_assoc, ← i3']
          refine cnt_up (p := fun i => (i : Int) < A 258 1 ∧ A 264 i = i) (q := fun i => (i : Int) < A 258 1 ∧ (if i = x.toNat then (((r k).toNat : Nat) : Int) else A 264 i) = i) (j := x.toNat) ?_ ?_ (fun i hi => ?_) ?_
          · intro w; have := w.2; omega
          · refine ⟨by rw [e258]; omega, ?_⟩
            rw [if_pos rfl, z]
          · rw [if_neg hi]
          · rw [ecA, z]; exact rk.2
        · rw [if_neg z, Int.add_zero, ← i3']
          refine cnt_c (fun i _ => ?_)
          by_cases w : i = x.toNat
          · rw [if_pos w, w]
            exact ⟨fun q => absurd q.2 (by omega), fun q => absurd q.2 (by omega)⟩
          · rw [if_neg w]
theorem e_order (hT : TInv M) (h : RelC M N 1) {k : Int} (hk : -1 ≤ k) {K : Nat} {M1 : sM} (hK : oRes2 M K M1) :
    (if k = -1 then mxV (ordV M) K + bRig M 1 else if k < ordN M then rowN (ordR M) (ordN M) (mxI (ordV M) K) k.toNat else -5) = qrOrder N k := by
  have eH : qHeld N = bHeld M 1 := funext fun i => rc_held h i
  have eN' : qoN N = ordN M := by unfold qoN ordN; rw [eH, rc_m h]
  have hn := (ordN_r hT).2
  have eR : ∀ j, j < ordN M → qoR N j = ordR M j := fun j hj => by
    unfold qoR ordR
    rw [eH, rc_m h]
    exact frR_eq _ _ _ _ j hj
  have hR : ∀ a b, a < b → b < ordN M → ordR M a < ordR M b := frR_up _ _ _
  have hin : rIn (ordN M) (nC M 1) (ordR M) := frR_in _ _ _
  have hrow : ∀ i j, j < ordN M → rowN (qoR N) (ordN M) i j = rowN (ordR M) (ordN M) i j := rowN_eq eR
  have hW : ∀ i, qoV N i = ordV M i + bRig M 1 := fun i => by
    unfold qoV qRB
    rw [eN']
    have hin2 : rIn (ordN M) (nC M 1) (rowN (ordR M) (ordN M) i) := rowN_in hin i
    have hin3 : rIn (ordN M) (nC M 1) (rowN (qoR N) (ordN M) i) := fun j hj => by rw [hrow i j hj]; exact hin2 j hj
    rw [(qrb_r hT h hin3 (ordN M) (Nat.le_refl _)).2.2]
    have hS := ordS_r hT
    have := (ob_cg (r := rowN (qoR N) (ordN M) i) (r2 := rowN (ordR M) (ordN M) i) (d := fun s i => bDst M 1 s i) (e := fun s i => bDst M 1 s i) (m := nC M 1) hS.1 hS.2 (fun _ _ _ _ => rfl) (ordN M) (fun j hj => ⟨hrow i j hj, (hin3 j hj).2⟩)).2
    rw [this, Int.add_comm]; rfl
  have hV := fun i => ordV_r hT i
  have hH : ∀ i, ordV M i ≤ ordH M := fun i => by
    have hin2 : rIn (ordN M) (nC M 1) (rowN (ordR M) (ordN M) i) := rowN_in hin i
    have a := obO_le (d := fun s i => bDst M 1 s i) (r := rowN (ordR M) (ordN M) i) (sh := ordS M) (fun _ => Or.inr trivial) (ordN M) (fun j hj => (hin2 j hj).1)
    rw [cnt_row (fun x => (ordS M).testBit x.toNat = true) (ordR M) (ordN M) i] at a
    exact a
  have hend := rows_end hn hR
  obtain ⟨⟨⟨k1, k2, k3⟩, _⟩, hall⟩ := hK
  have he := eN_r _ hn
  have hle : K ≤ eN (ordN M) + 1 := Nat.le_of_not_lt fun z => by
    have := (hend (eN (ordN M)) (Nat.le_refl _)).mp (hall _ (by omega))
    omega
  have hmx : mxV (ordV M) (eN (ordN M) + 1) = mxV (ordV M) K ∧ mxI (ordV M) (eN (ordN M) + 1) = mxI (ordV M) K := by
    rcases k3 with z | z | z
    · rw [show eN (ordN M) + 1 = K by omega]; exact ⟨rfl, rfl⟩
    · have := mx_top hH z (eN (ordN M) + 1 - K)
      rw [show K + (eN (ordN M) + 1 - K) = eN (ordN M) + 1 by omega] at this
      exact this
    · have : ¬ K - 1 < eN (ordN M) := fun w => z ((hend (K - 1) (by omega)).mpr w)
      rw [show eN (ordN M) + 1 = K by omega]; exact ⟨rfl, rfl⟩
  have hc : 0 ≤ bRig M 1 := (cnt_r _ _).1
  have hs := mx_sh hc (fun i => (hV i).1) hW (eN (ordN M))
  unfold qrOrder
  rw [eN', if_neg (show ¬ k < -1 by omega), hs.1, hs.2, hmx.1, hmx.2]
  by_cases z1 : k = -1
  · rw [if_pos z1, if_pos z1]
  · rw [if_neg z1, if_neg z1]
    by_cases z2 : k < (ordN M : Int)
    · rw [if_pos z2, if_pos z2]
      exact (hrow _ _ (by omega)).symm
    · rw [if_neg z2, if_neg z2]
end RM
