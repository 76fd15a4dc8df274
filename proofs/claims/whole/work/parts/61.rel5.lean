/-! a tide, a walk, a call, a return: the relation stays -/
abbrev isO (o : Nat) : Prop := o = 1 ∨ o = 49
theorem isO_B {o : Nat} (h : isO o) : isB o := by unfold isB; omega
section RF
variable {M N : sM} {L : sL}
theorem moc_flo {n m : Nat} {c h d p g e cu cv : Nat → Int} (hcu : ∀ a, a < 12 → cv a = cu a) (hr : ∀ s, -1 ≤ c s ∧ c s ≤ 11) (k : MoC n m c h d p g e) :
    MoC n m (fun s => if s < n ∧ c s ≠ -1 then dri cu (c s) else c s) h (fun s => if s < n ∧ c s = -1 ∧ h s = -1 then min (d s + 1) 99 else d s)
      (fun s => if s < n ∧ 0 ≤ p s then dri cv (p s) else p s) g (fun s => if s < n ∧ p s = -1 then min 99 (e s + 1) else e s) := by
  refine ⟨fun s hs => ?_, k.2⟩
  obtain ⟨k1, k2, k3, k4, k5⟩ := k.1 s hs
  have r := hr s
  show (if s < n ∧ 0 ≤ p s then dri cv (p s) else p s) = plc (if s < n ∧ c s ≠ -1 then dri cu (c s) else c s) (h s) ∧ g s = h s ∧ (if s < n ∧ p s = -1 then min 99 (e s + 1) else e s) = (if s < n ∧ c s = -1 ∧ h s = -1 then min (d s + 1) 99 else d s) ∧ ((if s < n ∧ c s ≠ -1 then dri cu (c s) else c s) = -1 ∨ h s = -1) ∧ h s < m
  by_cases hc : c s = -1
  · have e1 : ¬ (s < n ∧ c s ≠ -1) := fun z => z.2 hc
    rw [if_neg e1]
    rw [k1, hc]
    by_cases hh : h s = -1
    · rw [hh, show plc (-1) (-1) = -1 from rfl, if_neg (by omega), if_pos ⟨hs, rfl⟩, if_pos ⟨hs, rfl, rfl⟩, k3]
      exact ⟨rfl, by rw [k2, hh], by omega, Or.inl rfl, by omega⟩
    · have e2 : plc (-1) (h s) = -2 := by unfold plc; rw [if_neg (by omega), if_neg hh]
      rw [e2, if_neg (by omega), if_neg (by omega), if_neg (fun z => hh z.2.2), k3]
      exact ⟨rfl, k2, rfl, Or.inl rfl, k5⟩
  · have e1 : s < n ∧ c s ≠ -1 := ⟨hs, hc⟩
    have e3 : p s = c s := by rw [k1]; exact plc_c hc
    rw [if_pos e1, e3, if_pos ⟨hs, by omega⟩, if_neg (by omega), if_neg (fun z => hc z.2.1), k3]
    have r2 := dri_r cu (c s)
    have r3 : dri cv (c s) = dri cu (c s) := dri_c hcu (by omega)
    rw [r3]
    exact ⟨(plc_c (by omega)).symm, k2, rfl, Or.inr (by omega), k5⟩
theorem rc_flo {o : Nat} (ho : isO o) (hr : ∀ s, -1 ≤ M (o + 6) s ∧ M (o + 6) s ≤ 11) (h : RelC M N o) : RelC (bFlo M o) (qPas N) o := by
  have en : qn N = nS M o := rc_n h
  obtain ⟨⟨c1, c2, c3, c4⟩, c5, c6, c7, c8⟩ := h
  have q := moc_flo c5 hr c8
  rw [← en] at q
  rcases ho with rfl | rfl
  · exact ⟨⟨c1, c2, congrArg (· + 1) c3, c4⟩, c5, c6, c7, by rw [en] at q; unfold qPas qpN; rw [en]; exact q⟩
  · exact ⟨⟨c1, c2, congrArg (· + 1) c3, c4⟩, c5, c6, c7, by rw [en] at q; unfold qPas qpN; rw [en]; exact q⟩
theorem moc_gat {n m : Nat} {c h d p g e : Nat → Int} {x : Int} (hx : 0 ≤ x) (hr : ∀ s, -1 ≤ c s ∧ c s ≤ 11) (k : MoC n m c h d p g e) :
    MoC n m (fun s => if s < n ∧ c s = x then -1 else c s) h (fun s => if s < n ∧ c s = x then 0 else d s)
      (fun s => if s < n ∧ p s = x then -1 else p s) g (fun s => if s < n ∧ p s = x then 0 else e s) := by
  refine ⟨fun s hs => ?_, k.2⟩
  obtain ⟨k1, k2, k3, k4, k5⟩ := k.1 s hs
  have r := hr s
  show (if s < n ∧ p s = x then -1 else p s) = plc (if s < n ∧ c s = x then -1 else c s) (h s) ∧ g s = h s ∧ (if s < n ∧ p s = x then 0 else e s) = (if s < n ∧ c s = x then 0 else d s) ∧ ((if s < n ∧ c s = x then -1 else c s) = -1 ∨ h s = -1) ∧ h s < m
  have e1 : p s = x ↔ c s = x := by
    rw [k1]
    unfold plc
    (repeat' split) <;> omega
  rw [if_congr' (show (s < n ∧ p s = x) ↔ (s < n ∧ c s = x) from and_congr Iff.rfl e1), if_congr' (show (s < n ∧ p s = x) ↔ (s < n ∧ c s = x) from and_congr Iff.rfl e1)]
  by_cases hc : c s = x
  · rw [if_pos ⟨hs, hc⟩, if_pos ⟨hs, hc⟩, if_pos ⟨hs, hc⟩, if_pos ⟨hs, hc⟩]
    have hh : h s = -1 := by omega
    rw [hh]
    exact ⟨rfl, by omega, rfl, Or.inr rfl, by omega⟩
  · rw [if_neg (fun z => hc z.2), if_neg (fun z => hc z.2), if_neg (fun z => hc z.2), if_neg (fun z => hc z.2)]
    exact ⟨k1, k2, k3, k4, k5⟩
theorem rc_gat {o : Nat} (ho : isO o) (hr : ∀ s, -1 ≤ M (o + 6) s ∧ M (o + 6) s ≤ 11) (d : Int) (h : RelC M N o) : RelC (bGat M o d) (qGa N d) o := by
  have en : qn N = nS M o := rc_n h
  obtain ⟨⟨c1, c2, c3, c4⟩, c5, c6, c7, c8⟩ := h
  have ec : qCl N d = max 0 (min 11 (M (o + 5) 3 + d)) := by unfold qCl; rw [c4]
  have q := moc_gat (x := max 0 (min 11 (M (o + 5) 3 + d))) (by omega) hr c8
  unfold bGat qGa
  rw [ec, en]
  rcases ho with rfl | rfl
  · exact ⟨⟨c1, c2, c3, rfl⟩, c5, c6, c7, q⟩
  · exact ⟨⟨c1, c2, c3, rfl⟩, c5, c6, c7, q⟩
theorem moc_tk {n m : Nat} {c h d p g e : Nat → Int} {s i : Nat} (hc : c s = -1) (hi : i < m) (hu : ∀ t, t < n → h t ≠ i) (k : MoC n m c h d p g e) :
    MoC n m c (fun t => if t = s then (i : Int) else h t) d (fun t => if t = s then -2 else p t) (fun t => if t = s then (i : Int) else g t) e := by
  refine ⟨fun t ht => ?_, fun t u ht hu2 => ?_⟩
  · obtain ⟨k1, k2, k3, k4, k5⟩ := k.1 t ht
    show (if t = s then -2 else p t) = plc (c t) (if t = s then (i : Int) else h t) ∧ (if t = s then (i : Int) else g t) = (if t = s then (i : Int) else h t) ∧ e t = d t ∧ (c t = -1 ∨ (if t = s then (i : Int) else h t) = -1) ∧ (if t = s then (i : Int) else h t) < (m : Int)
    by_cases z : t = s
    · rw [if_pos z, if_pos z, if_pos z, z, hc]
      exact ⟨by unfold plc; rw [if_neg (by omega), if_neg (by omega)], rfl, by rw [← z]; exact k3, Or.inl rfl, by omega⟩
    · rw [if_neg z, if_neg z, if_neg z]
      exact ⟨k1, k2, k3, k4, k5⟩
  · show (if t = s then (i : Int) else h t) = (if u = s then (i : Int) else h u) → (if t = s then (i : Int) else h t) ≠ -1 → t = u
    have a1 := hu t ht
    have a2 := hu u hu2
    have a3 := k.2 t u ht hu2
    by_cases z : t = s
    · rw [if_pos z]
      by_cases z2 : u = s
      · rw [if_pos z2]; exact fun _ _ => by omega
      · rw [if_neg z2]; exact fun w _ => absurd w.symm a2
    · rw [if_neg z]
      by_cases z2 : u = s
      · rw [if_pos z2]; exact fun w _ => absurd w a1
      · rw [if_neg z2]; exact a3
theorem rc_tk {o : Nat} (ho : isO o) {s i : Nat} (hc : M (o + 6) s = -1) (hi : i < nC M o) (hu : ∀ t, t < nS M o → M (o + 7) t ≠ i) (h : RelC M N o) : RelC (sSt M (o + 7) s i) (qTk N i s) o := by
  obtain ⟨⟨c1, c2, c3, c4⟩, c5, c6, c7, c8⟩ := h
  have q := moc_tk hc hi hu c8
  rcases ho with rfl | rfl
  · exact ⟨⟨c1, c2, c3, c4⟩, c5, c6, c7, q⟩
  · exact ⟨⟨c1, c2, c3, c4⟩, c5, c6, c7, q⟩
theorem moc_rt {n m : Nat} {c h d p g e : Nat → Int} {s : Nat} (hc : c s = -1) (k : MoC n m c h d p g e) :
    MoC n m c (fun t => if t = s then -1 else h t) d (fun t => if t = s then -1 else p t) (fun t => if t = s then -1 else g t) e := by
  refine ⟨fun t ht => ?_, fun t u ht hu2 => ?_⟩
  · obtain ⟨k1, k2, k3, k4, k5⟩ := k.1 t ht
    show (if t = s then -1 else p t) = plc (c t) (if t = s then -1 else h t) ∧ (if t = s then -1 else g t) = (if t = s then -1 else h t) ∧ e t = d t ∧ (c t = -1 ∨ (if t = s then -1 else h t) = -1) ∧ (if t = s then -1 else h t) < (m : Int)
    by_cases z : t = s
    · rw [if_pos z, if_pos z, if_pos z, z, hc]
      exact ⟨rfl, rfl, by rw [← z]; exact k3, Or.inl rfl, by omega⟩
    · rw [if_neg z, if_neg z, if_neg z]
      exact ⟨k1, k2, k3, k4, k5⟩
  · show (if t = s then -1 else h t) = (if u = s then -1 else h u) → (if t = s then -1 else h t) ≠ -1 → t = u
    have a3 := k.2 t u ht hu2
    by_cases z : t = s
    · rw [if_pos z]; exact fun _ w => absurd rfl w
    · rw [if_neg z]
      by_cases z2 : u = s
      · rw [if_pos z2]; exact fun w w2 => absurd w w2
      · rw [if_neg z2]; exact a3
theorem rc_rt {s : Nat} (hc : M (1 + 6) s = -1) (h : RelC M N 1) : RelC (sSt M 8 s (-1)) (sSt (sSt N 263 s (-1)) 264 s (-1)) 1 := by
  obtain ⟨⟨c1, c2, c3, c4⟩, c5, c6, c7, c8⟩ := h
  exact ⟨⟨c1, c2, c3, c4⟩, c5, c6, c7, moc_rt hc c8⟩
/-! what may be undone -/
theorem rct_cg {M' N' : sM} (hT : TInv M) (hM : ∀ c j, 1 ≤ c → c < 17 → ¬ (c = 1 ∧ j = 11) → M' c j = M c j) (hN : ∀ k j, 258 ≤ k → k < 270 → ¬ (k = 258 ∧ j = 25) → N' k j = N k j) (h : RelX M N 1) : RelC M' N' 1 ∧ RelT M' N' 1 := by
  have q : RelX (fun c j => if 17 ≤ c ∨ (c = 1 ∧ j = 11) then M c j else M' c j) (fun k j => if 270 ≤ k ∨ (k = 258 ∧ j = 25) then N k j else N' k j) 1 := by
    refine rx_cg hT ho1 (fun i j l => ?_) (fun k j l => ?_) h
    · show (if 17 ≤ 1 + i ∨ (1 + i = 1 ∧ j = 11) then M (1 + i) j else M' (1 + i) j) = _
      by_cases z : 17 ≤ 1 + i ∨ (1 + i = 1 ∧ j = 11)
      · rw [if_pos z]
      · rw [if_neg z]; exact hM _ _ (by omega) (by omega) (by omega)
    · show (if 270 ≤ k ∨ (k = 258 ∧ j = 25) then N k j else N' k j) = _
      by_cases z : 270 ≤ k ∨ (k = 258 ∧ j = 25)
      · rw [if_pos z]
      · rw [if_neg z]; exact hN _ _ (by unfold lvp at l; omega) (by omega) (by omega)
  exact ⟨q.1, q.2.1⟩
theorem ru_cg {M' N' : sM} (hM : ∀ c, 17 ≤ c → c < 49 → M' c = M c) (h9 : M' 1 9 = M 1 9) (h10 : M' 1 10 = M 1 10) (h11 : M' 1 11 = M 1 11) (hN : N' 272 = N 272) (h25 : N' 258 25 = N 258 25) (h8 : M 1 11 ≤ 8) (h : RelU M N 1) : RelU M' N' 1 := by
  have n1 : nS M' 1 = nS M 1 := by unfold nS; rw [h9]
  have n2 : nC M' 1 = nC M 1 := by unfold nC; rw [h10]
  have n3 : nU M' 1 = nU M 1 := by unfold nU; rw [h11]
  refine ⟨by rw [h25, h11]; exact h.1, fun u hu => ?_⟩
  rw [n3] at hu
  have hu8 : u < 8 := by unfold nU at hu; omega
  rw [n1, n2, hN, hM _ (by omega) (by omega), hM _ (by omega) (by omega), hM _ (by omega) (by omega), hM _ (by omega) (by omega)]
  exact h.2 u hu
theorem qlay_at (b a j : Nat) : qLay N b a b j = if j = a then N 258 3 else if j = a + 1 then N 258 4 else if a + 2 ≤ j ∧ j < a + 2 + 6 then N 263 (j - (a + 2)) else if a + 8 ≤ j ∧ j < a + 8 + 6 then N 264 (j - (a + 8)) else if a + 14 ≤ j ∧ j < a + 14 + 6 then N 265 (j - (a + 14)) else N b j := congrFun sSr_eq j
theorem qlay_o {b a j : Nat} (h : j < a ∨ a + 20 ≤ j) : qLay N b a b j = N b j := by
  rw [qlay_at, if_neg (by omega), if_neg (by omega), if_neg (by omega), if_neg (by omega), if_neg (by omega)]
theorem qlay_0 {b a : Nat} : qLay N b a b a = N 258 3 := by rw [qlay_at, if_pos rfl]
theorem qlay_1 {b a : Nat} : qLay N b a b (a + 1) = N 258 4 := by rw [qlay_at, if_neg (by omega), if_pos rfl]
theorem qlay_p {b a s : Nat} (h : s < 6) : qLay N b a b (a + (2 + s)) = N 263 s := by
  rw [qlay_at, if_neg (by omega), if_neg (by omega), if_pos (by omega), show a + (2 + s) - (a + 2) = s by omega]
theorem qlay_h {b a s : Nat} (h : s < 6) : qLay N b a b (a + (8 + s)) = N 264 s := by
  rw [qlay_at, if_neg (by omega), if_neg (by omega), if_neg (by omega), if_pos (by omega), show a + (8 + s) - (a + 8) = s by omega]
theorem qlay_d {b a s : Nat} (h : s < 6) : qLay N b a b (a + (14 + s)) = N 265 s := by
  rw [qlay_at, if_neg (by omega), if_neg (by omega), if_neg (by omega), if_neg (by omega), if_pos (by omega), show a + (14 + s) - (a + 14) = s by omega]
/-- the moment at k of M is that at a of x -/
def Mo1 (M : sM) (k : Nat) (x : Nat → Int) (a n m : Nat) : Prop := x a = M k 4 ∧ x (a + 1) = M k 3 ∧ M k 4 ≤ 999 ∧ MoC n m (M (k + 1)) (M (k + 2)) (M (k + 3)) (fun s => x (a + (2 + s))) (fun s => x (a + (8 + s))) (fun s => x (a + (14 + s)))
theorem ru_mo {u : Nat} (h : RelU M N 1) (hu : u < nU M 1) : Mo1 M (17 + 4 * u) (N 272) (20 * u) (nS M 1) (nC M 1) := by
  have q := h.2 u hu
  rw [show 1 + 16 + 4 * u = 17 + 4 * u by omega, show 1 + 17 + 4 * u = 17 + 4 * u + 1 by omega, show 1 + 18 + 4 * u = 17 + 4 * u + 2 by omega, show 1 + 19 + 4 * u = 17 + 4 * u + 3 by omega] at q
  exact q
theorem mo_ru (h0 : N 258 25 = M 1 11) (h : ∀ u, u < nU M 1 → Mo1 M (17 + 4 * u) (N 272) (20 * u) (nS M 1) (nC M 1)) : RelU M N 1 := by
  refine ⟨h0, fun u hu => ?_⟩
  rw [show 1 + 16 + 4 * u = 17 + 4 * u by omega, show 1 + 17 + 4 * u = 17 + 4 * u + 1 by omega, show 1 + 18 + 4 * u = 17 + 4 * u + 2 by omega, show 1 + 19 + 4 * u = 17 + 4 * u + 3 by omega]
  exact h u hu
theorem mo_cg {M' : sM} {k k' : Nat} {x x' : Nat → Int} {a a' n m : Nat} (h0 : M' k' 3 = M k 3 ∧ M' k' 4 = M k 4) (h1 : ∀ i j, 1 ≤ i → i < 4 → j < n → M' (k' + i) j = M (k + i) j) (hx : ∀ i, i < 20 → x' (a' + i) = x (a + i)) (hn : n ≤ 6) (h : Mo1 M k x a n m) : Mo1 M' k' x' a' n m := by
  obtain ⟨b1, b2, b3, b4⟩ := h
  have hx0 := hx 0 (by decide)
  rw [Nat.add_zero, Nat.add_zero] at hx0
  refine ⟨by rw [hx0, h0.2, b1], by rw [hx 1 (by decide), h0.1, b2], by rw [h0.2]; exact b3, moc_cg (fun s hs => ⟨h1 1 s (by decide) (by decide) hs, h1 2 s (by decide) (by decide) hs, h1 3 s (by decide) (by decide) hs, hx _ (by omega), hx _ (by omega), hx _ (by omega)⟩) b4⟩
/-- now, laid aside -/
theorem mo_now {M' : sM} (hT : TInv M) (h : RelC M N 1) (h9 : M 6 4 ≤ 999) {k a b : Nat} (h0 : M' k 3 = M 6 3 ∧ M' k 4 = M 6 4) (h1 : ∀ i j, 1 ≤ i → i < 4 → j < 6 → M' (k + i) j = M (6 + i) j) : Mo1 M' k (qLay N b a b) a (nS M 1) (nC M 1) := by
  have r1 := nS_r hT ho1
  obtain ⟨⟨c1, c2, c3, c4⟩, c5, c6, c7, c8⟩ := h
  refine ⟨by rw [qlay_0, h0.2]; exact c3, by rw [qlay_1, h0.1]; exact c4, by rw [h0.2]; exact h9, moc_cg (fun s hs => ⟨h1 1 s (by decide) (by decide) (by omega), h1 2 s (by decide) (by decide) (by omega), h1 3 s (by decide) (by decide) (by omega), qlay_p (by omega), qlay_h (by omega), qlay_d (by omega)⟩) c8⟩
theorem mCp_0 (M : sM) (a b : Nat) : mCp M a b a 3 = M b 3 ∧ mCp M a b a 4 = M b 4 := by
  rw [mCp_at, mCp_at, if_pos (by omega), if_pos (by omega), Nat.sub_self]; exact ⟨rfl, rfl⟩
theorem mCp_i (M : sM) (a b : Nat) {i j : Nat} (h1 : 1 ≤ i) (h2 : i < 4) (hj : j < 6) : mCp M a b (a + i) j = M (b + i) j := by
  rw [mCp_at, if_pos (by omega), show a + i - a = i by omega]
theorem mCp_f (M : sM) (a b : Nat) {c : Nat} (h : c < a ∨ a + 4 ≤ c) : mCp M a b c = M c := if_neg (by omega)
theorem shf_0 (M : sM) {u : Nat} (hu : u < 7) : shf M 1 8 (17 + 4 * u) 3 = M (17 + 4 * (u + 1)) 3 ∧ shf M 1 8 (17 + 4 * u) 4 = M (17 + 4 * (u + 1)) 4 := by
  unfold shf
  rw [if_pos (by omega), show (17 + 4 * u - 1) % 4 = 0 by omega, show 17 + 4 * u + 4 = 17 + 4 * (u + 1) by omega]
  exact ⟨rfl, rfl⟩
theorem shf_i (M : sM) {u i j : Nat} (hu : u < 7) (h1 : 1 ≤ i) (h2 : i < 4) (hj : j < 6) : shf M 1 8 (17 + 4 * u + i) j = M (17 + 4 * (u + 1) + i) j := by
  unfold shf mrow
  rw [if_pos (by omega), show (17 + 4 * u + i - 1) % 4 = i by omega, show 17 + 4 * u + i + 4 = 17 + 4 * (u + 1) + i by omega]
  exact if_pos (by omega)
theorem ru_push (hT : TInv M) (h : RelX M N 1) (h9 : M 6 4 ≤ 999) : RelU (bRem M 1) (qNot N) 1 := by
  have r1 := nS_r hT ho1
  have r3 := nU_r hT ho1
  obtain ⟨hC, _, hU⟩ := h
  have e25 : N 258 25 = M 1 11 := hU.1
  have eu : qu N = nU M 1 := by unfold qu nU; rw [e25]
  unfold bRem qNot
  by_cases z : M 1 11 < 8
  · rw [if_pos z, if_neg (by omega), eu]
    have n3 : nU (sSt (mCp M (1 + 16 + 4 * nU M 1) (1 + 5)) 1 11 (M 1 11 + 1)) 1 = nU M 1 + 1 := by
      show (M 1 11 + 1).toNat = (M 1 11).toNat + 1
      omega
    have n1 : nS (sSt (mCp M (1 + 16 + 4 * nU M 1) (1 + 5)) 1 11 (M 1 11 + 1)) 1 = nS M 1 := by
      unfold nS; rw [sSt_nj (by decide), mCp_f _ _ _ (by omega)]
    have n2 : nC (sSt (mCp M (1 + 16 + 4 * nU M 1) (1 + 5)) 1 11 (M 1 11 + 1)) 1 = nC M 1 := by
      unfold nC; rw [sSt_nj (by decide), mCp_f _ _ _ (by omega)]
    refine mo_ru ?_ (fun u hu => ?_)
    · rw [sSt_eq, sSt_eq, e25]
    · rw [n3] at hu
      rw [n1, n2, show sSt (qLay N 272 (20 * nU M 1)) 258 25 (N 258 25 + 1) 272 = qLay N 272 (20 * nU M 1) 272 from sSt_ne (by decide)]
      by_cases e : u = nU M 1
      · rw [e]
        have e17 : 1 + 16 + 4 * nU M 1 = 17 + 4 * nU M 1 := by omega
        refine mo_now hT hC h9 ?_ (fun i j h1 h2 hj => ?_)
        · rw [sSt_ne (by omega), e17]; exact mCp_0 M _ _
        · rw [sSt_ne (by omega), e17, mCp_i M _ _ h1 h2 hj]
      · refine mo_cg ?_ (fun i j h1 h2 hj => ?_) (fun i hi => ?_) r1.1 (ru_mo hU (u := u) (by omega))
        · rw [sSt_ne (by omega), mCp_f _ _ _ (by omega)]; exact ⟨rfl, rfl⟩
        · rw [sSt_ne (by omega), mCp_f _ _ _ (by omega)]
        · exact qlay_o (by omega)
  · rw [if_neg z, if_pos (by omega)]
    have n3 : nU (sSt (mCp (shf M 1 8) (1 + 16 + 4 * 7) (1 + 5)) 1 11 8) 1 = 8 := rfl
    have n1 : nS (sSt (mCp (shf M 1 8) (1 + 16 + 4 * 7) (1 + 5)) 1 11 8) 1 = nS M 1 := rfl
    have n2 : nC (sSt (mCp (shf M 1 8) (1 + 16 + 4 * 7) (1 + 5)) 1 11 8) 1 = nC M 1 := rfl
    refine mo_ru rfl (fun u hu => ?_)
    rw [n3] at hu
    rw [n1, n2, show sSt (qLay (sSt (qsN N 140) 258 25 7) 272 140) 258 25 8 272 = qLay (sSt (qsN N 140) 258 25 7) 272 140 272 from sSt_ne (by decide)]
    by_cases e : u = 7
    · subst e
      have hC' : RelC M (sSt (qsN N 140) 258 25 7) 1 := hC
      refine mo_now hT hC' h9 ?_ (fun i j h1 h2 hj => ?_)
      · rw [sSt_ne (by omega)]; exact mCp_0 (shf M 1 8) _ _
      · rw [sSt_ne (by omega)]
        show mCp (shf M 1 8) (45 + 0) 6 (45 + i) j = _
        rw [Nat.add_zero, mCp_i _ _ _ h1 h2 hj, shf_out (by omega)]
    · refine mo_cg (M := M) (k := 17 + 4 * (u + 1)) (x := N 272) (a := 20 * (u + 1)) ?_ (fun i j h1 h2 hj => ?_) (fun i hi => ?_) r1.1 (ru_mo hU (u := u + 1) (by omega))
      · rw [sSt_ne (by omega), mCp_f _ _ _ (by omega)]; exact shf_0 M (by omega)
      · rw [sSt_ne (by omega), mCp_f _ _ _ (by omega)]; exact shf_i M (by omega) h1 h2 (by omega)
      · rw [qlay_o (by omega), sSt_ne (by decide)]
        show (if 20 * u + i < 140 then N 272 (20 * u + i + 20) else N 272 (20 * u + i)) = _
        rw [if_pos (by omega), show 20 * u + i + 20 = 20 * (u + 1) + i by omega]
end RF
