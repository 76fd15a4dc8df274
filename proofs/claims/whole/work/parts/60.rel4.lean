/-! the relation stays: refused, shore, current, soul, caller, text -/
section RE
variable {M N : sM} {L : sL}
theorem fr_0 {c j : Nat} {v : Int} (h : c ≠ 0) : sSt M 0 j v c = M c := sSt_ne h
theorem rel_bad (hT : TInv M) (h : Rel M N L) : Rel (sBad M) (qBad N) L ∧ Rel (sNo M) (qNo N) L ∧ Rel (sFul M) (qFul N) L := by
  obtain ⟨hx, h9, ⟨a1, a2⟩, ⟨b1, b2, b3⟩, c, ⟨d1, d2⟩, e⟩ := h
  have X : ∀ v w x y, RelX (sSt M 0 x v) (sSt N 259 y w) 1 := fun v w x y =>
    rx_cg hT ho1 (fun i j _ => congrFun (sSt_ne (by omega)) j) (fun k j l => congrFun (sSt_ne (by unfold lvp at l; omega)) j) hx
  have I : ∀ v w x y, RelI (sSt M 0 x v) (sSt N 259 y w) 0 ∧ RelI (sSt M 0 x v) (sSt N 259 y w) 1 := fun v w x y =>
    ⟨relI_cg (by decide) hT (fun c h1 h2 => sSt_ne (by omega)) rfl rfl d1, relI_cg (by decide) hT (fun c h1 h2 => sSt_ne (by omega)) rfl rfl d2⟩
  refine ⟨⟨X _ _ _ _, h9, ⟨a1, a2⟩, ⟨?_, b2, b3⟩, c, I _ _ _ _, e⟩, ⟨X _ _ _ _, h9, ⟨a1, a2⟩, ⟨b1, ?_, b3⟩, c, I _ _ _ _, e⟩, ⟨X _ _ _ _, h9, ⟨a1, a2⟩, ⟨b1, b2, ?_⟩, c, I _ _ _ _, e⟩⟩
  · show N 259 0 + 1 = M 0 10 + 1; rw [b1]
  · show N 259 1 + 1 = M 0 11 + 1; rw [b2]
  · show N 259 2 + 1 = M 0 12 + 1; rw [b3]
/-- nothing but the beach changes -/
theorem rest_b {M' N' : sM} (hT : TInv M) (hM : ∀ c, c < 1 ∨ 49 ≤ c → M' c = M c) (hN : ∀ c, c = 259 ∨ c = 270 ∨ c = 278 ∨ c = 279 → N' c = N c) (h19 : N' 258 19 = N 258 19) (h23 : N' 258 23 = N 258 23) (h : Rest M N L) : Rest M' N' L :=
  rest_cg hT (hM 0 (by decide)) (fun c h1 h2 => hM c (by omega)) hN h19 h23 rfl h
theorem ru_0 {o : Nat} (h1 : M o 11 = 0) (h2 : N 258 25 = 0) : RelU M N o :=
  ⟨by rw [h1, h2], fun u hu => by unfold nU at hu; rw [h1] at hu; exact absurd hu (Nat.not_lt_zero u)⟩
theorem s_shore (hT : TInv M) (h : Rel M N L) : Rel (bRes M 1) (qBeg N) L ∧ N 258 1 = M 1 9 := by
  refine ⟨⟨⟨⟨⟨rfl, rfl, rfl, rfl⟩, fun c hc => ?_, fun s hs => absurd hs (Nat.not_lt_zero s), fun s hs => absurd hs (Nat.not_lt_zero s), fun s hs => absurd hs (Nat.not_lt_zero s), fun s t hs => absurd hs (Nat.not_lt_zero s)⟩,
    ⟨⟨rfl, rfl, rfl⟩, fun j hj => ?_, fun j hj => ?_, fun j hj => ?_⟩, ru_0 rfl rfl⟩, ?_, rest_b hT (fun c hc => ?_) (fun c hc => ?_) rfl rfl h.2.2⟩, h.1.1.1.1⟩
  · show (if c < 12 then 0 else N 260 c) = (if c < 12 then 0 else M (1 + 1) c)
    rw [if_pos hc, if_pos hc]
  · exact absurd (show (j : Int) < 2 * 0 from hj) (by omega)
  · exact absurd (show (j : Int) < 4 * 0 from hj) (by omega)
  · exact absurd (show (j : Int) < 3 * 0 from hj) (by omega)
  · show (0 : Int) ≤ 999; decide
  · unfold bRes rsC
    rw [sSt_ne (by omega), sSt_ne (by omega), sSt_ne (by omega), sSt_ne (by omega), sSt_ne (by omega), sSt_ne (by omega), sSt_ne (by omega), sSt_ne (by omega), sSr_ne (by omega)]
  · unfold qBeg qBgN
    rw [sSr_ne (by omega), sSt_ne (by omega), sSt_ne (by omega), sSt_ne (by omega), sSt_ne (by omega), sSt_ne (by omega), sSt_ne (by omega), sSt_ne (by omega), sSt_ne (by omega)]
theorem s_cur (hT : TInv M) (h : Rel M N L) (c v : Int) : Rel (mCur M c v) (qmCur N c v) L ∧ qrCur N c v = rCur M c v := by
  unfold mCur qmCur qrCur rCur
  by_cases z : (0 ≤ c ∧ c ≤ 11) ∧ (-2 ≤ v ∧ v ≤ 2)
  · rw [if_pos z, if_pos z, if_pos z, if_pos z]
    have hx := h.1
    refine ⟨⟨⟨⟨hx.1.1, fun a ha => ?_, hx.1.2.2⟩, hx.2.1, ru_0 rfl rfl⟩, h.2.1, rest_b hT (fun a ha => ?_) (fun a ha => ?_) rfl rfl h.2.2⟩, hx.1.2.1 _ (by omega)⟩
    · show (if a = c.toNat then v else N 260 a) = (if a = c.toNat then v else M (1 + 1) a)
      rw [hx.1.2.1 a ha]
    · rw [sSt_ne (by omega), sSt_ne (by omega)]
    · rw [sSt_ne (by omega), sSt_ne (by omega)]
  · rw [if_neg z, if_neg z, if_neg z, if_neg z]
    exact ⟨(rel_bad hT h).1, rfl⟩
theorem x_soul (hT : TInv M) (k w c : Int) (hc : 0 ≤ c) (h : RelX M N 1) : RelX (bAdS (sSt M 1 11 0) 1 k w c) (qAdS N k w c) 1 := by
  obtain ⟨⟨⟨c1, c2, c3, c4⟩, c5, c6, c7, c8, c9⟩, d, u⟩ := h
  have r1 := nS_r hT ho1
  have en : qn N = nS M 1 := by unfold qn nS; rw [c1]
  have n1 : nS (bAdS (sSt M 1 11 0) 1 k w c) 1 = nS M 1 + 1 := by
    show (M 1 9 + 1).toNat = (M 1 9).toNat + 1
    omega
  have hlt : ∀ {s}, s < nS (bAdS (sSt M 1 11 0) 1 k w c) 1 → s ≠ nS M 1 → s < nS M 1 := fun hs hn => by omega
  refine ⟨⟨⟨?_, c2, c3, c4⟩, c5, fun s hs => ?_, c7, fun s hs => ?_, fun s t hs ht => ?_⟩, d, ru_0 rfl rfl⟩
  · show N 258 1 + 1 = M 1 9 + 1; rw [c1]
  · show (if s = qn N then k else N 261 s) = (if s = nS M 1 then k else M (1 + 2) s) ∧ (if s = qn N then w else N 262 s) = (if s = nS M 1 then w else M (1 + 3) s)
    rw [en]
    by_cases e : s = nS M 1
    · rw [if_pos e, if_pos e, if_pos e, if_pos e]; exact ⟨rfl, rfl⟩
    · rw [if_neg e, if_neg e, if_neg e, if_neg e]; exact c6 s (hlt hs e)
  · show (if s = qn N then c else N 263 s) = plc (if s = nS M 1 then c else M (1 + 6) s) (if s = nS M 1 then -1 else M (1 + 7) s) ∧ (if s = qn N then -1 else N 264 s) = (if s = nS M 1 then -1 else M (1 + 7) s) ∧ (if s = qn N then 0 else N 265 s) = (if s = nS M 1 then 0 else M (1 + 8) s) ∧ ((if s = nS M 1 then c else M (1 + 6) s) = -1 ∨ (if s = nS M 1 then -1 else M (1 + 7) s) = -1) ∧ (if s = nS M 1 then -1 else M (1 + 7) s) < (nC M 1 : Int)
    rw [en]
    by_cases e : s = nS M 1
    · simp only [if_pos e]
      exact ⟨(plc_c (by omega)).symm, trivial, trivial, Or.inr trivial, by omega⟩
    · simp only [if_neg e]; exact c8 s (hlt hs e)
  · show (if s = nS M 1 then -1 else M (1 + 7) s) = (if t = nS M 1 then -1 else M (1 + 7) t) → (if s = nS M 1 then -1 else M (1 + 7) s) ≠ -1 → s = t
    by_cases e : s = nS M 1
    · rw [if_pos e]; exact fun _ z => absurd rfl z
    · rw [if_neg e]
      by_cases e2 : t = nS M 1
      · rw [if_pos e2]; exact fun z1 z2 => absurd z1 z2
      · rw [if_neg e2]; exact c9 s t (hlt hs e) (hlt ht e2)
theorem s_soul (hT : TInv M) (h : Rel M N L) (k w c : Int) : Rel (mSoul M k w c) (qmSoul N k w c) L ∧ qrSoul N k w c = rSoul M k w c := by
  unfold mSoul qmSoul qrSoul rSoul
  have r1 := nS_r hT ho1
  have e1 : N 258 1 = M 1 9 := h.1.1.1.1
  rw [e1]
  by_cases z : okSoul k w c
  · rw [if_pos z, if_pos z, if_pos z, if_pos z]
    by_cases z2 : M 1 9 < 6
    · rw [if_pos z2, if_pos z2, if_neg (by omega), if_neg (by omega)]
      refine ⟨⟨x_soul hT k w c z.2.2.1 h.1, h.2.1, rest_b hT (fun a ha => ?_) (fun a ha => ?_) rfl rfl h.2.2⟩, rfl⟩
      · unfold bAdS
        rw [sSt_ne (by omega), sSt_ne (by omega), sSt_ne (by omega), sSt_ne (by omega), sSt_ne (by omega), sSt_ne (by omega), sSt_ne (by omega)]
      · unfold qAdS
        rw [sSt_ne (by omega), sSt_ne (by omega), sSt_ne (by omega), sSt_ne (by omega), sSt_ne (by omega), sSt_ne (by omega), sSt_ne (by omega)]
    · rw [if_neg z2, if_neg z2, if_pos (by omega), if_pos (by omega)]
      exact ⟨(rel_bad hT h).2.2, rfl⟩
  · rw [if_neg z, if_neg z, if_neg z, if_neg z]
    exact ⟨(rel_bad hT h).1, rfl⟩
theorem x_caller (hT : TInv M) (k : Int) (h : RelX M N 1) : RelX (bAdI (sSt M 1 11 0) 1 k) (qAdI N k) 1 := by
  obtain ⟨⟨⟨c1, c2, c3, c4⟩, c5, c6, c7, c8, c9⟩, d, u⟩ := h
  have r1 := nC_r hT ho1
  have en : qc N = nC M 1 := by unfold qc nC; rw [c2]
  have n1 : nC (bAdI (sSt M 1 11 0) 1 k) 1 = nC M 1 + 1 := by
    show (M 1 10 + 1).toNat = (M 1 10).toNat + 1
    omega
  refine ⟨⟨⟨c1, ?_, c3, c4⟩, c5, c6, fun s hs => ?_, fun s hs => ?_, c9⟩, d, ru_0 rfl rfl⟩
  · show N 258 2 + 1 = M 1 10 + 1; rw [c2]
  · show (if s = qc N then k else N 266 s) = (if s = nC M 1 then k else M (1 + 4) s)
    rw [en]
    by_cases e : s = nC M 1
    · rw [if_pos e, if_pos e]
    · rw [if_neg e, if_neg e]; exact c7 s (by omega)
  · have q := c8 s hs
    refine ⟨q.1, q.2.1, q.2.2.1, q.2.2.2.1, ?_⟩
    rw [n1]
    have q2 : M (1 + 7) s < (nC M 1 : Int) := q.2.2.2.2
    show M (1 + 7) s < ((nC M 1 + 1 : Nat) : Int)
    omega
theorem s_caller (hT : TInv M) (h : Rel M N L) (k : Int) : Rel (mCaller M k) (qmCaller N k) L ∧ qrCaller N k = rCaller M k := by
  unfold mCaller qmCaller qrCaller rCaller
  have r1 := nC_r hT ho1
  have e1 : N 258 2 = M 1 10 := h.1.1.1.2.1
  rw [e1]
  by_cases z : 0 ≤ k ∧ k ≤ 5
  · rw [if_pos z, if_pos z, if_pos z, if_pos z]
    by_cases z2 : M 1 10 < 6
    · rw [if_pos z2, if_pos z2, if_neg (by omega), if_neg (by omega)]
      refine ⟨⟨x_caller hT k h.1, h.2.1, rest_b hT (fun a ha => ?_) (fun a ha => ?_) rfl rfl h.2.2⟩, rfl⟩
      · unfold bAdI
        rw [sSt_ne (by omega), sSt_ne (by omega), sSt_ne (by omega)]
      · unfold qAdI
        rw [sSt_ne (by omega), sSt_ne (by omega), sSt_ne (by omega)]
    · rw [if_neg z2, if_neg z2, if_pos (by omega), if_pos (by omega)]
      exact ⟨(rel_bad hT h).2.2, rfl⟩
  · rw [if_neg z, if_neg z, if_neg z, if_neg z]
    exact ⟨(rel_bad hT h).1, rfl⟩
/-- nothing but the text changes -/
theorem rel_txt {M' N' : sM} (hT : TInv M) (hM : ∀ c, c < 195 → M' c = M c) (hN : ∀ c j, ¬ (c = 258 ∧ j = 19) → c ≠ 270 → N' c j = N c j) (ht : N' 258 19 = M' 195 2 ∧ ∀ j : Nat, (j : Int) < M' 195 2 → N' 270 j = M' 196 j) (h : Rel M N L) : Rel M' N' L := by
  have hn : ∀ c, c ≠ 258 → c ≠ 270 → N' c = N c := fun c h1 h2 => funext fun j => hN c j (by omega) h2
  obtain ⟨hx, h9, _, b, c, ⟨d1, d2⟩, e⟩ := h
  refine ⟨rx_cg hT ho1 (fun i j l => by rw [hM _ (by unfold lvb at l; omega)]) (fun k j l => hN k j (by unfold lvp at l; omega) (by unfold lvp at l; omega)) hx, by rw [hM 6 (by decide)]; exact h9, ht, ?_, ?_,
    ⟨relI_cg (by decide) hT (fun c h1 h2 => hM c h2) (hn _ (by decide) (by decide)) (hn _ (by decide) (by decide)) d1, relI_cg (by decide) hT (fun c h1 h2 => hM c h2) (hn _ (by decide) (by decide)) (hn _ (by decide) (by decide)) d2⟩, ?_⟩
  · rw [hM 0 (by decide), hn 259 (by decide) (by decide)]; exact b
  · rw [hM 0 (by decide)]; exact c
  · rw [hN 258 23 (by decide) (by decide)]; exact e
theorem s_type (hT : TInv M) (h : Rel M N L) (c : Int) : Rel (mType M c) (qmType N c) L ∧ qrType N c = rType M c := by
  unfold mType qmType qrType rType
  have hx : 0 ≤ M 195 2 ∧ M 195 2 ≤ 150 := tv hT (k := 195) (j := 2) rfl
  obtain ⟨e1, e2⟩ := h.2.2.1
  rw [e1]
  by_cases z : 0 ≤ c ∧ c ≤ 127
  · rw [if_pos z, if_pos z, if_pos z, if_pos z]
    by_cases z2 : M 195 2 < 150
    · rw [if_pos z2, if_pos z2, if_neg (by omega), if_neg (by omega)]
      refine ⟨rel_txt hT (fun a ha => ?_) (fun a j h1 h2 => ?_) ⟨rfl, fun j hj => ?_⟩ h, rfl⟩
      · rw [sSt_ne (by omega), sSt_ne (by omega)]
      · rw [sSt_at, if_neg h1, sSt_ne h2]
      · have hj2 : (j : Int) < M 195 2 + 1 := hj
        show (if j = qt N then c else N 270 j) = (if j = (M 195 2).toNat then c else M 196 j)
        unfold qt
        rw [e1]
        by_cases e : j = (M 195 2).toNat
        · rw [if_pos e, if_pos e]
        · rw [if_neg e, if_neg e]; exact e2 j (by omega)
    · rw [if_neg z2, if_neg z2, if_pos (by omega), if_pos (by omega)]
      exact ⟨(rel_bad hT h).2.2, rfl⟩
  · rw [if_neg z, if_neg z, if_neg z, if_neg z]
    exact ⟨(rel_bad hT h).1, rfl⟩
theorem s_clear (hT : TInv M) (h : Rel M N L) : Rel (sSt M 195 2 0) (sSt N 258 19 0) L ∧ N 258 19 = M 195 2 := by
  refine ⟨rel_txt hT (fun a ha => sSt_ne (by omega)) (fun a j h1 h2 => by rw [sSt_at, if_neg h1]) ⟨rfl, fun j hj => ?_⟩ h, h.2.2.1.1⟩
  have : (j : Int) < 0 := hj
  omega
end RE
