/-! the relation of shore and reference: what it rests on -/
def lvb (i j : Nat) : Prop := (i = 0 ∧ 9 ≤ j ∧ j ≤ 11) ∨ (i = 1 ∧ j < 12) ∨ (2 ≤ i ∧ i ≤ 4 ∧ j < 6) ∨ (i = 5 ∧ (j = 3 ∨ j = 4)) ∨ (6 ≤ i ∧ i ≤ 8 ∧ j < 6) ∨ ((i = 10 ∨ i = 12 ∨ i = 14) ∧ j = 3) ∨ (i = 11 ∧ j < 10) ∨ (i = 13 ∧ j < 24) ∨ (i = 15 ∧ j < 18) ∨ (16 ≤ i ∧ i < 48 ∧ ((i % 4 = 0 ∧ (j = 3 ∨ j = 4)) ∨ (i % 4 ≠ 0 ∧ j < 6)))
def lvp (k j : Nat) : Prop := (k = 258 ∧ ((1 ≤ j ∧ j ≤ 7) ∨ j = 25)) ∨ (k = 260 ∧ j < 12) ∨ (261 ≤ k ∧ k ≤ 266 ∧ j < 6) ∨ (k = 267 ∧ j < 10) ∨ (k = 268 ∧ j < 24) ∨ (k = 269 ∧ j < 18) ∨ (k = 272 ∧ j < 160)
def RelX (M N : sM) (o : Nat) : Prop := RelC M N o ∧ RelT M N o ∧ RelU M N o
theorem moc_cg {n m : Nat} {c h d p g e c' h' d' p' g' e' : Nat → Int} (q : ∀ s, s < n → c' s = c s ∧ h' s = h s ∧ d' s = d s ∧ p' s = p s ∧ g' s = g s ∧ e' s = e s) (k : MoC n m c h d p g e) : MoC n m c' h' d' p' g' e' := by
  refine ⟨fun s hs => ?_, fun s t hs ht => ?_⟩
  · obtain ⟨a1, a2, a3, a4, a5, a6⟩ := q s hs
    rw [a1, a2, a3, a4, a5, a6]
    exact k.1 s hs
  · rw [(q s hs).2.1, (q t ht).2.1]
    exact k.2 s t hs ht
theorem rx_cg {M N M' N' : sM} {o o' : Nat} (hT : TInv M) (ho : isB o) (hM : ∀ i j, lvb i j → M' (o' + i) j = M (o + i) j) (hN : ∀ k j, lvp k j → N' k j = N k j) (h : RelX M N o) : RelX M' N' o' := by
  have r1 := nS_r hT ho
  have r2 := nC_r hT ho
  have r3 := nU_r hT ho
  have t1 : 0 ≤ M (o + 10) 3 ∧ M (o + 10) 3 ≤ 5 := tv hT ((rg_B ho (by omega) 3).trans rfl)
  have t2 : 0 ≤ M (o + 12) 3 ∧ M (o + 12) 3 ≤ 6 := tv hT ((rg_B ho (by omega) 3).trans rfl)
  have t3 : 0 ≤ M (o + 14) 3 ∧ M (o + 14) 3 ≤ 6 := tv hT ((rg_B ho (by omega) 3).trans rfl)
  have e9 : M' o' 9 = M o 9 := hM 0 9 (by unfold lvb; omega)
  have e10 : M' o' 10 = M o 10 := hM 0 10 (by unfold lvb; omega)
  have e11 : M' o' 11 = M o 11 := hM 0 11 (by unfold lvb; omega)
  have n1 : nS M' o' = nS M o := by unfold nS; rw [e9]
  have n2 : nC M' o' = nC M o := by unfold nC; rw [e10]
  have n3 : nU M' o' = nU M o := by unfold nU; rw [e11]
  obtain ⟨⟨⟨c1, c2, c3, c4⟩, c5, c6, c7, c8⟩, ⟨⟨d1, d2, d3⟩, d4, d5, d6⟩, u1, u2⟩ := h
  refine ⟨⟨⟨?_, ?_, ?_, ?_⟩, ?_, ?_, ?_, ?_⟩, ⟨⟨?_, ?_, ?_⟩, ?_, ?_, ?_⟩, ?_, ?_⟩
  · rw [hN 258 1 (by unfold lvp; omega), e9, c1]
  · rw [hN 258 2 (by unfold lvp; omega), e10, c2]
  · rw [hN 258 3 (by unfold lvp; omega), hM 5 4 (by unfold lvb; omega), c3]
  · rw [hN 258 4 (by unfold lvp; omega), hM 5 3 (by unfold lvb; omega), c4]
  · intro c hc; rw [hN 260 c (by unfold lvp; omega), hM 1 c (by unfold lvb; omega), c5 c hc]
  · intro s hs
    rw [n1] at hs
    rw [hN 261 s (by unfold lvp; omega), hN 262 s (by unfold lvp; omega), hM 2 s (by unfold lvb; omega), hM 3 s (by unfold lvb; omega)]
    exact c6 s hs
  · intro s hs
    rw [n2] at hs
    rw [hN 266 s (by unfold lvp; omega), hM 4 s (by unfold lvb; omega)]
    exact c7 s hs
  · rw [n1, n2]
    exact moc_cg (fun s hs => ⟨hM 6 s (by unfold lvb; omega), hM 7 s (by unfold lvb; omega), hM 8 s (by unfold lvb; omega), hN 263 s (by unfold lvp; omega), hN 264 s (by unfold lvp; omega), hN 265 s (by unfold lvp; omega)⟩) c8
  · rw [hN 258 5 (by unfold lvp; omega), hM 10 3 (by unfold lvb; omega), d1]
  · rw [hN 258 6 (by unfold lvp; omega), hM 12 3 (by unfold lvb; omega), d2]
  · rw [hN 258 7 (by unfold lvp; omega), hM 14 3 (by unfold lvb; omega), d3]
  · intro j hj
    rw [hM 10 3 (by unfold lvb; omega)] at hj
    rw [hN 267 j (by unfold lvp; omega), hM 11 j (by unfold lvb; omega), d4 j hj]
  · intro j hj
    rw [hM 12 3 (by unfold lvb; omega)] at hj
    rw [hN 268 j (by unfold lvp; omega), hM 13 j (by unfold lvb; omega), d5 j hj]
  · intro j hj
    rw [hM 14 3 (by unfold lvb; omega)] at hj
    rw [hN 269 j (by unfold lvp; omega), hM 15 j (by unfold lvb; omega), d6 j hj]
  · rw [hN 258 25 (by unfold lvp; omega), e11, u1]
  · intro u hu
    rw [n3] at hu
    obtain ⟨a1, a2, a3, a4⟩ := u2 u hu
    have m0 : ∀ j, j = 3 ∨ j = 4 → M' (o' + 16 + 4 * u) j = M (o + 16 + 4 * u) j := fun j hj => by
      have := hM (16 + 4 * u) j (by unfold lvb; omega)
      rw [← Nat.add_assoc, ← Nat.add_assoc] at this; exact this
    have m1 : ∀ i j, 17 ≤ i → i ≤ 19 → j < 6 → M' (o' + i + 4 * u) j = M (o + i + 4 * u) j := fun i j h1 h2 hj => by
      have := hM (i + 4 * u) j (by unfold lvb; omega)
      rw [← Nat.add_assoc, ← Nat.add_assoc] at this; exact this
    rw [m0 4 (Or.inr rfl), m0 3 (Or.inl rfl), hN 272 (20 * u) (by unfold lvp; omega), hN 272 (20 * u + 1) (by unfold lvp; omega), n1, n2]
    exact ⟨a1, a2, a3, moc_cg (fun s hs => ⟨m1 17 s (by decide) (by decide) (by omega), m1 18 s (by decide) (by decide) (by omega), m1 19 s (by decide) (by decide) (by omega),
      hN 272 _ (by unfold lvp; omega), hN 272 _ (by unfold lvp; omega), hN 272 _ (by unfold lvp; omega)⟩) a4⟩
/-- the record at a, come back into a memory of nothing -/
def unr (x : Nat → Int) (a : Nat) : sM := qTA (fun k => if k = 278 then x else fun _ => 0) 278 a
def RelI (M N : sM) (i : Nat) : Prop := N 279 i = M 194 i ∧ (M 194 i ≠ 0 → RelX M (unr (N 278) (280 * i)) (98 + 48 * i) ∧ M (98 + 48 * i + 5) 4 ≤ 999)
/-- all else: text, counts of refusals, fraction, images -/
def Rest (M N : sM) (L : sL) : Prop :=
  (N 258 19 = M 195 2 ∧ ∀ j : Nat, (j : Int) < M 195 2 → N 270 j = M 196 j) ∧ (N 259 0 = M 0 10 ∧ N 259 1 = M 0 11 ∧ N 259 2 = M 0 12) ∧
  (L 258 31 = (sI (M 0 8)).toInt64 ∧ L 258 32 = (sI (M 0 9)).toInt64) ∧ (RelI M N 0 ∧ RelI M N 1) ∧ N 258 23 = 0
def Rel (M N : sM) (L : sL) : Prop := RelX M N 1 ∧ M 6 4 ≤ 999 ∧ Rest M N L
theorem relI_cg {M N M' N' : sM} {i : Nat} (hi : i < 2) (hT : TInv M) (hM : ∀ c, 98 ≤ c → c < 195 → M' c = M c) (h1 : N' 278 = N 278) (h2 : N' 279 = N 279) (h : RelI M N i) : RelI M' N' i := by
  unfold RelI
  rw [h1, h2, hM 194 (by decide) (by decide)]
  refine ⟨h.1, fun z => ?_⟩
  have k := h.2 z
  have ho : isB (98 + 48 * i) := by unfold isB; omega
  refine ⟨rx_cg hT ho (fun a j l => ?_) (fun _ _ _ => rfl) k.1, ?_⟩
  · rw [hM _ (by omega) (by unfold lvb at l; omega)]
  · rw [hM _ (by omega) (by omega)]; exact k.2
theorem rest_cg {M N M' N' : sM} {L L' : sL} (hT : TInv M) (h0 : M' 0 = M 0) (hM : ∀ c, 97 ≤ c → c < 197 → M' c = M c) (hN : ∀ c, c = 259 ∨ c = 270 ∨ c = 278 ∨ c = 279 → N' c = N c) (h19 : N' 258 19 = N 258 19) (h23 : N' 258 23 = N 258 23) (hL : L' = L) (h : Rest M N L) : Rest M' N' L' := by
  obtain ⟨⟨a1, a2⟩, b, c, ⟨d1, d2⟩, e⟩ := h
  unfold Rest
  rw [h0, h19, h23, hL, hM 195 (by decide) (by decide), hM 196 (by decide) (by decide), hN 259 (by decide), hN 270 (by decide)]
  have q := fun i (hi : i < 2) => @relI_cg M N M' N' i hi hT (fun c h1 h2 => hM c (by omega) (by omega)) (hN 278 (by decide)) (hN 279 (by decide))
  exact ⟨⟨a1, a2⟩, b, c, ⟨q 0 (by decide) d1, q 1 (by decide) d2⟩, e⟩
