/-! swaps: the same -/
theorem swE_ck {m : Nat} (h : m ≤ 6) : swE m 6 [] = true := by
  rcases (show m < 4 ∨ m = 4 ∨ m = 5 ∨ m = 6 by omega) with q | rfl | rfl | rfl
  · exact swE_ck3 m q
  · exact swE_ck4
  · exact swE_ck5
  · exact swE_ck6
theorem swO_in : ∀ m, m < 7 → ∀ k, k < m + 1 → (swO m).contains (((k : Nat) : Int) - 1) = true := by decide +kernel
theorem swE_s {m n : Nat} {l : List Int} (h : swE m (n + 1) l = true) {v : Int} (hm : m ≤ 6) (hv : -1 ≤ v ∧ v < m) (hn : v = -1 ∨ l.contains v = false) : swE m n (v :: l) = true := by
  have hc := swO_in m (by omega) (v + 1).toNat (by omega)
  rw [show (((v + 1).toNat : Nat) : Int) - 1 = v by omega] at hc
  have q := List.all_eq_true.mp h v (List.contains_iff_mem.mp hc)
  rcases hn with z | z
  · rw [z] at q ⊢
    exact q
  · rw [z, Bool.and_false, Bool.false_or] at q
    exact q
theorem swN_t {n : Nat} {g h : Nat → Int} (hn : n ≤ 6) (e : ∀ s, s < 6 → h s = if s < n then g s else -1) : ∀ i, i ≤ 6 → ∀ s, s < 6 → swN 6 h i s = if s < n then swN n g (min n i) s else -1
  | 0, _, s, hs => by
    rw [show min n 0 = 0 by omega]
    exact e s hs
  | i + 1, hi, s, hs => by
    have ih := swN_t hn e i (by omega)
    show swH 6 i (swN 6 h i) s = _
    by_cases hin : i < n
    · have ei := ih i (by omega)
      rw [if_pos hin] at ei
      rw [show min n (i + 1) = min n i + 1 by omega]
      show _ = if s < n then swH n (min n i) (swN n g (min n i)) s else -1
      rw [show min n i = i by omega] at ih ei ⊢
      have es := ih s hs
      unfold swH
      rw [ei]
      by_cases z : swN n g i i ≠ -1 ∧ swN n g i i ≠ i
      · rw [if_pos z, if_pos z]
        unfold swR
        show (if s = i then (i : Int) else if s < 6 ∧ s < 6 ∧ swN 6 h i s = i then swN n g i i else swN 6 h i s) = if s < n then (if s = i then (i : Int) else if s < n ∧ s < n ∧ swN n g i s = i then swN n g i i else swN n g i s) else -1
        by_cases hsn : s < n
        · rw [if_pos hsn] at es ⊢
          rw [es]
          refine if_c3 Iff.rfl (fun _ => rfl) (fun _ => if_c3 ⟨fun z => ⟨hsn, hsn, z.2.2⟩, fun z => ⟨hs, hs, z.2.2⟩⟩ (fun _ => rfl) (fun _ => rfl))
        · rw [if_neg hsn] at es ⊢
          rw [es, if_neg (by omega), if_neg (by omega)]
      · rw [if_neg z, if_neg z]; exact es
    · have ei := ih i (by omega)
      rw [if_neg hin] at ei
      rw [show min n (i + 1) = min n i by omega]
      unfold swH
      rw [ei, if_neg (fun z => z.1 rfl)]
      exact ih s hs
theorem swC_t {n : Nat} {g h : Nat → Int} (hn : n ≤ 6) (e : ∀ s, s < 6 → h s = if s < n then g s else -1) : ∀ k, k ≤ 6 → swC 6 h k = swC n g (min n k)
  | 0, _ => by rw [show min n 0 = 0 by omega]; rfl
  | k + 1, hk => by
    have ih := swC_t hn e k (by omega)
    have ek := swN_t hn e k (by omega) k (by omega)
    show swC 6 h k + (if swN 6 h k k ≠ -1 ∧ swN 6 h k k ≠ k then 1 else 0) = _
    rw [ih, ek]
    by_cases z : k < n
    · rw [if_pos z, show min n (k + 1) = min n k + 1 by omega]
      show _ = swC n g (min n k) + (if swN n g (min n k) (min n k) ≠ -1 ∧ swN n g (min n k) (min n k) ≠ (min n k : Nat) then 1 else 0)
      rw [show min n k = k by omega]
    · rw [if_neg z, if_neg (fun q => q.1 rfl), show min n (k + 1) = min n k by omega]
      omega
theorem swG_c {m : Nat} {g h : Nat → Int} (e : ∀ s, s < 6 → h s = g s) : swG m h = swG m g := by
  funext i
  unfold swG
  rw [lst_c (p := fun s => h s = i) (q := fun s => g s = i) (fun s hs => by rw [e s hs])]
theorem swF_c {m : Nat} {g h : Nat → Int} (e : swG m h = swG m g) (i : Nat) : ∀ f k, swF m h i f k = swF m g i f k
  | 0, _ => rfl
  | f + 1, k => by
    unfold swF
    rw [e]
    exact if_c3 Iff.rfl (fun _ => swF_c e i f _) (fun _ => rfl)
theorem swQ_c {m : Nat} {g h : Nat → Int} (e : swG m h = swG m g) : ∀ i, swQ m h i = swQ m g i
  | 0 => rfl
  | i + 1 => by
    unfold swQ
    rw [swQ_c e i, e, swF_c e]
theorem sw_all {m : Nat} (hm : m ≤ 6) {h : Nat → Int} (hr : ∀ s, s < 6 → -1 ≤ h s ∧ h s < m) (hi : ∀ s t, s < 6 → t < 6 → h s = h t → h s ≠ -1 → s = t) : swC 6 h m = swQ m h m := by
  have c0 := swE_ck hm
  have ne : ∀ s t, s < 6 → t < 6 → s ≠ t → h s = -1 ∨ h s ≠ h t := fun s t hs ht hn => by
    by_cases z : h s = -1
    · exact Or.inl z
    · exact Or.inr (fun q => hn (hi s t hs ht q z))
  have ct : ∀ s (l : List Int), (∀ v, v ∈ l → h s = -1 ∨ h s ≠ v) → h s = -1 ∨ l.contains (h s) = false := fun s l hl => by
    by_cases z : h s = -1
    · exact Or.inl z
    · refine Or.inr ?_
      rw [Bool.eq_false_iff]
      intro q
      rcases hl _ (List.contains_iff_mem.mp q) with w | w
      · exact z w
      · exact w rfl
  have c1 := swE_s c0 hm (hr 5 (by decide)) (ct 5 _ (fun v hv => absurd hv (List.not_mem_nil)))
  have c2 := swE_s c1 hm (hr 4 (by decide)) (ct 4 _ (fun v hv => by
    simp only [List.mem_cons, List.not_mem_nil, or_false] at hv
    rw [hv]; exact ne 4 5 (by decide) (by decide) (by decide)))
  have c3 := swE_s c2 hm (hr 3 (by decide)) (ct 3 _ (fun v hv => by
    simp only [List.mem_cons, List.not_mem_nil, or_false] at hv
    rcases hv with hv | hv
    · rw [hv]; exact ne 3 4 (by decide) (by decide) (by decide)
    · rw [hv]; exact ne 3 5 (by decide) (by decide) (by decide)))
  have c4 := swE_s c3 hm (hr 2 (by decide)) (ct 2 _ (fun v hv => by
    simp only [List.mem_cons, List.not_mem_nil, or_false] at hv
    rcases hv with hv | hv | hv
    · rw [hv]; exact ne 2 3 (by decide) (by decide) (by decide)
    · rw [hv]; exact ne 2 4 (by decide) (by decide) (by decide)
    · rw [hv]; exact ne 2 5 (by decide) (by decide) (by decide)))
  have c5 := swE_s c4 hm (hr 1 (by decide)) (ct 1 _ (fun v hv => by
    simp only [List.mem_cons, List.not_mem_nil, or_false] at hv
    rcases hv with hv | hv | hv | hv
    · rw [hv]; exact ne 1 2 (by decide) (by decide) (by decide)
    · rw [hv]; exact ne 1 3 (by decide) (by decide) (by decide)
    · rw [hv]; exact ne 1 4 (by decide) (by decide) (by decide)
    · rw [hv]; exact ne 1 5 (by decide) (by decide) (by decide)))
  have c6 := swE_s c5 hm (hr 0 (by decide)) (ct 0 _ (fun v hv => by
    simp only [List.mem_cons, List.not_mem_nil, or_false] at hv
    rcases hv with hv | hv | hv | hv | hv
    · rw [hv]; exact ne 0 1 (by decide) (by decide) (by decide)
    · rw [hv]; exact ne 0 2 (by decide) (by decide) (by decide)
    · rw [hv]; exact ne 0 3 (by decide) (by decide) (by decide)
    · rw [hv]; exact ne 0 4 (by decide) (by decide) (by decide)
    · rw [hv]; exact ne 0 5 (by decide) (by decide) (by decide)))
  have e : ∀ s, s < 6 → h s = lstF [h 0, h 1, h 2, h 3, h 4, h 5] s := fun s hs => by
    rcases (show s = 0 ∨ s = 1 ∨ s = 2 ∨ s = 3 ∨ s = 4 ∨ s = 5 by omega) with rfl | rfl | rfl | rfl | rfl | rfl
    all_goals rfl
  have k : swC 6 (lstF [h 0, h 1, h 2, h 3, h 4, h 5]) m = swQ m (lstF [h 0, h 1, h 2, h 3, h 4, h 5]) m := eq_of_beq c6
  have t := swC_t (n := 6) (g := lstF [h 0, h 1, h 2, h 3, h 4, h 5]) (h := h) (Nat.le_refl 6) (fun s hs => by rw [if_pos hs]; exact e s hs) m hm
  rw [t, show min 6 m = m by omega, k, swQ_c (swG_c e)]
section RK
variable {M N : sM} {L : sL}
theorem e_swaps (hT : TInv M) (h : RelC M N 1) : qrSwaps N = rSwaps M := by
  have r1 := nS_r hT ho1
  have r2 := nC_r hT ho1
  obtain ⟨g, hg⟩ : ∃ g : Nat → Int, g = fun s => if s < nS M 1 then M 8 s else -1 := ⟨_, rfl⟩
  have hgs : ∀ s, g s = if s < nS M 1 then M 8 s else -1 := fun s => by rw [hg]
  have hm : ∀ s, s < nS M 1 → -1 ≤ M 8 s ∧ M 8 s < (nC M 1 : Int) := fun s hs => by
    have a : -1 ≤ M 8 s ∧ M 8 s ≤ 5 := tv hT (k := 8) (j := s) rfl
    exact ⟨a.1, (h.2.2.2.2.1 s hs).2.2.2.2⟩
  have k := sw_all r2.1 (h := g) (fun s hs => by
    rw [hgs]
    by_cases z : s < nS M 1
    · rw [if_pos z]; exact hm s z
    · rw [if_neg z]; omega) (fun s t hs ht => by
    rw [hgs, hgs]
    by_cases z : s < nS M 1
    · rw [if_pos z]
      by_cases z2 : t < nS M 1
      · rw [if_pos z2]; exact h.2.2.2.2.2 s t z z2
      · rw [if_neg z2]; exact fun a b => absurd a b
    · rw [if_neg z]; exact fun _ b => absurd rfl b)
  have t := swC_t (n := nS M 1) (g := M 8) (h := g) r1.1 (fun s _ => hgs s) (nC M 1) r2.1
  have eh : ∀ i : Nat, lst (fun s => g s = i) 6 = qHeld N i := fun i => by
    have e0 : ∀ b, nS M 1 ≤ b → lst (fun s => g s = i) b = lst (fun s => g s = i) (nS M 1) := by
      intro b
      induction b with
      | zero => intro hb; rw [show nS M 1 = 0 by omega]
      | succ b ih =>
        intro hb
        by_cases q : nS M 1 = b + 1
        · rw [q]
        · rw [lst_n (p := fun s => g s = i) (n := b) (by rw [hgs, if_neg (by omega)]; omega)]
          exact ih (by omega)
    rw [e0 6 r1.1]
    unfold qHeld
    rw [rc_n h]
    refine lst_c (fun s hs => ?_)
    rw [hgs, if_pos hs, (h.2.2.2.2.1 s hs).2.1]
  have eg : ∀ i : Nat, qGoe N i = swG (nC M 1) g i := fun i => by
    unfold qGoe swG
    rw [eh, h.1.2.1, r2.2]
  have ef : ∀ (i f : Nat) (k : Int), qfl N i f k = swF (nC M 1) g i f k := by
    intro i f
    induction f with
    | zero => intro k; rfl
    | succ f ih =>
      intro k
      unfold qfl swF
      rw [eg]
      exact if_c3 Iff.rfl (fun _ => ih _) (fun _ => rfl)
  have eq : ∀ i, qsw N i = swQ (nC M 1) g i := by
    intro i
    induction i with
    | zero => rfl
    | succ i ih =>
      unfold qsw swQ
      rw [ih, eg, ef]
  unfold qrSwaps rSwaps
  rw [rc_m h, eq, ← k, t]
end RK
