/-! images: a record's place for each place of the shore's -/
def pos (k j : Nat) : Nat :=
  if k = 258 then (if j = 3 then 0 else if j = 4 then 1 else if j = 1 then 20 else if j = 2 then 21 else if j = 25 then 25 else 17 + j)
  else if k = 260 then 26 + j else if k = 261 then 38 + j else if k = 262 then 44 + j else if k = 263 then 2 + j else if k = 264 then 8 + j else if k = 265 then 14 + j
  else if k = 266 then 50 + j else if k = 267 then 56 + j else if k = 268 then 66 + j else if k = 269 then 90 + j else 108 + j
theorem pos_lt {k j : Nat} (h : lvp k j) : pos k j < 268 := by
  unfold lvp at h
  unfold pos
  (repeat' split) <;> omega
section RI
variable {M N : sM} {L : sL}
theorem qTA_at {b a k j : Nat} (h : lvp k j) : qTA N b a k j = N b (a + pos k j) := by
  unfold lvp at h
  unfold qTA qTA6 qTA5 qTA4 qTA3 qTA2 qTA1 pos
  rcases h with ⟨rfl, h⟩ | ⟨rfl, h⟩ | ⟨h1, h2, h⟩ | ⟨rfl, h⟩ | ⟨rfl, h⟩ | ⟨rfl, h⟩ | ⟨rfl, h⟩
  · rw [fil_ne (by decide), fil_ne (by decide), fil_ne (by decide), fil_ne (by decide), fil_ne (by decide), fil_ne (by decide), fil_ne (by decide), fil_ne (by decide), if_pos rfl]
    rcases (show j = 1 ∨ j = 2 ∨ j = 3 ∨ j = 4 ∨ j = 5 ∨ j = 6 ∨ j = 7 ∨ j = 25 by omega) with rfl | rfl | rfl | rfl | rfl | rfl | rfl | rfl
    all_goals rfl
  · rw [fil_ne (by decide), fil_ne (by decide), fil_ne (by decide), fil_ne (by decide), fil_ne (by decide), fil_ne (by decide), fil_ne (by decide), fil_in _ _ _ h, if_neg (by decide), if_pos rfl, Nat.add_assoc]
  · rcases (show k = 261 ∨ k = 262 ∨ k = 263 ∨ k = 264 ∨ k = 265 ∨ k = 266 by omega) with rfl | rfl | rfl | rfl | rfl | rfl
    · rw [fil_ne (by decide), fil_ne (by decide), fil_ne (by decide), fil_ne (by decide), fil_ne (by decide), fil_ne (by decide), fil_in _ _ _ h, Nat.add_assoc]; rfl
    · rw [fil_ne (by decide), fil_ne (by decide), fil_ne (by decide), fil_ne (by decide), fil_ne (by decide), fil_in _ _ _ h, Nat.add_assoc]; rfl
    · rw [fil_ne (by decide), fil_ne (by decide), fil_ne (by decide), fil_ne (by decide), fil_ne (by decide), fil_ne (by decide), fil_ne (by decide), fil_ne (by decide)]
      show (if j < 6 then N b (a + 2 + j) else N 263 j) = _
      rw [if_pos h, Nat.add_assoc]; rfl
    · rw [fil_ne (by decide), fil_ne (by decide), fil_ne (by decide), fil_ne (by decide), fil_ne (by decide), fil_ne (by decide), fil_ne (by decide), fil_ne (by decide)]
      show (if j < 6 then N b (a + 8 + j) else N 264 j) = _
      rw [if_pos h, Nat.add_assoc]; rfl
    · rw [fil_ne (by decide), fil_ne (by decide), fil_ne (by decide), fil_ne (by decide), fil_ne (by decide), fil_ne (by decide), fil_ne (by decide), fil_ne (by decide)]
      show (if j < 6 then N b (a + 14 + j) else N 265 j) = _
      rw [if_pos h, Nat.add_assoc]; rfl
    · rw [fil_ne (by decide), fil_ne (by decide), fil_ne (by decide), fil_ne (by decide), fil_in _ _ _ h, Nat.add_assoc]; rfl
  · rw [fil_ne (by decide), fil_ne (by decide), fil_ne (by decide), fil_in _ _ _ h, Nat.add_assoc]; rfl
  · rw [fil_ne (by decide), fil_ne (by decide), fil_in _ _ _ h, Nat.add_assoc]; rfl
  · rw [fil_ne (by decide), fil_in _ _ _ h, Nat.add_assoc]; rfl
  · rw [fil_in _ _ _ h, Nat.add_assoc]; rfl
theorem liv_pos {k j : Nat} (h : lvp k j) : liv N (pos k j) = N k j := by
  unfold lvp at h
  rcases h with ⟨rfl, h⟩ | ⟨rfl, h⟩ | ⟨h1, h2, h⟩ | ⟨rfl, h⟩ | ⟨rfl, h⟩ | ⟨rfl, h⟩ | ⟨rfl, h⟩
  · rcases (show j = 1 ∨ j = 2 ∨ j = 3 ∨ j = 4 ∨ j = 5 ∨ j = 6 ∨ j = 7 ∨ j = 25 by omega) with rfl | rfl | rfl | rfl | rfl | rfl | rfl | rfl
    all_goals rfl
  · exact liv_cu N h
  · rcases (show k = 261 ∨ k = 262 ∨ k = 263 ∨ k = 264 ∨ k = 265 ∨ k = 266 by omega) with rfl | rfl | rfl | rfl | rfl | rfl
    · exact liv_kd N h
    · exact liv_wt N h
    · show liv N (2 + j) = _
      unfold liv qMo
      rw [if_pos (by omega), if_neg (by omega), if_neg (by omega), if_pos (by omega), show 2 + j - 2 = j by omega]
    · show liv N (8 + j) = _
      unfold liv qMo
      rw [if_pos (by omega), if_neg (by omega), if_neg (by omega), if_neg (by omega), if_pos (by omega), show 8 + j - 8 = j by omega]
    · show liv N (14 + j) = _
      unfold liv qMo
      rw [if_pos (by omega), if_neg (by omega), if_neg (by omega), if_neg (by omega), if_neg (by omega), show 14 + j - 14 = j by omega]
    · exact liv_ck N h
  · exact liv_se N h
  · exact liv_no N h
  · exact liv_mk N h
  · exact liv_un N
theorem unr_at {x : Nat → Int} {a k j : Nat} (h : lvp k j) : unr x a k j = x (a + pos k j) := qTA_at h
theorem qLA_at {b a i : Nat} (hi : i < 268) : qLA N b a b (a + i) = liv N i := by
  unfold qLA qaN
  rw [sSr_eq, if_pos ⟨by omega, by omega, trivial⟩, show a + i - a = i by omega]
theorem qLA_o {b a j : Nat} (hj : j < a ∨ a + 268 ≤ j) : qLA N b a b j = N b j := by
  unfold qLA qaN
  rw [sSr_eq, if_neg (by omega)]
theorem qLA_c {b a c : Nat} (h : c ≠ b) : qLA N b a c = N c := qaN_b h
theorem cpy_lv {a b i j : Nat} (h : lvb i j) : bCpy M a b (a + i) j = M (b + i) j := by
  have hi : i < 48 := by unfold lvb at h; omega
  rw [bCpy_in ⟨by omega, by omega⟩, show a + i - a = i by omega]
  unfold lvb at h
  unfold brow
  rcases h with h | h | h | h | h | h | h | h | h | h
  · exact if_pos (Or.inl h)
  · exact if_pos (Or.inr (Or.inl h))
  · exact if_pos (Or.inr (Or.inr (Or.inl h)))
  · exact if_pos (Or.inr (Or.inr (Or.inr (Or.inl h))))
  · exact if_pos (Or.inr (Or.inr (Or.inr (Or.inr (Or.inl h)))))
  · exact if_pos (Or.inr (Or.inr (Or.inr (Or.inr (Or.inr (Or.inl h))))))
  · exact if_pos (Or.inr (Or.inr (Or.inr (Or.inr (Or.inr (Or.inr (Or.inl h)))))))
  · exact if_pos (Or.inr (Or.inr (Or.inr (Or.inr (Or.inr (Or.inr (Or.inr (Or.inl h))))))))
  · exact if_pos (Or.inr (Or.inr (Or.inr (Or.inr (Or.inr (Or.inr (Or.inr (Or.inr (Or.inl h)))))))))
  · exact if_pos (Or.inr (Or.inr (Or.inr (Or.inr (Or.inr (Or.inr (Or.inr (Or.inr (Or.inr (⟨h.1, h.2.2⟩))))))))))
theorem relI_c2 {M' N' : sM} {i : Nat} (hi : i < 2) (hT : TInv M) (hM : ∀ c, 98 + 48 * i ≤ c → c < 98 + 48 * i + 48 → M' c = M c) (h4 : M' 194 i = M 194 i) (h1 : ∀ j, j < 268 → N' 278 (280 * i + j) = N 278 (280 * i + j)) (h2 : N' 279 i = N 279 i) (h : RelI M N i) : RelI M' N' i := by
  unfold RelI
  rw [h2, h4]
  refine ⟨h.1, fun z => ?_⟩
  have k := h.2 z
  have ho : isB (98 + 48 * i) := by unfold isB; omega
  refine ⟨rx_cg hT ho (fun a j l => ?_) (fun k j l => ?_) k.1, ?_⟩
  · rw [hM _ (by omega) (by unfold lvb at l; omega)]
  · rw [unr_at l, unr_at l, h1 _ (pos_lt l)]
  · rw [hM _ (by omega) (by omega)]; exact k.2
theorem imO_e {i : Int} (h : 0 ≤ i ∧ i ≤ 1) : imO i = 98 + 48 * i.toNat ∧ i.toNat < 2 := by
  rcases (show i = 0 ∨ i = 1 by omega) with rfl | rfl
  · exact ⟨rfl, by decide⟩
  · exact ⟨rfl, by decide⟩
theorem s_image (hT : TInv M) (h : Rel M N L) (i : Int) : Rel (mImage M i) (qmImage N i) L ∧ qrImage i = rImage i := by
  unfold mImage qmImage
  refine ⟨?_, rfl⟩
  by_cases z : 0 ≤ i ∧ i ≤ 1
  · rw [if_pos z, if_pos z]
    obtain ⟨e, hi⟩ := imO_e z
    generalize i.toNat = n at e hi
    rw [e]
    obtain ⟨hx, h9, a, b, c, d, f⟩ := h
    have eM : ∀ y, y < 98 + 48 * n ∨ 98 + 48 * n + 48 ≤ y → y ≠ 194 → sSt (bCpy M (98 + 48 * n) 1) 194 n 1 y = M y := fun y h1 h2 => by
      rw [sSt_ne h2, bCpy_out (by omega)]
    have eN : ∀ y, y ≠ 278 → y ≠ 279 → qLA (sSt N 279 n 1) 278 (280 * n) y = N y := fun y h1 h2 => by
      rw [qLA_c h1, sSt_ne h2]
    have q : RelI (sSt (bCpy M (98 + 48 * n) 1) 194 n 1) (qLA (sSt N 279 n 1) 278 (280 * n)) n := by
      refine ⟨by rw [qLA_c (by decide), sSt_eq, sSt_eq], fun _ => ⟨rx_cg hT ho1 (fun i j l => ?_) (fun k j l => ?_) hx, ?_⟩⟩
      · rw [sSt_ne (by unfold lvb at l; omega), cpy_lv l]
      · rw [unr_at l, qLA_at (pos_lt l), liv_pos l, sSt_ne (by unfold lvp at l; omega)]
      · rw [sSt_ne (by omega), cpy_lv (by unfold lvb; omega)]; exact h9
    have g : ∀ m, m < 2 → RelI M N m → RelI (sSt (bCpy M (98 + 48 * n) 1) 194 n 1) (qLA (sSt N 279 n 1) 278 (280 * n)) m := fun m hm k => by
      by_cases en : m = n
      · rw [en]; exact q
      · refine relI_c2 hm hT (fun y h1 h2 => eM y (by omega) (by omega)) ?_ (fun j hj => ?_) ?_ k
        · rw [sSt_nj en, bCpy_out (by omega)]
        · rw [qLA_o (by omega), sSt_ne (by decide)]
        · rw [qLA_c (by decide), sSt_nj en]
    have e0 : sSt (bCpy M (98 + 48 * n) 1) 194 n 1 0 = M 0 := eM 0 (by omega) (by decide)
    refine ⟨rx_cg hT ho1 (fun i j l => ?_) (fun k j l => ?_) hx, ?_, ?_, ?_, ?_, ⟨g 0 (by decide) d.1, g 1 (by decide) d.2⟩, ?_⟩
    · rw [eM _ (by unfold lvb at l; omega) (by unfold lvb at l; omega)]
    · rw [eN _ (by unfold lvp at l; omega) (by unfold lvp at l; omega)]
    · rw [eM 6 (by omega) (by decide)]; exact h9
    · rw [eM 195 (by omega) (by decide), eM 196 (by omega) (by decide), eN 258 (by decide) (by decide), eN 270 (by decide) (by decide)]; exact a
    · rw [e0, eN 259 (by decide) (by decide)]; exact b
    · rw [e0]; exact c
    · rw [eN 258 (by decide) (by decide)]; exact f
  · rw [if_neg z, if_neg z]
    exact (rel_bad hT h).1
theorem qTA_c {b a c : Nat} (h : c < 258 ∨ c = 259 ∨ c = 270 ∨ c = 271 ∨ 272 < c) : qTA N b a c = N c := by
  unfold qTA qTA6 qTA5 qTA4 qTA3 qTA2 qTA1 qTA0
  rw [fil_ne (by omega), fil_ne (by omega), fil_ne (by omega), fil_ne (by omega), fil_ne (by omega), fil_ne (by omega), fil_ne (by omega), fil_ne (by omega), sSt_ne (by omega), sSt_ne (by omega), sSt_ne (by omega), sSt_ne (by omega), sSt_ne (by omega), sSt_ne (by omega),
    qtak_c (by omega) (by omega) (by omega) (by omega)]
theorem s_from (hT : TInv M) (h : Rel M N L) (i : Int) : Rel (mFrom M i) (qmFrom N i) L ∧ qrFrom N i = rFrom M i := by
  unfold mFrom qmFrom qrFrom rFrom
  by_cases z : 0 ≤ i ∧ i ≤ 1
  · rw [if_pos z, if_pos z, if_pos z, if_pos z]
    obtain ⟨e, hi⟩ := imO_e z
    have d : RelI M N i.toNat := by
      rcases (show i = 0 ∨ i = 1 by omega) with rfl | rfl
      · exact h.2.2.2.2.2.1.1
      · exact h.2.2.2.2.2.1.2
    rw [d.1]
    by_cases z2 : M 194 i.toNat = 0
    · rw [if_pos z2, if_pos z2, if_pos z2]
      exact ⟨(rel_bad hT h).2.1, rfl⟩
    · rw [if_neg z2, if_neg z2, if_neg z2, e]
      obtain ⟨d1, d2⟩ := d.2 z2
      have ho : isB (98 + 48 * i.toNat) := by unfold isB; omega
      refine ⟨⟨rx_cg hT ho (fun x j l => cpy_lv l) (fun k j l => ?_) d1, ?_, rest_b hT (fun c hc => bCpy_out (by omega)) (fun c hc => qTA_c (by omega)) rfl rfl h.2.2⟩, rfl⟩
      · rw [qTA_at l, unr_at l]
      · rw [show (6 : Nat) = 1 + 5 from rfl, cpy_lv (by unfold lvb; omega)]; exact d2
  · rw [if_neg z, if_neg z, if_neg z, if_neg z]
    exact ⟨(rel_bad hT h).1, rfl⟩
end RI
