/-! the memory at first -/
def mI : sM := fun k j => if k = 0 ∧ j = 9 then 1 else if k = 11 ∨ k = 59 ∨ k = 108 ∨ k = 156 ∨ k = 207 then tR 5 2 j else if k = 13 ∨ k = 61 ∨ k = 110 ∨ k = 158 ∨ k = 209 then tR 6 4 j else if k = 15 ∨ k = 63 ∨ k = 112 ∨ k = 160 ∨ k = 211 then tR 6 3 j else 0
def lI : sL := fun k j => if k = 258 ∧ j = 32 then 1 else 0
theorem if_P {c : Prop} [Decidable c] {a b : sR} (h1 : a.1 ≤ 0 ∧ 0 ≤ a.2) (h2 : b.1 ≤ 0 ∧ 0 ≤ b.2) : (if c then a else b).1 ≤ 0 ∧ 0 ≤ (if c then a else b).2 := by
  by_cases h : c
  · rw [if_pos h]; exact h1
  · rw [if_neg h]; exact h2
theorem rgM_0 (j : Nat) : (rgM j).1 ≤ 0 ∧ 0 ≤ (rgM j).2 := by
  unfold rgM
  repeat' split
  all_goals decide
theorem rgE_0 (j : Nat) : (rgE j).1 ≤ 0 ∧ 0 ≤ (rgE j).2 := by
  unfold rgE
  repeat' (first | exact rgM_0 _ | refine if_P ?_ ?_ | decide)
theorem rgR_0 (k j : Nat) : (rgR k j).1 ≤ 0 ∧ 0 ≤ (rgR k j).2 := by
  unfold rgR
  repeat' (first | exact rgM_0 _ | exact rgE_0 _ | refine if_P ?_ ?_ | decide)
theorem rgMo_0 (j : Nat) : (rgMo j).1 ≤ 0 ∧ 0 ≤ (rgMo j).2 := by
  unfold rgMo
  repeat' split
  all_goals decide
theorem rgB_0 {i : Nat} (j : Nat) (h : i ≠ 10 ∧ i ≠ 12 ∧ i ≠ 14) : (rgB i j).1 ≤ 0 ∧ 0 ≤ (rgB i j).2 := by
  unfold rgB
  rw [if_neg h.1, if_neg h.2.1, if_neg h.2.2]
  repeat' (first | exact rgMo_0 _ | refine if_P ?_ ?_ | decide)
theorem rgB_10 (j : Nat) : (rgB 10 j).1 ≤ tR 5 2 j ∧ tR 5 2 j ≤ (rgB 10 j).2 := by
  show (if j = 0 then ((5, 5) : sR) else if j = 1 then (2, 2) else if j = 3 then (0, 5) else (-1000000000, 1000000000)).1 ≤ (if j = 0 then 5 else if j = 1 then 2 else 0) ∧ (if j = 0 then 5 else if j = 1 then 2 else 0) ≤ (if j = 0 then ((5, 5) : sR) else if j = 1 then (2, 2) else if j = 3 then (0, 5) else (-1000000000, 1000000000)).2
  repeat' split
  all_goals decide
theorem rgB_12 (j : Nat) : (rgB 12 j).1 ≤ tR 6 4 j ∧ tR 6 4 j ≤ (rgB 12 j).2 := by
  show (if j = 0 then ((6, 6) : sR) else if j = 1 then (4, 4) else if j = 3 then (0, 6) else (-1000000000, 1000000000)).1 ≤ (if j = 0 then 6 else if j = 1 then 4 else 0) ∧ (if j = 0 then 6 else if j = 1 then 4 else 0) ≤ (if j = 0 then ((6, 6) : sR) else if j = 1 then (4, 4) else if j = 3 then (0, 6) else (-1000000000, 1000000000)).2
  repeat' split
  all_goals decide
theorem rgB_14 (j : Nat) : (rgB 14 j).1 ≤ tR 6 3 j ∧ tR 6 3 j ≤ (rgB 14 j).2 := by
  show (if j = 0 then ((6, 6) : sR) else if j = 1 then (3, 3) else if j = 3 then (0, 6) else (-1000000000, 1000000000)).1 ≤ (if j = 0 then 6 else if j = 1 then 3 else 0) ∧ (if j = 0 then 6 else if j = 1 then 3 else 0) ≤ (if j = 0 then ((6, 6) : sR) else if j = 1 then (3, 3) else if j = 3 then (0, 6) else (-1000000000, 1000000000)).2
  repeat' split
  all_goals decide
theorem mI_0 {k : Nat} (j : Nat) (h0 : k ≠ 0) (h : ∀ o, isB o → k ≠ o + 10 ∧ k ≠ o + 12 ∧ k ≠ o + 14) : mI k j = 0 := by
  have a := h 1 (by unfold isB; omega)
  have b := h 49 (by unfold isB; omega)
  have c := h 98 (by unfold isB; omega)
  have d := h 146 (by unfold isB; omega)
  have e := h 197 (by unfold isB; omega)
  unfold mI
  rw [if_neg (fun z => h0 z.1), if_neg (by omega), if_neg (by omega), if_neg (by omega)]
theorem mI_B {o i : Nat} (ho : isB o) (hi : i < 48) (j : Nat) : (rgB i j).1 ≤ mI (o + i) j ∧ mI (o + i) j ≤ (rgB i j).2 := by
  have ho' : o = 1 ∨ o = 49 ∨ o = 98 ∨ o = 146 ∨ o = 197 := ho
  by_cases h1 : i = 10
  · subst h1
    have e : mI (o + 10) j = tR 5 2 j := by
      unfold mI
      rw [if_neg (by omega), if_pos (by omega)]
    rw [e]; exact rgB_10 j
  by_cases h2 : i = 12
  · subst h2
    have e : mI (o + 12) j = tR 6 4 j := by
      unfold mI
      rw [if_neg (by omega), if_neg (by omega), if_pos (by omega)]
    rw [e]; exact rgB_12 j
  by_cases h3 : i = 14
  · subst h3
    have e : mI (o + 14) j = tR 6 3 j := by
      unfold mI
      rw [if_neg (by omega), if_neg (by omega), if_neg (by omega), if_pos (by omega)]
    rw [e]; exact rgB_14 j
  rw [mI_0 j (by omega) (fun o2 h => by unfold isB at h; omega)]
  exact rgB_0 j ⟨h1, h2, h3⟩
theorem mI_T : TInv mI := by
  intro k j
  have bl : ∀ o, isB o → o ≤ k → k < o + 48 → (rg k j).1 ≤ mI k j ∧ mI k j ≤ (rg k j).2 := fun o ho h1 h2 => by
    have := mI_B ho (i := k - o) (by omega) j
    rw [← rg_B ho (by omega), show o + (k - o) = k by omega] at this
    exact this
  by_cases b1 : 1 ≤ k ∧ k < 49
  · exact bl 1 (by unfold isB; omega) b1.1 b1.2
  by_cases b2 : 49 ≤ k ∧ k < 97
  · exact bl 49 (by unfold isB; omega) b2.1 b2.2
  by_cases b3 : 98 ≤ k ∧ k < 146
  · exact bl 98 (by unfold isB; omega) b3.1 b3.2
  by_cases b4 : 146 ≤ k ∧ k < 194
  · exact bl 146 (by unfold isB; omega) b4.1 b4.2
  by_cases b5 : 197 ≤ k ∧ k < 245
  · exact bl 197 (by unfold isB; omega) b5.1 b5.2
  by_cases h0 : k = 0
  · subst h0
    show (if j = 8 then ((0, 2000) : sR) else if j = 9 then (1, 10) else if 10 ≤ j then (0, 1000000000) else (-1000000000, 1000000000)).1 ≤ (if 0 = 0 ∧ j = 9 then (1 : Int) else 0) ∧ (if 0 = 0 ∧ j = 9 then (1 : Int) else 0) ≤ (if j = 8 then ((0, 2000) : sR) else if j = 9 then (1, 10) else if 10 ≤ j then (0, 1000000000) else (-1000000000, 1000000000)).2
    by_cases j9 : j = 9
    · subst j9; decide
    · rw [if_neg (show ¬ (0 = 0 ∧ j = 9) from fun z => j9 z.2), if_neg (show ¬ j = 9 from j9)]
      repeat' (first | refine if_P ?_ ?_ | decide)
  rw [mI_0 j h0 (fun o ho => by unfold isB at ho; omega)]
  unfold rg
  rw [if_neg h0, if_neg (by omega), if_neg (by omega)]
  by_cases h97 : k = 97
  · rw [if_pos h97]; decide
  rw [if_neg h97, if_neg (by omega), if_neg (by omega)]
  by_cases h194 : k = 194
  · rw [if_pos h194]; decide
  rw [if_neg h194]
  by_cases h195 : k = 195
  · rw [if_pos h195]
    repeat' (first | refine if_P ?_ ?_ | decide)
  rw [if_neg h195]
  by_cases h196 : k = 196
  · rw [if_pos h196]; decide
  rw [if_neg h196, if_neg (by omega)]
  repeat' (first | exact rgR_0 _ _ | refine if_P ?_ ?_ | decide)
theorem mI_R : Rel mI mI lI := by
  refine ⟨⟨⟨⟨rfl, rfl, rfl, rfl⟩, fun c _ => rfl, fun s hs => absurd hs (Nat.not_lt_zero s), fun s hs => absurd hs (Nat.not_lt_zero s), fun s hs => absurd hs (Nat.not_lt_zero s), fun s t hs => absurd hs (Nat.not_lt_zero s)⟩,
    ⟨⟨rfl, rfl, rfl⟩, fun j hj => absurd (show (j : Int) < 2 * 0 from hj) (by omega), fun j hj => absurd (show (j : Int) < 4 * 0 from hj) (by omega), fun j hj => absurd (show (j : Int) < 3 * 0 from hj) (by omega)⟩, ru_0 rfl rfl⟩, by decide,
    ⟨rfl, fun j hj => absurd (show (j : Int) < 0 from hj) (by omega)⟩, ⟨rfl, rfl, rfl⟩, ⟨by decide +kernel, by decide +kernel⟩, ⟨⟨rfl, fun z => absurd rfl z⟩, ⟨rfl, fun z => absurd rfl z⟩⟩, rfl⟩
