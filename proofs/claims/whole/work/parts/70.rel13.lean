/-! reading: the tokens are the same -/
theorem scn_c {P : Int → Prop} [DecidablePred P] {T U : Nat → Int} {n : Nat} (h : ∀ j, j < n → T j = U j) : ∀ f p, scn P T n f p = scn P U n f p
  | 0, _ => rfl
  | f + 1, p => by
    unfold scn
    rw [scn_c h f (p + 1)]
    refine if_congr' ⟨fun z => ⟨z.1, by rw [← h p z.1]; exact z.2⟩, fun z => ⟨z.1, by rw [h p z.1]; exact z.2⟩⟩
theorem scan_c {P : Int → Prop} [DecidablePred P] {T U : Nat → Int} {n p : Nat} (h : ∀ j, j < n → T j = U j) : scan P T n p = scan P U n p := scn_c h _ _
theorem numV_c {T U : Nat → Int} {s q n : Nat} (h : ∀ j, j < n → T j = U j) (hq : q ≤ n) : numV T s q = numV U s q := by
  unfold numV
  by_cases h1 : q ≤ s
  · rw [if_pos h1, if_pos h1]
  · rw [if_neg h1, if_neg h1, h s (by omega)]
    by_cases h2 : q = s + 1
    · rw [if_pos h2, if_pos h2]
    · rw [if_neg h2, if_neg h2, h (s + 1) (by omega)]
theorem q24 (P : Prop) [Decidable P] : (if P then (2 : Int) else 4) ≠ 3 := by split <;> decide
def RT (A B : sM) : Prop := (∀ j, j < rN A → A 196 j = B 270 j) ∧ rN A = qt B ∧ TInv A ∧ rOk A
section RN
variable {A B : sM}
theorem rt_s (h : RT A B) : tS A ≤ rN A := by
  have := tA_r h.2.2.1 h.2.2.2
  omega
theorem rt_fg (h : RT A B) (hs : tS A = qsp B) : qfg B = scan isFig (A 196) (rN A) (tS A) := by
  unfold qfg
  rw [← hs, ← h.2.1]
  exact (scan_c h.1).symm
theorem rt_fig (h : RT A B) (hs : tS A = qsp B) : (tS A < qfg B ↔ tS A < rN A ∧ isFig (A 196 (tS A))) ∧ tS A ≤ qfg B ∧ qfg B ≤ rN A := by
  have e := rt_fg h hs
  have hn := rt_s h
  have hr := scan_r isFig (A 196) hn
  rw [← e] at hr
  refine ⟨⟨fun z => ?_, fun z => ?_⟩, hr⟩
  · by_cases c : tS A < rN A ∧ isFig (A 196 (tS A))
    · exact c
    · rw [e, scan_n c] at z; omega
  · have := scan_s z.1 z.2
    rw [← e] at this; omega
theorem rt_k0 (h : RT A B) (hs : tS A = qsp B) : tK A = 0 ↔ ¬ qsp B < qt B := by
  rw [← hs, ← h.2.1]
  unfold tK tkK
  show (if rN A ≤ tS A then (0 : Int) else _) = 0 ↔ _
  by_cases c : rN A ≤ tS A
  · rw [if_pos c]; exact ⟨fun _ => by omega, fun _ => rfl⟩
  · rw [if_neg c]
    refine ⟨fun z => ?_, fun z => by omega⟩
    exfalso
    revert z
    repeat' split
    all_goals intro z; exact absurd z (by decide)
theorem rt_k3 (h : RT A B) (hs : tS A = qsp B) : (tK A = 3 ↔ enOk B) ∧ (tK A = 3 → tA A = qsp B + 1) := by
  have e : enOk B ↔ tS A < rN A ∧ A 196 (tS A) = 59 := by
    show (qsp B < qt B ∧ B 270 (qsp B) = 59) ↔ _
    rw [← hs, ← h.2.1]
    exact ⟨fun z => ⟨z.1, by rw [h.1 _ z.1]; exact z.2⟩, fun z => ⟨z.1, by rw [← h.1 _ z.1]; exact z.2⟩⟩
  rw [e, ← hs]
  have ek : tK A = if rN A ≤ tS A then 0 else if isLet (A 196 (tS A)) then 1 else if isFig (A 196 (tS A)) then (if tA A - tS A ≤ 2 then 2 else 4) else if A 196 (tS A) = 59 then 3 else 4 := rfl
  have ea : tA A = if rN A ≤ tS A then tS A else if isLet (A 196 (tS A)) then scan isLet (A 196) (rN A) (tS A) else if isFig (A 196 (tS A)) then scan isFig (A 196) (rN A) (tS A) else tS A + 1 := rfl
  rw [ek, ea]
  by_cases c : rN A ≤ tS A
  · rw [if_pos c]; exact ⟨⟨fun z => absurd z (by decide), fun z => by omega⟩, fun z => absurd z (by decide)⟩
  · rw [if_neg c, if_neg c]
    by_cases c1 : isLet (A 196 (tS A))
    · rw [if_pos c1]; exact ⟨⟨fun z => absurd z (by decide), fun z => by have := c1.1; omega⟩, fun z => absurd z (by decide)⟩
    · rw [if_neg c1, if_neg c1]
      by_cases c2 : isFig (A 196 (tS A))
      · rw [if_pos c2]
        refine ⟨⟨fun z => ?_, fun z => by have := c2.2; omega⟩, fun z => ?_⟩
        · exact absurd z (q24 _)
        · exact absurd z (q24 _)
      · rw [if_neg c2, if_neg c2]
        by_cases c3 : A 196 (tS A) = 59
        · rw [if_pos c3]; exact ⟨⟨fun _ => ⟨by omega, c3⟩, fun _ => rfl⟩, fun _ => rfl⟩
        · rw [if_neg c3]; exact ⟨⟨fun z => absurd z (by decide), fun z => absurd z.2 c3⟩, fun z => absurd z (by decide)⟩
theorem rt_num (h : RT A B) (hs : tS A = qsp B) : (tK A = 2 ↔ 1 ≤ qfg B - qsp B ∧ qfg B - qsp B ≤ 2) ∧ (tK A = 2 → tA A = qfg B ∧ tV A = nqV B) := by
  obtain ⟨f1, f2, f3⟩ := rt_fig h hs
  have ef := rt_fg h hs
  have en : nqV B = numV (A 196) (tS A) (qfg B) := by
    unfold nqV
    rw [← hs]
    exact (numV_c h.1 f3).symm
  have ek : tK A = if rN A ≤ tS A then 0 else if isLet (A 196 (tS A)) then 1 else if isFig (A 196 (tS A)) then (if tA A - tS A ≤ 2 then 2 else 4) else if A 196 (tS A) = 59 then 3 else 4 := rfl
  have ea : tA A = if rN A ≤ tS A then tS A else if isLet (A 196 (tS A)) then scan isLet (A 196) (rN A) (tS A) else if isFig (A 196 (tS A)) then scan isFig (A 196) (rN A) (tS A) else tS A + 1 := rfl
  have ev : tV A = if rN A ≤ tS A then A 195 6 else if isLet (A 196 (tS A)) then A 195 6 else if isFig (A 196 (tS A)) then numV (A 196) (tS A) (tA A) else A 195 6 := rfl
  rw [← hs]
  by_cases c2 : tS A < rN A ∧ isFig (A 196 (tS A))
  · have c1 : ¬ isLet (A 196 (tS A)) := fun z => by have := c2.2.2; have := z.1; omega
    have a : tA A = qfg B := by rw [ea, if_neg (by omega), if_neg c1, if_pos c2.2, ef]
    have v : tV A = nqV B := by rw [ev, if_neg (by omega), if_neg c1, if_pos c2.2, a, en]
    have k : tK A = if qfg B - tS A ≤ 2 then 2 else 4 := by rw [ek, if_neg (by omega), if_neg c1, if_pos c2.2, a]
    have lt := f1.mpr c2
    refine ⟨?_, fun _ => ⟨a, v⟩⟩
    rw [k]
    by_cases z : qfg B - tS A ≤ 2
    · rw [if_pos z]; exact ⟨fun _ => ⟨by omega, z⟩, fun _ => rfl⟩
    · rw [if_neg z]; exact ⟨fun q => absurd q (by decide), fun q => absurd q.2 z⟩
  · have no : tK A ≠ 2 := by
      rw [ek]
      by_cases c : rN A ≤ tS A
      · rw [if_pos c]; decide
      · rw [if_neg c]
        by_cases c1 : isLet (A 196 (tS A))
        · rw [if_pos c1]; decide
        · rw [if_neg c1, if_neg (fun z => c2 ⟨by omega, z⟩)]
          split <;> decide
    have := fun z => c2 (f1.mp z)
    exact ⟨⟨fun z => absurd z no, fun z => absurd (show tS A < qfg B by omega) this⟩, fun z => absurd z no⟩
theorem rt_ok (h : RT A B) (hs : tS A = qsp B) (lo hi : Int) : (nOk lo hi A ↔ nqOk lo hi B) ∧ (nOk lo hi A → tA A = qfg B ∧ tV A = nqV B) := by
  obtain ⟨n1, n2⟩ := rt_num h hs
  refine ⟨⟨fun z => ?_, fun z => ?_⟩, fun z => n2 z.1⟩
  · exact ⟨n1.mp z.1, by rw [← (n2 z.1).2]; exact z.2⟩
  · have k := n1.mpr z.1
    exact ⟨k, by rw [(n2 k).2]; exact z.2⟩
theorem rt_wd (h : RT A B) (hs : tS A = qsp B) (hq : rq B = qsp B) : wHere A = qWd B ∧ (tK A = 1 → tA A = rq B + wLn B) := by
  have hn := rt_s h
  have el : wLn B = scan isLet (A 196) (rN A) (tS A) - tS A := by
    unfold wLn
    rw [hq, ← hs, ← h.2.1, scan_c h.1]
  have hr := scan_r isLet (A 196) hn
  have ek : tK A = if rN A ≤ tS A then 0 else if isLet (A 196 (tS A)) then 1 else if isFig (A 196 (tS A)) then (if tA A - tS A ≤ 2 then 2 else 4) else if A 196 (tS A) = 59 then 3 else 4 := rfl
  have ea : tA A = if rN A ≤ tS A then tS A else if isLet (A 196 (tS A)) then scan isLet (A 196) (rN A) (tS A) else if isFig (A 196 (tS A)) then scan isFig (A 196) (rN A) (tS A) else tS A + 1 := rfl
  by_cases c : tS A < rN A ∧ isLet (A 196 (tS A))
  · have k1 : tK A = 1 := by rw [ek, if_neg (by omega), if_pos c.2]
    have a1 : tA A = scan isLet (A 196) (rN A) (tS A) := by rw [ea, if_neg (by omega), if_pos c.2]
    have eL : tA A = tS A + wLn B := by rw [el, a1]; omega
    refine ⟨?_, fun _ => by rw [eL, hs, hq]⟩
    unfold wHere
    rw [if_pos k1]
    have m : ∀ i, wMat (nxM A) i ↔ wLn B = lenS.getD i 0 ∧ wLq B i := fun i => by
      show (nxM A 195 3 - nxM A 195 4 = (lenS.getD i 0 : Nat) ∧ ∀ k, k < lenS.getD i 0 → nxM A 196 ((nxM A 195 4).toNat + k) = bytI i k) ↔ _
      unfold nxM
      rw [mRd_3, mRd_4, mRd_ne (by decide), Int.toNat_natCast, wLq_i]
      unfold wLt
      rw [hq, ← hs]
      constructor
      · rintro ⟨z1, z2⟩
        have z3 : wLn B = lenS.getD i 0 := by omega
        exact ⟨z3, fun k hk => by rw [← h.1 _ (by omega)]; exact z2 k hk⟩
      · rintro ⟨z1, z2⟩
        exact ⟨by omega, fun k hk => by rw [h.1 _ (by omega)]; exact z2 k hk⟩
    have m0 : wMat (nxM A) 0 ↔ wLn B = 5 ∧ wLq B 0 := m 0
    have m1 : wMat (nxM A) 1 ↔ wLn B = 4 ∧ wLq B 1 := m 1
    have m2 : wMat (nxM A) 2 ↔ wLn B = 6 ∧ wLq B 2 := m 2
    have m3 : wMat (nxM A) 3 ↔ wLn B = 4 ∧ wLq B 3 := m 3
    have m4 : wMat (nxM A) 4 ↔ wLn B = 4 ∧ wLq B 4 := m 4
    have m5 : wMat (nxM A) 5 ↔ wLn B = 5 ∧ wLq B 5 := m 5
    unfold wNo qWd
    rw [if_congr' m0, if_congr' m1, if_congr' m2, if_congr' m3, if_congr' m4, if_congr' m5]
    by_cases l4 : wLn B = 4
    · rw [if_pos l4, if_neg (fun z => by omega : ¬ (wLn B = 5 ∧ wLq B 0)), if_neg (fun z => by omega : ¬ (wLn B = 6 ∧ wLq B 2)), if_neg (fun z => by omega : ¬ (wLn B = 5 ∧ wLq B 5))]
      have e1 : (wLn B = 4 ∧ wLq B 1) ↔ wLq B 1 := ⟨fun z => z.2, fun z => ⟨l4, z⟩⟩
      have e3 : (wLn B = 4 ∧ wLq B 3) ↔ wLq B 3 := ⟨fun z => z.2, fun z => ⟨l4, z⟩⟩
      have e4 : (wLn B = 4 ∧ wLq B 4) ↔ wLq B 4 := ⟨fun z => z.2, fun z => ⟨l4, z⟩⟩
      rw [if_congr' e1, if_congr' e3, if_congr' e4]
    · rw [if_neg l4, if_neg (fun z => l4 z.1 : ¬ (wLn B = 4 ∧ wLq B 1)), if_neg (fun z => l4 z.1 : ¬ (wLn B = 4 ∧ wLq B 3)), if_neg (fun z => l4 z.1 : ¬ (wLn B = 4 ∧ wLq B 4))]
      by_cases l5 : wLn B = 5
      · have e0 : (wLn B = 5 ∧ wLq B 0) ↔ wLq B 0 := ⟨fun z => z.2, fun z => ⟨l5, z⟩⟩
        have e5 : (wLn B = 5 ∧ wLq B 5) ↔ wLq B 5 := ⟨fun z => z.2, fun z => ⟨l5, z⟩⟩
        rw [if_pos l5, if_neg (fun z => by omega : ¬ (wLn B = 6 ∧ wLq B 2)), if_congr' e0, if_congr' e5]
      · rw [if_neg l5, if_neg (fun z => l5 z.1 : ¬ (wLn B = 5 ∧ wLq B 0)), if_neg (fun z => l5 z.1 : ¬ (wLn B = 5 ∧ wLq B 5))]
        by_cases l6 : wLn B = 6
        · have e2 : (wLn B = 6 ∧ wLq B 2) ↔ wLq B 2 := ⟨fun z => z.2, fun z => ⟨l6, z⟩⟩
          rw [if_pos l6, if_congr' e2]
        · rw [if_neg l6, if_neg (fun z => l6 z.1 : ¬ (wLn B = 6 ∧ wLq B 2))]
  · have k1 : tK A ≠ 1 := by
      rw [ek]
      by_cases c0 : rN A ≤ tS A
      · rw [if_pos c0]; decide
      · rw [if_neg c0, if_neg (fun z => c ⟨by omega, z⟩)]
        repeat' split
        all_goals decide
    have l0 : wLn B = 0 := by rw [el, scan_n c]; omega
    refine ⟨?_, fun z => absurd z k1⟩
    unfold wHere qWd
    rw [if_neg k1, l0, if_neg (by decide), if_neg (by decide), if_neg (by decide)]
end RN
