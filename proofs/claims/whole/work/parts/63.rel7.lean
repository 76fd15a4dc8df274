/-! what is seen, noted, marked, forgotten; status -/
section RH
variable {M N : sM} {L : sL}
theorem tadd_c {k w c : Nat} {x y z u : Int} (h1 : c ≠ k) (h2 : c ≠ k + 1) : tadd M k w x y z u c = M c := by
  unfold tadd
  rw [sSt_ne h1, tput_ne h2, tput_ne h2, tput_ne h2, tput_ne h2]
/-- nothing but tables change -/
theorem rel_tab {M' N' : sM} (hT : TInv M) (hM : ∀ c, c < 11 ∨ 17 ≤ c → M' c = M c) (hN : ∀ c j, c < 267 ∨ 269 < c → ¬ (c = 258 ∧ (j = 5 ∨ j = 6 ∨ j = 7)) → N' c j = N c j) (hc : RelC M' N' 1) (ht : RelT M' N' 1) (h : Rel M N L) : Rel M' N' L := by
  have hn : ∀ c, c < 267 ∨ 269 < c → c ≠ 258 → N' c = N c := fun c h1 h2 => funext fun j => hN c j h1 (by omega)
  have r3 := nU_r hT ho1
  refine ⟨⟨hc, ht, ru_cg (fun c h1 h2 => hM c (by omega)) (by rw [hM 1 (by decide)]) (by rw [hM 1 (by decide)]) (by rw [hM 1 (by decide)]) (hn 272 (by decide) (by decide)) (hN 258 25 (by decide) (by decide)) (by omega) h.1.2.2⟩, by rw [hM 6 (by decide)]; exact h.2.1, rest_b hT (fun c hc => hM c (by omega)) (fun c hc => hn c (by omega) (by omega)) (hN 258 19 (by decide) (by decide)) (hN 258 23 (by decide) (by decide)) h.2.2⟩
theorem s_seen (hT : TInv M) (h : Rel M N L) (m c : Int) : Rel (mSeen M m c) (qmSeen N m c) L ∧ qrSeen N m c = rSeen M m c := by
  unfold mSeen qmSeen qrSeen rSeen
  obtain ⟨⟨t1, t2, t3⟩, t4, t5, t6⟩ := h.1.2.1
  have t1' : N 258 5 = M 11 3 := t1
  have r : 0 ≤ M 11 3 ∧ M 11 3 ≤ 5 := tv hT (k := 11) (j := 3) rfl
  have eq : qs N = (M 11 3).toNat := by unfold qs; rw [t1']
  rw [t1']
  by_cases z : (0 ≤ m ∧ m ≤ 60) ∧ (0 ≤ c ∧ c ≤ 11)
  · rw [if_pos z, if_pos z, if_pos z, if_pos z]
    by_cases z2 : M 11 3 < 5
    · rw [if_pos z2, if_pos z2, if_neg (by omega), if_neg (by omega)]
      refine ⟨rel_tab hT (fun a ha => tadd_c (by omega) (by omega)) (fun a j h1 h2 => ?_) h.1.1 ⟨⟨?_, t2, t3⟩, fun j hj => ?_, t5, t6⟩ h, rfl⟩
      · unfold qAS
        rw [sSt_at, if_neg (by omega), sSt_ne (by omega), sSt_ne (by omega)]
      · show N 258 5 + 1 = M 11 3 + 1; rw [t1']
      · have hj2 : (j : Int) < 2 * (M 11 3 + 1) := hj
        show (if j = 2 * qs N + 1 then c else if j = 2 * qs N then m else N 267 j) = (if j = (M 11 3).toNat * 2 + 1 then c else if j = (M 11 3).toNat * 2 + 0 then m else M (1 + 11) j)
        rw [eq]
        by_cases e1 : j = (M 11 3).toNat * 2 + 1
        · rw [if_pos e1, if_pos (by omega)]
        · rw [if_neg e1, if_neg (by omega)]
          by_cases e2 : j = (M 11 3).toNat * 2 + 0
          · rw [if_pos e2, if_pos (by omega)]
          · rw [if_neg e2, if_neg (by omega)]
            exact t4 j (by show (j : Int) < 2 * M 11 3; omega)
    · rw [if_neg z2, if_neg z2, if_pos (by omega), if_pos (by omega)]
      exact ⟨(rel_bad hT h).2.2, rfl⟩
  · rw [if_neg z, if_neg z, if_neg z, if_neg z]
    exact ⟨(rel_bad hT h).1, rfl⟩
theorem s_note (hT : TInv M) (h : Rel M N L) (s w d x : Int) : Rel (mNote M s w d x) (qmNote N s w d x) L ∧ qrNote N s w d x = rNote M s w d x := by
  unfold mNote qmNote qrNote rNote
  obtain ⟨⟨t1, t2, t3⟩, t4, t5, t6⟩ := h.1.2.1
  have t1' : N 258 6 = M 13 3 := t2
  have r : 0 ≤ M 13 3 ∧ M 13 3 ≤ 6 := tv hT (k := 13) (j := 3) rfl
  have eq : qo N = (M 13 3).toNat := by unfold qo; rw [t1']
  have eo : qokNote N s w d x ↔ okNote M s w d x := by
    show (isQS N s ∧ _) ↔ (isSou M s ∧ _)
    rw [rc_S h.1.1]
  rw [t1', if_congr' eo, if_congr' eo]
  by_cases z : okNote M s w d x
  · rw [if_pos z, if_pos z, if_pos z, if_pos z]
    by_cases z2 : M 13 3 < 6
    · rw [if_pos z2, if_pos z2, if_neg (by omega), if_neg (by omega)]
      refine ⟨rel_tab hT (fun a ha => tadd_c (by omega) (by omega)) (fun a j h1 h2 => ?_) h.1.1 ⟨⟨t1, ?_, t3⟩, t4, fun j hj => ?_, t6⟩ h, rfl⟩
      · unfold qAN
        rw [sSt_at, if_neg (by omega), sSt_ne (by omega), sSt_ne (by omega), sSt_ne (by omega), sSt_ne (by omega)]
      · show N 258 6 + 1 = M 13 3 + 1; rw [t1']
      · have hj2 : (j : Int) < 4 * (M 13 3 + 1) := hj
        show (if j = 4 * qo N + 3 then x else if j = 4 * qo N + 2 then d else if j = 4 * qo N + 1 then w else if j = 4 * qo N then s else N 268 j) = (if j = (M 13 3).toNat * 4 + 3 then x else if j = (M 13 3).toNat * 4 + 2 then d else if j = (M 13 3).toNat * 4 + 1 then w else if j = (M 13 3).toNat * 4 + 0 then s else M (1 + 13) j)
        rw [eq]
        by_cases e1 : j = (M 13 3).toNat * 4 + 3
        · rw [if_pos e1, if_pos (by omega)]
        · rw [if_neg e1, if_neg (by omega)]
          by_cases e2 : j = (M 13 3).toNat * 4 + 2
          · rw [if_pos e2, if_pos (by omega)]
          · rw [if_neg e2, if_neg (by omega)]
            by_cases e3 : j = (M 13 3).toNat * 4 + 1
            · rw [if_pos e3, if_pos (by omega)]
            · rw [if_neg e3, if_neg (by omega)]
              by_cases e4 : j = (M 13 3).toNat * 4 + 0
              · rw [if_pos e4, if_pos (by omega)]
              · rw [if_neg e4, if_neg (by omega)]
                exact t5 j (by show (j : Int) < 4 * M 13 3; omega)
    · rw [if_neg z2, if_neg z2, if_pos (by omega), if_pos (by omega)]
      exact ⟨(rel_bad hT h).2.2, rfl⟩
  · rw [if_neg z, if_neg z, if_neg z, if_neg z]
    exact ⟨(rel_bad hT h).1, rfl⟩
theorem s_mark (hT : TInv M) (h : Rel M N L) (i x y : Int) : Rel (mMark M i x y) (qmMark N i x y) L ∧ qrMark N i x y = rMark M i x y := by
  unfold mMark qmMark qrMark rMark
  obtain ⟨⟨t1, t2, t3⟩, t4, t5, t6⟩ := h.1.2.1
  have t1' : N 258 7 = M 15 3 := t3
  have r : 0 ≤ M 15 3 ∧ M 15 3 ≤ 6 := tv hT (k := 15) (j := 3) rfl
  have eq : qm N = (M 15 3).toNat := by unfold qm; rw [t1']
  have eo : qokMark N i x y ↔ okMark M i x y := by
    show (isQC N i ∧ _) ↔ (isCal M i ∧ _)
    rw [rc_K h.1.1]
  rw [t1', if_congr' eo, if_congr' eo]
  by_cases z : okMark M i x y
  · rw [if_pos z, if_pos z, if_pos z, if_pos z]
    by_cases z2 : M 15 3 < 6
    · rw [if_pos z2, if_pos z2, if_neg (by omega), if_neg (by omega)]
      refine ⟨rel_tab hT (fun a ha => tadd_c (by omega) (by omega)) (fun a j h1 h2 => ?_) h.1.1 ⟨⟨t1, t2, ?_⟩, t4, t5, fun j hj => ?_⟩ h, rfl⟩
      · unfold qAK
        rw [sSt_at, if_neg (by omega), sSt_ne (by omega), sSt_ne (by omega), sSt_ne (by omega)]
      · show N 258 7 + 1 = M 15 3 + 1; rw [t1']
      · have hj2 : (j : Int) < 3 * (M 15 3 + 1) := hj
        show (if j = 3 * qm N + 2 then y else if j = 3 * qm N + 1 then x else if j = 3 * qm N then i else N 269 j) = (if j = (M 15 3).toNat * 3 + 2 then y else if j = (M 15 3).toNat * 3 + 1 then x else if j = (M 15 3).toNat * 3 + 0 then i else M (1 + 15) j)
        rw [eq]
        by_cases e1 : j = (M 15 3).toNat * 3 + 2
        · rw [if_pos e1, if_pos (by omega)]
        · rw [if_neg e1, if_neg (by omega)]
          by_cases e2 : j = (M 15 3).toNat * 3 + 1
          · rw [if_pos e2, if_pos (by omega)]
          · rw [if_neg e2, if_neg (by omega)]
            by_cases e3 : j = (M 15 3).toNat * 3 + 0
            · rw [if_pos e3, if_pos (by omega)]
            · rw [if_neg e3, if_neg (by omega)]
              exact t6 j (by show (j : Int) < 3 * M 15 3; omega)
    · rw [if_neg z2, if_neg z2, if_pos (by omega), if_pos (by omega)]
      exact ⟨(rel_bad hT h).2.2, rfl⟩
  · rw [if_neg z, if_neg z, if_neg z, if_neg z]
    exact ⟨(rel_bad hT h).1, rfl⟩
theorem s_forget (hT : TInv M) (h : Rel M N L) (w : Int) : Rel (mForget M w) (qmForget N w) L ∧ qrForget N w = rForget M w := by
  unfold mForget qmForget qrForget rForget
  obtain ⟨⟨t1, t2, t3⟩, t4, t5, t6⟩ := h.1.2.1
  have fN : ∀ v, ∀ c j, c < 267 ∨ 269 < c → ¬ (c = 258 ∧ (j = 5 ∨ j = 6 ∨ j = 7)) → qFg N v c j = N c j := fun v c j h1 h2 => by
    unfold qFg
    rw [sSt_at, if_neg (by omega), sSt_at, if_neg (by omega), sSt_at, if_neg (by omega)]
  by_cases z0 : w = 0
  · subst z0
    exact ⟨rel_tab hT (fun a ha => sSt_ne (by omega)) (fN 0) h.1.1 ⟨⟨rfl, t2, t3⟩, fun j hj => absurd (show (j : Int) < 2 * 0 from hj) (by omega), t5, t6⟩ h, t1⟩
  by_cases z1 : w = 1
  · subst z1
    exact ⟨rel_tab hT (fun a ha => sSt_ne (by omega)) (fN 1) h.1.1 ⟨⟨t1, rfl, t3⟩, t4, fun j hj => absurd (show (j : Int) < 4 * 0 from hj) (by omega), t6⟩ h, t2⟩
  by_cases z2 : w = 2
  · subst z2
    exact ⟨rel_tab hT (fun a ha => sSt_ne (by omega)) (fN 2) h.1.1 ⟨⟨t1, t2, rfl⟩, t4, t5, fun j hj => absurd (show (j : Int) < 3 * 0 from hj) (by omega)⟩ h, t3⟩
  · rw [if_neg z0, if_neg z1, if_neg z2, if_neg (by omega), if_neg (by omega), if_neg z0, if_neg z1, if_neg z2]
    exact ⟨(rel_bad hT h).1, rfl⟩
theorem e_status (h : Rel M N L) (w : Int) : qrStatus N w = rStatus M w := by
  unfold qrStatus rStatus
  obtain ⟨b1, b2, b3⟩ := h.2.2.2.1
  by_cases z0 : w = 0
  · subst z0; exact b1
  by_cases z1 : w = 1
  · subst z1; exact b2
  by_cases z2 : w = 2
  · subst z2; exact b3
  · rw [if_neg (by omega), if_neg z0, if_neg z1, if_neg z2]
/-- nothing but what is refused -/
theorem s_b (hT : TInv M) (h : Rel M N L) {P Q : Prop} [Decidable P] [Decidable Q] (e : Q ↔ P) : Rel (mB M P) (qB N Q) L := by
  unfold mB qB
  by_cases z : P
  · rw [if_pos z, if_pos (e.mpr z)]; exact h
  · rw [if_neg z, if_neg (fun q => z (e.mp q))]; exact (rel_bad hT h).1
end RH
