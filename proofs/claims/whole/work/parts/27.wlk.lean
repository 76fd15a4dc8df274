/-! WalkSearch: a state is a comber's cell and a set, as one number; a row of steps is a number in threes -/
def clp (x : Nat) : Nat := min 11 (x - 1)
theorem clp_le (x : Nat) : clp x ≤ 11 := Nat.min_le_left _ _
def stpC (ly : Nat → Nat) (x s : Nat) : Nat := clp (x / 64 + s) * 64 + sDel (x % 64) (ly (clp (x / 64 + s)))
theorem stpC_b (ly : Nat → Nat) (x s : Nat) : sDel (x % 64) (ly (clp (x / 64 + s))) < 64 := sDel_lt (Nat.mod_lt _ (by decide))
theorem stpC_lt (ly : Nat → Nat) (x s : Nat) : stpC ly x s < 768 := by
  have h1 := clp_le (x / 64 + s)
  have h2 := stpC_b ly x s
  unfold stpC
  omega
theorem stpC_m (ly : Nat → Nat) (x s : Nat) : stpC ly x s % 64 = sDel (x % 64) (ly (clp (x / 64 + s))) := by
  have h2 := stpC_b ly x s
  unfold stpC
  omega
theorem stpC_d (ly : Nat → Nat) (x s : Nat) : stpC ly x s / 64 = clp (x / 64 + s) := by
  have h2 := stpC_b ly x s
  unfold stpC
  omega
/-- what lies where -/
def lyS (M : sM) (left k c : Nat) : Nat := bits (fun s => left.testBit s = true ∧ M 251 s = (c : Int)) k
def lyR (M : sM) (left k : Nat) : Nat → Int := fun j => if j < 12 then (lyS M left k j : Int) else M 252 j
def zrR (M : sM) (k : Nat) : Nat → Int := fun j => if j < k then 0 else M 252 j
theorem zrR_0 (M : sM) : M = sSr M 252 (zrR M 0) := by
  funext c j
  rw [sSr_at]
  by_cases hc : c = 252
  · rw [if_pos hc, hc]; rfl
  · rw [if_neg hc]
theorem zrR_s (M : sM) (k : Nat) : sSt (sSr M 252 (zrR M k)) 252 k 0 = sSr M 252 (zrR M (k + 1)) := by
  funext c j
  rw [sSt_at, sSr_at, sSr_at]
  unfold zrR
  by_cases hc : c = 252
  · rw [if_pos hc, if_pos hc]
    by_cases hj : j = k
    · rw [if_pos ⟨hc, hj⟩, if_pos (by omega)]
    · rw [if_neg (fun z => hj z.2)]
      exact if_congr' (by omega)
  · rw [if_neg hc, if_neg hc, if_neg (fun z => hc z.1)]
theorem lyR_0 (M : sM) (left : Nat) : sSr M 252 (zrR M 12) = sSr M 252 (lyR M left 0) := by
  have e : zrR M 12 = lyR M left 0 := by
    funext j
    unfold zrR lyR lyS bits
    rfl
  rw [e]
theorem lyR_n {M : sM} {left k : Nat} (h : ¬ left.testBit k = true) : sSr M 252 (lyR M left k) = sSr M 252 (lyR M left (k + 1)) := by
  have e : lyR M left k = lyR M left (k + 1) := by
    funext j
    unfold lyR lyS
    rw [bits_n (fun z => h z.1)]
  rw [e]
theorem lyR_y {M : sM} {left k c : Nat} (h : left.testBit k = true) (hc : M 251 k = (c : Int)) (hc2 : c < 12) : sSt (sSr M 252 (lyR M left k)) 252 c ((lyS M left k c ||| 2 ^ k : Nat) : Int) = sSr M 252 (lyR M left (k + 1)) := by
  funext a j
  rw [sSt_at, sSr_at, sSr_at]
  by_cases ha : a = 252
  · rw [if_pos ha, if_pos ha]
    unfold lyR
    by_cases hj : j = c
    · rw [if_pos ⟨ha, hj⟩, if_pos (by omega)]
      unfold lyS
      rw [hj, bits_y (p := fun s => left.testBit s = true ∧ M 251 s = (c : Int)) ⟨h, hc⟩]
    · rw [if_neg (fun z => hj z.2)]
      unfold lyS
      rw [bits_n (p := fun s => left.testBit s = true ∧ M 251 s = (j : Int)) (fun z => hj (by have := z.2; omega))]
  · rw [if_neg ha, if_neg ha, if_neg (fun z => ha z.1)]
theorem lyS_lt (M : sM) (left c : Nat) {k : Nat} (h : k ≤ 6) : lyS M left k c < 64 := bits_lt6 _ h
/-- where they are a tide on -/
def drR (M : sM) (left k : Nat) : Nat → Int := fun s => if s < k ∧ left.testBit s = true then driN (M 2) 1 (M 251 s) else M 251 s
theorem drR_0 (M : sM) (left : Nat) : M = sSr M 251 (drR M left 0) := by
  funext c j
  rw [sSr_at]
  by_cases hc : c = 251
  · rw [if_pos hc, hc]; exact (if_neg (fun z => absurd z.1 (Nat.not_lt_zero _))).symm
  · rw [if_neg hc]
theorem drR_n {M : sM} {left k : Nat} (h : ¬ left.testBit k = true) : sSr M 251 (drR M left k) = sSr M 251 (drR M left (k + 1)) := by
  have e : drR M left k = drR M left (k + 1) := by
    funext j
    unfold drR
    refine if_congr' ⟨fun z => ⟨by omega, z.2⟩, fun z => ⟨?_, z.2⟩⟩
    by_cases hj : j = k
    · rw [hj] at z; exact absurd z.2 h
    · have := z.1; omega
  rw [e]
theorem drR_y {M : sM} {left k : Nat} (h : left.testBit k = true) : sSt (sSr M 251 (drR M left k)) 251 k (driN (M 2) 1 (M 251 k)) = sSr M 251 (drR M left (k + 1)) := by
  funext a j
  rw [sSt_at, sSr_at, sSr_at]
  by_cases ha : a = 251
  · rw [if_pos ha, if_pos ha]
    unfold drR
    by_cases hj : j = k
    · rw [if_pos ⟨ha, hj⟩, hj, if_pos ⟨by omega, h⟩]
    · rw [if_neg (fun z => hj z.2)]
      exact if_congr' ⟨fun z => ⟨by omega, z.2⟩, fun z => ⟨by omega, z.2⟩⟩
  · rw [if_neg ha, if_neg ha, if_neg (fun z => ha z.1)]
/-! one more step from all states -/
def ordd (n : Nat) (v : Nat → Nat) : Prop := ∀ p q, p < q → q < n → v p < v q
def bef (i s n t : Nat) : Prop := i < n ∨ (i = n ∧ s < t)
def nxI (ly cs vs : Nat → Nat) (N n t m : Nat) (c2 v2 : Nat → Nat) : Prop :=
  (∀ q, q < m → ∃ i s, bef i s n t ∧ i < N ∧ s < 3 ∧ c2 q = stpC ly (cs i) s ∧ v2 q = vs i * 3 + s) ∧ ordd m v2 ∧
    (∀ i s, bef i s n t → i < N → s < 3 → ∃ q, q < m ∧ c2 q = stpC ly (cs i) s ∧ v2 q ≤ vs i * 3 + s) ∧ (∀ i s, bef i s n t → i < N → s < 3 → stpC ly (cs i) s % 64 ≠ 0)
def stI (S : Nat → Int) (st : Int) (m : Nat) (c2 : Nat → Nat) : Prop :=
  (∀ j, j < 768 → (S j = st ↔ ∃ q, q < m ∧ c2 q = j)) ∧ (m : Int) = cnt (fun j => S j = st) 768 ∧ ∀ j, S j ≤ st
def soI (M : sM) (L : sL) (ly cs vs : Nat → Nat) (N n t m : Nat) (M1 : sM) (L1 : sL) : Prop :=
  ∃ c2 v2 : Nat → Nat, nxI ly cs vs N n t m c2 v2 ∧ stI (M1 250) (M 245 7 + 1) m c2 ∧ (∀ q, q < m → M1 247 q = (c2 q : Int)) ∧ (∀ q, q < m → L1 249 q = lN (v2 q)) ∧
    (∀ c, c ≠ 245 → c ≠ 247 → c ≠ 250 → M1 c = M c) ∧ (∀ j, M1 245 j = if j = 7 then M 245 7 + 1 else M 245 j) ∧ (∀ c, c ≠ 249 → L1 c = L c)
theorem cnt_0 {p : Nat → Prop} [DecidablePred p] : ∀ {n : Nat}, (∀ k, k < n → ¬ p k) → cnt p n = 0
  | 0, _ => rfl
  | n + 1, h => by
    rw [cnt_n (h n (Nat.lt_succ_self n))]
    exact cnt_0 (fun k hk => h k (by omega))
theorem cnt_lt {p : Nat → Prop} [DecidablePred p] {j : Nat} (hj : ¬ p j) : ∀ {n : Nat}, j < n → cnt p n < n
  | 0, h => absurd h (Nat.not_lt_zero _)
  | n + 1, h => by
    have hr := cnt_r p n
    by_cases e : j = n
    · rw [← e, cnt_n hj]
      rw [← e] at hr
      omega
    · have ih := cnt_lt hj (n := n) (by omega)
      by_cases hp : p n
      · rw [cnt_y hp]; omega
      · rw [cnt_n hp]; omega
theorem cnt_up {p q : Nat → Prop} [DecidablePred p] [DecidablePred q] {j : Nat} (hj : ¬ p j) (hq : q j) (ho : ∀ i, i ≠ j → (p i ↔ q i)) : ∀ {n : Nat}, j < n → cnt q n = cnt p n + 1
  | 0, h => absurd h (Nat.not_lt_zero _)
  | n + 1, h => by
    by_cases e : j = n
    · rw [← e, cnt_n hj, cnt_y hq, cnt_c (p := p) (q := q) (fun i hi => ho i (by omega))]
    · have ih := cnt_up hj hq ho (n := n) (by omega)
      by_cases hp : p n
      · rw [cnt_y hp, cnt_y ((ho n (fun z => e z.symm)).mp hp), ih]
      · rw [cnt_n hp, cnt_n (fun z => hp ((ho n (fun z => e z.symm)).mpr z)), ih]
theorem soI_0 {M : sM} {L : sL} (ly cs vs : Nat → Nat) (N : Nat) (hs : ∀ j, M 250 j ≤ M 245 7) : soI M L ly cs vs N 0 0 0 (sSt M 245 7 (M 245 7 + 1)) L := by
  have hb : ∀ i s, ¬ bef i s 0 0 := fun i s z => by unfold bef at z; omega
  refine ⟨fun _ => 0, fun _ => 0, ⟨fun q hq => absurd hq (Nat.not_lt_zero q), fun p q _ hq => absurd hq (Nat.not_lt_zero q), fun i s h => absurd h (hb i s), fun i s h => absurd h (hb i s)⟩,
    ⟨fun j _ => ⟨fun z => ?_, fun ⟨q, hq, _⟩ => absurd hq (Nat.not_lt_zero q)⟩, ?_, fun j => ?_⟩, fun q hq => absurd hq (Nat.not_lt_zero q), fun q hq => absurd hq (Nat.not_lt_zero q), fun c h1 _ _ => sSt_ne h1, fun j => ?_, fun c _ => rfl⟩
  · rw [sSt_ne (by decide)] at z
    have := hs j
    omega
  · refine (cnt_0 (fun k _ z => ?_)).symm
    rw [sSt_ne (by decide)] at z
    have := hs k
    omega
  · rw [sSt_ne (by decide)]
    have := hs j
    omega
  · rw [sSt_at]
    exact if_congr' ⟨fun z => z.2, fun z => ⟨rfl, z⟩⟩
theorem bef_3 {i s n : Nat} (hs : s < 3) : bef i s n 3 ↔ bef i s (n + 1) 0 := by unfold bef; omega
theorem nxI_t {ly cs vs : Nat → Nat} {N n m : Nat} {c2 v2 : Nat → Nat} (h : nxI ly cs vs N n 3 m c2 v2) : nxI ly cs vs N (n + 1) 0 m c2 v2 := by
  obtain ⟨h1, h2, h3, h4⟩ := h
  refine ⟨fun q hq => ?_, h2, fun i s hb hi hs => h3 i s ((bef_3 hs).mpr hb) hi hs, fun i s hb hi hs => h4 i s ((bef_3 hs).mpr hb) hi hs⟩
  obtain ⟨i, s, hb, hi, hs, e⟩ := h1 q hq
  exact ⟨i, s, (bef_3 hs).mp hb, hi, hs, e⟩
theorem soI_t {M : sM} {L : sL} {ly cs vs : Nat → Nat} {N n m : Nat} {M1 : sM} {L1 : sL} (h : soI M L ly cs vs N n 3 m M1 L1) : soI M L ly cs vs N (n + 1) 0 m M1 L1 := by
  obtain ⟨c2, v2, h1, h2⟩ := h
  exact ⟨c2, v2, nxI_t h1, h2⟩
theorem bef_s {i s n t : Nat} (h : bef i s n (t + 1)) : bef i s n t ∨ (i = n ∧ s = t) := by unfold bef at *; omega
theorem bef_u {i s n t : Nat} (h : bef i s n t) : bef i s n (t + 1) := by unfold bef at *; omega
theorem bef_v {vs : Nat → Nat} {N i s n t : Nat} (ho : ordd N vs) (hn : n < N) (hs : s < 3) (h : bef i s n t) : vs i * 3 + s < vs n * 3 + t := by
  rcases h with z | ⟨z1, z2⟩
  · have := ho i n z hn; omega
  · rw [z1]; omega
theorem soI_old {M : sM} {L : sL} {ly cs vs : Nat → Nat} {N n t m : Nat} {M1 : sM} {L1 : sL} (h : soI M L ly cs vs N n t m M1 L1) (hn : n < N) (ht : t < 3) (ho : ordd N vs)
    (hz : stpC ly (cs n) t % 64 ≠ 0) (hst : M1 250 (stpC ly (cs n) t) = M 245 7 + 1) : soI M L ly cs vs N n (t + 1) m M1 L1 := by
  obtain ⟨c2, v2, ⟨h1, h2, h3, h4⟩, hS, hr⟩ := h
  obtain ⟨q0, hq0, hc0⟩ := (hS.1 _ (stpC_lt ly (cs n) t)).mp hst
  refine ⟨c2, v2, ⟨fun q hq => ?_, h2, fun i s hb hi hs => ?_, fun i s hb hi hs => ?_⟩, hS, hr⟩
  · obtain ⟨i, s, hb, e⟩ := h1 q hq
    exact ⟨i, s, bef_u hb, e⟩
  · rcases bef_s hb with z | ⟨z1, z2⟩
    · exact h3 i s z hi hs
    · subst z1 z2
      obtain ⟨i, s', hb', hi', hs', _, ev⟩ := h1 q0 hq0
      exact ⟨q0, hq0, hc0, by rw [ev]; exact Nat.le_of_lt (bef_v ho hn hs' hb')⟩
  · rcases bef_s hb with z | ⟨z1, z2⟩
    · exact h4 i s z hi hs
    · subst z1 z2; exact hz
theorem soI_lt {M : sM} {L : sL} {ly cs vs : Nat → Nat} {N n t m : Nat} {M1 : sM} {L1 : sL} (h : soI M L ly cs vs N n t m M1 L1) {x : Nat} (hx : x < 768) (hst : M1 250 x ≠ M 245 7 + 1) : m < 768 := by
  obtain ⟨c2, v2, _, hS, _⟩ := h
  have h1 := cnt_lt (p := fun j => M1 250 j = M 245 7 + 1) hst hx
  have h2 := hS.2.1
  omega
theorem sSl_at (L : sL) (k j a b : Nat) (v : Int64) : sSl L k j v a b = if a = k ∧ b = j then v else L a b := by
  unfold sSl
  by_cases ha : a = k
  · by_cases hb : b = j
    · rw [if_pos ha, if_pos hb, if_pos ⟨ha, hb⟩]
    · rw [if_pos ha, if_neg hb, if_neg (fun h => hb h.2), ha]
  · rw [if_neg ha, if_neg (fun h => ha h.1)]
theorem sSl_ne {L : sL} {k j a : Nat} {v : Int64} (h : a ≠ k) : sSl L k j v a = L a := if_neg h
def put1 (f : Nat → Nat) (m x : Nat) : Nat → Nat := fun q => if q = m then x else f q
theorem put1_e (f : Nat → Nat) (m x : Nat) : put1 f m x m = x := if_pos rfl
theorem put1_n {f : Nat → Nat} {m x q : Nat} (h : q ≠ m) : put1 f m x q = f q := if_neg h
theorem soI_new {M : sM} {L : sL} {ly cs vs : Nat → Nat} {N n t m : Nat} {M1 : sM} {L1 : sL} (h : soI M L ly cs vs N n t m M1 L1) (hn : n < N) (ht : t < 3) (ho : ordd N vs)
    (hz : stpC ly (cs n) t % 64 ≠ 0) (hst : M1 250 (stpC ly (cs n) t) ≠ M 245 7 + 1) :
    soI M L ly cs vs N n (t + 1) (m + 1) (sSt (sSt M1 250 (stpC ly (cs n) t) (M 245 7 + 1)) 247 m (stpC ly (cs n) t : Nat)) (sSl L1 249 m (lN (vs n * 3 + t))) := by
  obtain ⟨c2, v2, ⟨h1, h2, h3, h4⟩, ⟨hS1, hS2, hS3⟩, hM, hL, hf, h5, hl⟩ := h
  have hx := stpC_lt ly (cs n) t
  have e250 : ∀ j, sSt (sSt M1 250 (stpC ly (cs n) t) (M 245 7 + 1)) 247 m (stpC ly (cs n) t : Nat) 250 j = if j = stpC ly (cs n) t then M 245 7 + 1 else M1 250 j := fun j => by
    rw [sSt_ne (by decide), sSt_at]
    exact if_congr' ⟨fun z => z.2, fun z => ⟨rfl, z⟩⟩
  refine ⟨put1 c2 m (stpC ly (cs n) t), put1 v2 m (vs n * 3 + t), ⟨fun q hq => ?_, fun p q hpq hq => ?_, fun i s hb hi hs => ?_, fun i s hb hi hs => ?_⟩, ⟨fun j hj => ?_, ?_, fun j => ?_⟩, fun q hq => ?_, fun q hq => ?_, fun c ha hb hc => ?_, fun j => ?_, fun c hc => ?_⟩
  · by_cases e : q = m
    · rw [e, put1_e, put1_e]
      exact ⟨n, t, Or.inr ⟨rfl, Nat.lt_succ_self t⟩, hn, ht, rfl, rfl⟩
    · rw [put1_n e, put1_n e]
      obtain ⟨i, s, hb, e⟩ := h1 q (by omega)
      exact ⟨i, s, bef_u hb, e⟩
  · rw [put1_n (show p ≠ m by omega)]
    by_cases e : q = m
    · rw [e, put1_e]
      obtain ⟨i, s, hb, hi, hs, _, ev⟩ := h1 p (by omega)
      rw [ev]
      exact bef_v ho hn hs hb
    · rw [put1_n e]
      exact h2 p q hpq (by omega)
  · rcases bef_s hb with z | ⟨z1, z2⟩
    · obtain ⟨q, hq, e⟩ := h3 i s z hi hs
      exact ⟨q, by omega, by rw [put1_n (by omega), put1_n (by omega)]; exact e⟩
    · subst z1 z2
      exact ⟨m, Nat.lt_succ_self m, put1_e _ _ _, by rw [put1_e]; exact Nat.le_refl _⟩
  · rcases bef_s hb with z | ⟨z1, z2⟩
    · exact h4 i s z hi hs
    · subst z1 z2; exact hz
  · rw [e250 j]
    by_cases e : j = stpC ly (cs n) t
    · rw [if_pos e]
      exact ⟨fun _ => ⟨m, Nat.lt_succ_self m, by rw [put1_e]; exact e.symm⟩, fun _ => rfl⟩
    · rw [if_neg e, hS1 j hj]
      constructor
      · rintro ⟨q, hq, hc⟩
        exact ⟨q, by omega, by rw [put1_n (by omega)]; exact hc⟩
      · rintro ⟨q, hq, hc⟩
        by_cases eq : q = m
        · rw [eq, put1_e] at hc; exact absurd hc.symm e
        · rw [put1_n eq] at hc; exact ⟨q, by omega, hc⟩
  · have := cnt_up (p := fun j => M1 250 j = M 245 7 + 1) (q := fun j => sSt (sSt M1 250 (stpC ly (cs n) t) (M 245 7 + 1)) 247 m (stpC ly (cs n) t : Nat) 250 j = M 245 7 + 1) (j := stpC ly (cs n) t) hst
      (by rw [e250, if_pos rfl]) (fun i hi => by rw [e250, if_neg hi]) hx
    rw [this]
    omega
  · rw [e250]
    split
    · exact Int.le_refl _
    · exact hS3 j
  · rw [sSt_at]
    by_cases e : q = m
    · rw [if_pos ⟨rfl, e⟩, e, put1_e]
    · rw [if_neg (fun z => e z.2), put1_n e, sSt_ne (by decide)]
      exact hM q (by omega)
  · rw [sSl_at]
    by_cases e : q = m
    · rw [if_pos ⟨rfl, e⟩, e, put1_e]
    · rw [if_neg (fun z => e z.2), put1_n e]
      exact hL q (by omega)
  · rw [sSt_ne hb, sSt_ne hc]
    exact hf c ha hb hc
  · rw [sSt_ne (by decide), sSt_ne (by decide)]
    exact h5 j
  · rw [sSl_ne hc]
    exact hl c hc
theorem soI_f {M : sM} {L : sL} {ly cs vs : Nat → Nat} {N n t m : Nat} {M1 : sM} {L1 : sL} (h : soI M L ly cs vs N n t m M1 L1) {c : Nat} (h1 : c ≠ 245) (h2 : c ≠ 247) (h3 : c ≠ 250) : M1 c = M c := by
  obtain ⟨_, _, _, _, _, _, hf, _⟩ := h
  exact hf c h1 h2 h3
theorem soI_5 {M : sM} {L : sL} {ly cs vs : Nat → Nat} {N n t m : Nat} {M1 : sM} {L1 : sL} (h : soI M L ly cs vs N n t m M1 L1) (j : Nat) : M1 245 j = if j = 7 then M 245 7 + 1 else M 245 j := by
  obtain ⟨_, _, _, _, _, _, _, hf, _⟩ := h
  exact hf j
theorem soI_L {M : sM} {L : sL} {ly cs vs : Nat → Nat} {N n t m : Nat} {M1 : sM} {L1 : sL} (h : soI M L ly cs vs N n t m M1 L1) {c : Nat} (h1 : c ≠ 249) : L1 c = L c := by
  obtain ⟨_, _, _, _, _, _, _, _, hf⟩ := h
  exact hf c h1
theorem soI_m {M : sM} {L : sL} {ly cs vs : Nat → Nat} {N n t m : Nat} {M1 : sM} {L1 : sL} (h : soI M L ly cs vs N n t m M1 L1) : m ≤ 768 := by
  obtain ⟨_, _, _, hS, _⟩ := h
  have h1 := cnt_r (fun j => M1 250 j = M 245 7 + 1) 768
  have h2 := hS.2.1
  omega
theorem sCpl_ne {L : sL} {a b sp dp n c : Nat} (h : c ≠ b) : sCpl L a b sp dp n c = L c := if_neg h
theorem sCpl_lt {L : sL} {a b n q : Nat} (h : q < n) : sCpl L a b 0 0 n b q = L a q := by
  show (if b = b then (fun k => if 0 ≤ k ∧ k < 0 + n then L a (0 + (k - 0)) else L b k) else L b) q = _
  rw [if_pos rfl]
  show (if 0 ≤ q ∧ q < 0 + n then L a (0 + (q - 0)) else L b q) = _
  rw [if_pos (by omega), show 0 + (q - 0) = q by omega]
/-- what stepOn leaves -/
def fndP (ly cs : Nat → Nat) (N : Nat) : Prop := ∃ i s, i < N ∧ s < 3 ∧ stpC ly (cs i) s % 64 = 0
noncomputable def fndB (ly cs : Nat → Nat) (N : Nat) : Bool := @decide (fndP ly cs N) (Classical.propDecidable _)
abbrev fnd (ly cs : Nat → Nat) (N : Nat) : Prop := fndB ly cs N = true
theorem fnd_i {ly cs : Nat → Nat} {N : Nat} : fnd ly cs N ↔ fndP ly cs N := @decide_eq_true_iff _ (Classical.propDecidable _)
def soY (ly cs vs : Nat → Nat) (N : Nat) (L1 : sL) : Prop :=
  ∃ i s, i < N ∧ s < 3 ∧ stpC ly (cs i) s % 64 = 0 ∧ (∀ j t, bef j t i s → j < N → t < 3 → stpC ly (cs j) t % 64 ≠ 0) ∧ L1 245 10 = lN (vs i * 3 + s)
def soF (ly cs vs : Nat → Nat) (N : Nat) (M1 : sM) (L1 : sL) : Prop :=
  ∃ m c2 v2, m ≤ 768 ∧ nxI ly cs vs N N 0 m c2 v2 ∧ M1 245 8 = (m : Int) ∧ (∀ q, q < m → M1 246 q = (c2 q : Int)) ∧ (∀ q, q < m → L1 248 q = lN (v2 q))
def soX (M : sM) (L : sL) (M1 : sM) (L1 : sL) : Prop :=
  (∀ c, c < 245 ∨ 250 < c → M1 c = M c) ∧ M1 245 7 = M 245 7 + 1 ∧ M1 245 9 = M 245 9 ∧ (∀ j, M1 250 j ≤ M1 245 7) ∧ (∀ c, c ≠ 245 → c ≠ 248 → c ≠ 249 → L1 c = L c)
theorem soI_st {M : sM} {L : sL} {ly cs vs : Nat → Nat} {N n t m : Nat} {M1 : sM} {L1 : sL} (h : soI M L ly cs vs N n t m M1 L1) (j : Nat) : M1 250 j ≤ M 245 7 + 1 := by
  obtain ⟨_, _, _, hS, _⟩ := h
  exact hS.2.2 j
theorem soY_i {M : sM} {L : sL} {ly cs vs : Nat → Nat} {N n t m : Nat} {M1 : sM} {L1 : sL} (h : soI M L ly cs vs N n t m M1 L1) (hn : n < N) (ht : t < 3) (hz : stpC ly (cs n) t % 64 = 0) :
    fnd ly cs N ∧ soY ly cs vs N (sSl L1 245 10 (lN (vs n * 3 + t))) ∧ soX M L M1 (sSl L1 245 10 (lN (vs n * 3 + t))) := by
  refine ⟨fnd_i.mpr ⟨n, t, hn, ht, hz⟩, ⟨n, t, hn, ht, hz, ?_, by rw [sSl_at, if_pos ⟨rfl, rfl⟩]⟩, fun c hc => soI_f h (by omega) (by omega) (by omega), by rw [soI_5 h, if_pos rfl], by rw [soI_5 h, if_neg (by decide)], fun j => by rw [soI_5 h, if_pos rfl]; exact soI_st h j, fun c h1 h2 h3 => by rw [sSl_ne h1]; exact soI_L h h3⟩
  obtain ⟨_, _, hx, _⟩ := h
  exact hx.2.2.2
theorem soF_i {M : sM} {L : sL} {ly cs vs : Nat → Nat} {N m : Nat} {M1 : sM} {L1 : sL} (h : soI M L ly cs vs N N 0 m M1 L1) :
    ¬ fnd ly cs N ∧ soF ly cs vs N (sSt (sCpy M1 247 246 0 0 m) 245 8 m) (sCpl L1 249 248 0 0 m) ∧ soX M L (sSt (sCpy M1 247 246 0 0 m) 245 8 m) (sCpl L1 249 248 0 0 m) := by
  have hm := soI_m h
  refine ⟨fun z => ?_, ?_, fun c hc => ?_, ?_, ?_, fun j => ?_, fun c h1 h2 h3 => ?_⟩
  · obtain ⟨i, s, hi, hs, hz⟩ := fnd_i.mp z
    obtain ⟨_, _, hx, _⟩ := h
    exact hx.2.2.2 i s (Or.inl hi) hi hs hz
  · obtain ⟨c2, v2, hx, _, hM, hL, _⟩ := h
    refine ⟨m, c2, v2, hm, hx, sSt_eq, fun q hq => ?_, fun q hq => ?_⟩
    · rw [sSt_ne (by decide), sCpy_at, if_pos ⟨rfl, hq⟩]
      exact hM q hq
    · rw [sCpl_lt hq]
      exact hL q hq
  · rw [sSt_ne (by omega), sCpy_ne (by omega)]
    exact soI_f h (by omega) (by omega) (by omega)
  · rw [sSt_nj (by decide), sCpy_ne (by decide), soI_5 h, if_pos rfl]
  · rw [sSt_nj (by decide), sCpy_ne (by decide), soI_5 h, if_neg (by decide)]
  · rw [sSt_ne (by decide), sCpy_ne (by decide), sSt_nj (by decide), sCpy_ne (by decide), soI_5 h, if_pos rfl]
    exact soI_st h j
  · rw [sCpl_ne h2]
    exact soI_L h h3
theorem lN_34 (v t : Nat) : lN v * 3 + lN t = lN (v * 3 + t) := by
  apply Int64.toBitVec_inj.1
  show BitVec.ofNat 64 v * BitVec.ofNat 64 3 + BitVec.ofNat 64 t = BitVec.ofNat 64 (v * 3 + t)
  rw [← BitVec.ofNat_mul, ← BitVec.ofNat_add]
/-! all steps of a walk -/
def runC (lyt : Nat → Nat → Nat) (x : Nat) : Nat → Nat → Nat
  | 0, _ => x
  | t + 1, v => stpC (lyt t) (runC lyt x t (v / 3)) (v % 3)
def lvI (lyt : Nat → Nat → Nat) (x t n : Nat) (cs vs : Nat → Nat) : Prop :=
  (∀ i, i < n → cs i = runC lyt x t (vs i) ∧ vs i < 3 ^ t) ∧ ordd n vs ∧ (∀ v, v < 3 ^ t → ∃ i, i < n ∧ cs i = runC lyt x t v ∧ vs i ≤ v) ∧ (∀ T, T ≤ t → ∀ v, v < 3 ^ T → runC lyt x T v % 64 ≠ 0)
theorem runC_s (lyt : Nat → Nat → Nat) (x t v s : Nat) (hs : s < 3) : runC lyt x (t + 1) (v * 3 + s) = stpC (lyt t) (runC lyt x t v) s := by
  show stpC (lyt t) (runC lyt x t ((v * 3 + s) / 3)) ((v * 3 + s) % 3) = _
  rw [show (v * 3 + s) / 3 = v by omega, show (v * 3 + s) % 3 = s by omega]
theorem lvI_s {lyt : Nat → Nat → Nat} {x t n m : Nat} {cs vs c2 v2 : Nat → Nat} (h : lvI lyt x t n cs vs) (hx : nxI (lyt t) cs vs n n 0 m c2 v2) : lvI lyt x (t + 1) m c2 v2 := by
  obtain ⟨h1, h2, h3, h4⟩ := h
  obtain ⟨x1, x2, x3, x4⟩ := hx
  have e3 : 3 ^ (t + 1) = 3 ^ t * 3 := Nat.pow_succ 3 t
  refine ⟨fun q hq => ?_, x2, fun v hv => ?_, fun T hT v hv => ?_⟩
  · obtain ⟨i, s, _, hi, hs, hc, hvq⟩ := x1 q hq
    obtain ⟨e, hlt⟩ := h1 i hi
    rw [hc, hvq, runC_s _ _ _ _ _ hs, e]
    exact ⟨rfl, by omega⟩
  · obtain ⟨i, hi, hc, hle⟩ := h3 (v / 3) (by omega)
    have hs : v % 3 < 3 := Nat.mod_lt _ (by decide)
    obtain ⟨q, hq, hcq, hvq⟩ := x3 i (v % 3) (Or.inl hi) hi hs
    refine ⟨q, hq, ?_, by omega⟩
    rw [hcq, hc]
    rfl
  · by_cases e : T = t + 1
    · subst e
      obtain ⟨i, hi, hc, _⟩ := h3 (v / 3) (by omega)
      have := x4 i (v % 3) (Or.inl hi) hi (Nat.mod_lt _ (by decide))
      rw [hc] at this
      exact this
    · exact h4 T (by omega) v hv
/-- the soonest walk: its length and its number -/
def wBest (lyt : Nat → Nat → Nat) (x T v : Nat) : Prop :=
  v < 3 ^ T ∧ runC lyt x T v % 64 = 0 ∧ (∀ u, u < v → runC lyt x T u % 64 ≠ 0) ∧ (∀ S, S < T → ∀ u, u < 3 ^ S → runC lyt x S u % 64 ≠ 0)
theorem lvI_f {lyt : Nat → Nat → Nat} {x t n : Nat} {cs vs : Nat → Nat} {L1 : sL} (h : lvI lyt x t n cs vs) (hy : soY (lyt t) cs vs n L1) : ∃ v, wBest lyt x (t + 1) v ∧ L1 245 10 = lN v := by
  obtain ⟨h1, h2, h3, h4⟩ := h
  obtain ⟨i, s, hi, hs, hz, hb, hr⟩ := hy
  have e3 : 3 ^ (t + 1) = 3 ^ t * 3 := Nat.pow_succ 3 t
  obtain ⟨e, hlt⟩ := h1 i hi
  refine ⟨vs i * 3 + s, ⟨by omega, by rw [runC_s _ _ _ _ _ hs, ← e]; exact hz, fun u hu hzu => ?_, fun S hS u hu => h4 S (by omega) u hu⟩, hr⟩
  obtain ⟨j, hj, hc, hle⟩ := h3 (u / 3) (by omega)
  have hu3 : u % 3 < 3 := Nat.mod_lt _ (by decide)
  refine hb j (u % 3) ?_ hj hu3 ?_
  · have hij : ¬ i < j := fun z => by have := h2 i j z hj; omega
    unfold bef
    by_cases q : j = i
    · right; refine ⟨q, ?_⟩; rw [q] at hle; omega
    · left; omega
  · rw [hc]
    exact hzu
theorem lvI_0 {lyt : Nat → Nat → Nat} {x : Nat} (hx : x % 64 ≠ 0) : lvI lyt x 0 1 (fun _ => x) (fun _ => 0) := by
  refine ⟨fun i _ => ⟨rfl, Nat.one_pos⟩, fun p q hpq hq => by omega, fun v hv => ⟨0, by decide, rfl, Nat.zero_le _⟩, fun T hT v hv => ?_⟩
  have : T = 0 := by omega
  subst this
  exact hx
