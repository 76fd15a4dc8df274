/-! walk: the least row of steps is the greedy one -/
theorem lt3 {a : Nat} (h : a < 3) : a = 0 ∨ a = 1 ∨ a = 2 := by omega
theorem p3_pos (b : Nat) : 0 < 3 ^ b := Nat.pow_pos (by decide)
theorem clp_to {c s : Nat} (hc : c < 12) : clp (c + s) = qTo c ((s : Int) - 1) := by
  unfold clp qTo
  omega
theorem stp_e {ly : Nat → Nat} {c x s : Nat} (hc : c < 12) (hx : x < 64) : stpC ly (c * 64 + x) s = qTo c ((s : Int) - 1) * 64 + sDel x (ly (qTo c ((s : Int) - 1))) := by
  unfold stpC
  rw [show (c * 64 + x) / 64 = c by omega, show (c * 64 + x) % 64 = x by omega, clp_to hc]
/-- first some steps, then the others -/
theorem runC_split (lyt : Nat → Nat → Nat) (X a : Nat) : ∀ b v, runC lyt X (a + b) v = runC (fun t => lyt (a + t)) (runC lyt X a (v / 3 ^ b)) b (v % 3 ^ b)
  | 0, v => by
    show runC lyt X a v = runC lyt X a (v / 1)
    rw [Nat.div_one]
  | b + 1, v => by
    have ih := runC_split lyt X a b (v / 3)
    show stpC (lyt (a + b)) (runC lyt X (a + b) (v / 3)) (v % 3) = stpC (lyt (a + b)) (runC (fun t => lyt (a + t)) (runC lyt X a (v / 3 ^ (b + 1))) b (v % 3 ^ (b + 1) / 3)) (v % 3 ^ (b + 1) % 3)
    have e1 : v / 3 / 3 ^ b = v / 3 ^ (b + 1) := by rw [Nat.div_div_eq_div_mul, Nat.pow_succ, Nat.mul_comm 3]
    have e2 : v % 3 ^ (b + 1) = v % 3 + 3 * (v / 3 % 3 ^ b) := by rw [Nat.pow_succ, Nat.mul_comm (3 ^ b), Nat.mod_mul]
    rw [ih, e1, e2, show (v % 3 + 3 * (v / 3 % 3 ^ b)) / 3 = v / 3 % 3 ^ b by omega, show (v % 3 + 3 * (v / 3 % 3 ^ b)) % 3 = v % 3 by omega]
theorem runC_1 (lyt : Nat → Nat → Nat) (X : Nat) {d s w : Nat} (hs : s < 3) (hw : w < 3 ^ d) : runC lyt X (d + 1) (s * 3 ^ d + w) = runC (fun t => lyt (1 + t)) (stpC (lyt 0) X s) d w := by
  have hp := p3_pos d
  rw [Nat.add_comm d 1, runC_split]
  have e1 : (s * 3 ^ d + w) / 3 ^ d = s := by rw [Nat.add_comm, Nat.add_mul_div_right _ _ hp, Nat.div_eq_of_lt hw, Nat.zero_add]
  have e2 : (s * 3 ^ d + w) % 3 ^ d = w := by rw [Nat.add_comm, Nat.add_mul_mod_self_right, Nat.mod_eq_of_lt hw]
  rw [e1, e2]
  show runC _ (stpC (lyt 0) X (s % 3)) d w = _
  rw [Nat.mod_eq_of_lt hs]
theorem runC_c {l1 l2 : Nat → Nat → Nat} (X : Nat) : ∀ t v, (∀ a, a < t → l1 a = l2 a) → runC l1 X t v = runC l2 X t v
  | 0, _, _ => rfl
  | t + 1, v, h => by
    show stpC (l1 t) _ _ = stpC (l2 t) _ _
    rw [h t (Nat.lt_succ_self t), runC_c X t (v / 3) (fun a ha => h a (by omega))]
theorem sDel_64 {x y : Nat} (h : x < 64) : sDel x y < 64 := sDel_lt h
/-- whether it can be done: whether there is a row -/
theorem canB_r (f : Nat → Nat → Nat) : ∀ d m c x, c < 12 → x < 64 → (canB f d m c x = true ↔ ∃ v, v < 3 ^ d ∧ runC (fun t => f (m + t)) (c * 64 + x) d v % 64 = 0)
  | 0, m, c, x, hc, hx => by
    show ((x == 0) = true) ↔ _
    constructor
    · intro z
      refine ⟨0, by decide, ?_⟩
      show (c * 64 + x) % 64 = 0
      have := eq_of_beq z
      omega
    · rintro ⟨v, _, z⟩
      have z2 : (c * 64 + x) % 64 = 0 := z
      rw [show x = 0 by omega]; rfl
  | d + 1, m, c, x, hc, hx => by
    have ih : ∀ s : Nat, s < 3 → (canB f d (m + 1) (qTo c ((s : Int) - 1)) (sDel x (f m (qTo c ((s : Int) - 1)))) = true ↔ ∃ w, w < 3 ^ d ∧ runC (fun t => f (m + t)) (c * 64 + x) (d + 1) (s * 3 ^ d + w) % 64 = 0) := fun s hs => by
      rw [canB_r f d (m + 1) _ _ (qTo_lt _ _) (sDel_64 hx)]
      refine exists_congr (fun w => and_congr_right (fun hw => ?_))
      rw [runC_1 _ _ hs hw]
      show _ ↔ runC (fun t => f (m + (1 + t))) (stpC (f m) (c * 64 + x) s) d w % 64 = 0
      rw [stp_e hc hx, show (fun t => f (m + (1 + t))) = (fun t => f (m + 1 + t)) from funext fun t => by rw [Nat.add_assoc]]
    have e3 : 3 ^ (d + 1) = 3 * 3 ^ d := by rw [Nat.pow_succ, Nat.mul_comm]
    have i0 := ih 0 (by decide)
    have i1 := ih 1 (by decide)
    have i2 := ih 2 (by decide)
    unfold canB
    rw [Bool.or_eq_true, Bool.or_eq_true]
    rw [show ((0 : Nat) : Int) - 1 = -1 from rfl] at i0
    rw [show ((1 : Nat) : Int) - 1 = 0 from rfl] at i1
    rw [show ((2 : Nat) : Int) - 1 = 1 from rfl] at i2
    rw [i0, i1, i2]
    constructor
    · rintro ((⟨w, h1, h2⟩ | ⟨w, h1, h2⟩) | ⟨w, h1, h2⟩)
      · exact ⟨0 * 3 ^ d + w, by rw [e3]; omega, h2⟩
      · exact ⟨1 * 3 ^ d + w, by rw [e3]; omega, h2⟩
      · exact ⟨2 * 3 ^ d + w, by rw [e3]; omega, h2⟩
    · rintro ⟨v, h1, h2⟩
      have hp := p3_pos d
      have hw := Nat.mod_lt v hp
      have ev := Nat.div_add_mod v (3 ^ d)
      rw [Nat.mul_comm] at ev
      have hs : v / 3 ^ d < 3 := by rw [Nat.div_lt_iff_lt_mul hp]; rw [e3] at h1; exact h1
      rw [← ev] at h2
      rcases lt3 hs with z | z | z
      · rw [z] at h2; exact Or.inl (Or.inl ⟨_, hw, h2⟩)
      · rw [z] at h2; exact Or.inl (Or.inr ⟨_, hw, h2⟩)
      · rw [z] at h2; exact Or.inr ⟨_, hw, h2⟩
/-- the digits of the least -/
theorem gd_dig {f : Nat → Nat → Nat} {c0 x0 T v : Nat} (hc : c0 < 12) (hx : x0 < 64) (hv : v < 3 ^ T) (hz : runC f (c0 * 64 + x0) T v % 64 = 0) (hb : ∀ u, u < v → runC f (c0 * 64 + x0) T u % 64 ≠ 0) :
    ∀ j, j ≤ T → ((gSt f T c0 x0 j).1 * 64 + (gSt f T c0 x0 j).2.1 = runC f (c0 * 64 + x0) j (v / 3 ^ (T - j))) ∧ (0 < j → (gSt f T c0 x0 j).2.2 + 1 = ((v / 3 ^ (T - j) % 3 : Nat) : Int))
  | 0, _ => by
    refine ⟨?_, fun h => absurd h (by decide)⟩
    rfl
  | j + 1, hj => by
    obtain ⟨ih, _⟩ := gd_dig hc hx hv hz hb j (by omega)
    have hr := gSt_r (f := f) (T := T) (n := 6) hc hx j
    generalize hg : gSt f T c0 x0 j = g at ih hr
    obtain ⟨c, x, d'⟩ := g
    obtain ⟨hc', hx', _⟩ := hr
    have ih' : c * 64 + x = runC f (c0 * 64 + x0) j (v / 3 ^ (T - j)) := ih
    have hc2 : c < 12 := hc'
    have hx2 : x < 64 := hx'
    obtain ⟨b, hbT⟩ : ∃ b, b = T - (j + 1) := ⟨_, rfl⟩
    have e1 : T - j = b + 1 := by omega
    have e2 : T = j + 1 + b := by omega
    have hp := p3_pos b
    obtain ⟨q, hq⟩ : ∃ q, q = v / 3 ^ b := ⟨_, rfl⟩
    have eP : v / 3 ^ (T - j) = q / 3 := by rw [e1, Nat.pow_succ, ← Nat.div_div_eq_div_mul, ← hq]
    rw [eP] at ih'
    -- a row with this beginning, s, and then w
    have key : ∀ s w, s < 3 → w < 3 ^ b → runC f (c0 * 64 + x0) T ((q / 3 * 3 + s) * 3 ^ b + w) = runC (fun t => f (j + 1 + t)) (qTo c ((s : Int) - 1) * 64 + sDel x (f j (qTo c ((s : Int) - 1)))) b w := fun s w hs hw => by
      rw [e2, runC_split]
      have e3 : ((q / 3 * 3 + s) * 3 ^ b + w) / 3 ^ b = q / 3 * 3 + s := by rw [Nat.add_comm, Nat.add_mul_div_right _ _ hp, Nat.div_eq_of_lt hw, Nat.zero_add]
      have e4 : ((q / 3 * 3 + s) * 3 ^ b + w) % 3 ^ b = w := by rw [Nat.add_comm, Nat.add_mul_mod_self_right, Nat.mod_eq_of_lt hw]
      rw [e3, e4, runC_s _ _ _ _ _ hs, ← ih', stp_e hc2 hx2]
    have ev : v = (q / 3 * 3 + q % 3) * 3 ^ b + v % 3 ^ b := by
      have := Nat.div_add_mod v (3 ^ b)
      rw [Nat.mul_comm, ← hq] at this
      rw [show q / 3 * 3 + q % 3 = q by omega]
      exact this.symm
    have hw := Nat.mod_lt v hp
    have hd : q % 3 < 3 := Nat.mod_lt _ (by decide)
    have can : ∀ s : Nat, s < 3 → (canB f b (j + 1) (qTo c ((s : Int) - 1)) (sDel x (f j (qTo c ((s : Int) - 1)))) = true ↔ ∃ w, w < 3 ^ b ∧ runC f (c0 * 64 + x0) T ((q / 3 * 3 + s) * 3 ^ b + w) % 64 = 0) := fun s hs => by
      rw [canB_r f b (j + 1) _ _ (qTo_lt _ _) (sDel_64 hx2)]
      exact exists_congr (fun w => and_congr_right (fun hw => by rw [key s w hs hw]))
    have yes : canB f b (j + 1) (qTo c (((q % 3 : Nat) : Int) - 1)) (sDel x (f j (qTo c (((q % 3 : Nat) : Int) - 1)))) = true := (can _ hd).mpr ⟨v % 3 ^ b, hw, by rw [← ev]; exact hz⟩
    have no : ∀ s : Nat, s < q % 3 → ¬ canB f b (j + 1) (qTo c ((s : Int) - 1)) (sDel x (f j (qTo c ((s : Int) - 1)))) = true := fun s hs y => by
      obtain ⟨w, hw2, hz2⟩ := (can s (by omega)).mp y
      refine hb _ ?_ hz2
      have l1 : (q / 3 * 3 + s) * 3 ^ b + w < (q / 3 * 3 + s + 1) * 3 ^ b := by rw [Nat.add_mul _ 1, Nat.one_mul]; omega
      have l2 : (q / 3 * 3 + s + 1) * 3 ^ b ≤ (q / 3 * 3 + q % 3) * 3 ^ b := Nat.mul_le_mul_right _ (by omega)
      omega
    have ed : gD f T j c x = ((q % 3 : Nat) : Int) - 1 := by
      unfold gD
      rw [← hbT]
      rcases lt3 hd with z | z | z
      · rw [z] at yes ⊢
        exact if_pos yes
      · rw [z] at yes no ⊢
        have n0 : ¬ canB f b (j + 1) (qTo c (-1)) (sDel x (f j (qTo c (-1)))) = true := no 0 (by decide)
        rw [if_neg n0]
        exact if_pos yes
      · rw [z] at yes no ⊢
        have n0 : ¬ canB f b (j + 1) (qTo c (-1)) (sDel x (f j (qTo c (-1)))) = true := no 0 (by decide)
        have n1 : ¬ canB f b (j + 1) (qTo c 0) (sDel x (f j (qTo c 0))) = true := no 1 (by decide)
        rw [if_neg n0, if_neg n1]; rfl
    rw [gSt_s, hg]
    show qTo c (gD f T j c x) * 64 + sDel x (f j (qTo c (gD f T j c x))) = runC f (c0 * 64 + x0) (j + 1) (v / 3 ^ (T - (j + 1))) ∧ (0 < j + 1 → gD f T j c x + 1 = ((v / 3 ^ (T - (j + 1)) % 3 : Nat) : Int))
    rw [← hbT, ← hq, ed]
    refine ⟨?_, fun _ => by omega⟩
    show _ = stpC (f j) (runC f (c0 * 64 + x0) j (q / 3)) (q % 3)
    rw [← ih', stp_e hc2 hx2]
theorem dv3_e (v : Nat) : ∀ n, dv3 v n = v / 3 ^ n
  | 0 => (Nat.div_one v).symm
  | n + 1 => by
    show dv3 v n / 3 = _
    rw [dv3_e v n, Nat.div_div_eq_div_mul, Nat.pow_succ]
theorem least_ex {p : Nat → Prop} : ∀ n, p n → ∃ k, k ≤ n ∧ p k ∧ ∀ j, j < k → ¬ p j := by
  intro n
  induction n using Nat.strongRecOn with
  | ind n ih =>
    intro h
    by_cases z : ∃ j, j < n ∧ p j
    · obtain ⟨j, h1, h2⟩ := z
      obtain ⟨k, k1, k2⟩ := ih j h1 h2
      exact ⟨k, by omega, k2⟩
    · exact ⟨n, Nat.le_refl n, h, fun j hj hp => z ⟨j, hj, hp⟩⟩
section RL
variable {M N : sM} {L : sL}
/-- the class tells those that are left alone, the reference all: what is left is the same -/
theorem sDel_sub {x y z w : Nat} (h : ∀ s, x.testBit s = true → w.testBit s = true) (hyz : ∀ s, w.testBit s = true → (y.testBit s = z.testBit s)) : sDel x y = sDel x z := by
  apply Nat.eq_of_testBit_eq
  intro s
  unfold sDel
  rw [Nat.testBit_and, Nat.testBit_and, Nat.testBit_xor, Nat.testBit_xor]
  by_cases e : x.testBit s = true
  · rw [hyz s (h s e)]
  · rw [Bool.eq_false_iff.mpr e, Bool.false_and, Bool.false_and]
theorem sDel_bit {x y s : Nat} (h : (sDel x y).testBit s = true) : x.testBit s = true := by
  unfold sDel at h
  rw [Nat.testBit_and, Bool.and_eq_true] at h
  exact h.1
theorem run_e {l1 l2 : Nat → Nat → Nat} {w X : Nat} (hX : ∀ s, (X % 64).testBit s = true → w.testBit s = true) (hl : ∀ t c s, w.testBit s = true → (l1 t c).testBit s = (l2 t c).testBit s) :
    ∀ t v, runC l1 X t v = runC l2 X t v ∧ ∀ s, (runC l1 X t v % 64).testBit s = true → w.testBit s = true
  | 0, _ => ⟨rfl, hX⟩
  | t + 1, v => by
    obtain ⟨ih, ib⟩ := run_e hX hl t (v / 3)
    have e : stpC (l1 t) (runC l1 X t (v / 3)) (v % 3) = stpC (l2 t) (runC l1 X t (v / 3)) (v % 3) := by
      unfold stpC
      rw [sDel_sub ib (fun s hs => hl t _ s hs)]
    refine ⟨?_, fun s hs => ?_⟩
    · show stpC (l1 t) (runC l1 X t (v / 3)) (v % 3) = stpC (l2 t) (runC l2 X t (v / 3)) (v % 3)
      rw [e, ih]
    · have hs2 : (stpC (l1 t) (runC l1 X t (v / 3)) (v % 3) % 64).testBit s = true := hs
      rw [stpC_m] at hs2
      exact ib s (sDel_bit hs2)
theorem wL_e (hT : TInv M) (h : RelC M N 1) (a : Nat) : qWS N a = wL M a := by
  unfold qWS wL
  rw [rc_n h]
  exact bits_c (fun s hs => and_congr Iff.rfl (rc_ad hT ho1 h hs))
theorem ly_e (hT : TInv M) (h : RelC M N 1) (a t c s : Nat) (hs : (wL M a).testBit s = true) : (wly M (wL M a) t c).testBit s = (qFd N t c).testBit s := by
  obtain ⟨h1, _, h2⟩ := wL_t hs
  unfold wly qFd
  rw [bits_t, bits_t, rc_n h]
  have e : N 263 s = M (1 + 6) s := rc_c h h1 h2
  have e7 : M (1 + 6) s = M 7 s := rfl
  have r := rc_cell hT ho1 (M := M) (s := s) h2
  have ed : driN (N 260) t (N 263 s) = driN (M 2) t (M 7 s) := by rw [e, rc_dri h r]
  have i1 : (s < nS M 1 ∧ (wL M a).testBit s = true ∧ driN (M 2) t (M 7 s) = (c : Int)) ↔ driN (M 2) t (M 7 s) = (c : Int) := ⟨fun z => z.2.2, fun z => ⟨h1, hs, z⟩⟩
  have i2 : (s < nS M 1 ∧ 0 ≤ N 263 s ∧ driN (N 260) t (N 263 s) = (c : Int)) ↔ driN (M 2) t (M 7 s) = (c : Int) := ⟨fun z => by rw [← ed]; exact z.2.2, fun z => ⟨h1, by rw [e]; exact r.1, by rw [ed]; exact z⟩⟩
  rw [Bool.eq_iff_iff, decide_eq_true_iff, decide_eq_true_iff, i1, i2]
theorem e_walk (hT : TInv M) (h : RelC M N 1) {a k q r : Int} (hq : wAns M a k q) (hr : qwAns N a k r) (hk : k = -2 ∨ 0 ≤ k) : q = r := by
  have hcb : qcb N = (M 6 3).toNat := by unfold qcb; rw [h.1.2.2.2]
  have hc6 : _ ≤ M 6 3 ∧ M 6 3 ≤ _ := tv_comber hT (o := 1) (Or.inl rfl)
  have hc : qcb N < 12 := by rw [hcb]; omega
  have hx := wL_r hT a.toNat
  have eX : wx M a.toNat = qcb N * 64 + wL M a.toNat := by unfold wx; rw [hcb]
  have eS := wL_e hT h a.toNat
  have run : ∀ t v, runC (wly M (wL M a.toNat)) (wx M a.toNat) t v = runC (fun m c => qFd N m c) (qcb N * 64 + wL M a.toNat) t v := fun t v => by
    rw [← eX]
    exact (run_e (w := wL M a.toNat) (fun s hs => by rw [(wx_r hT a.toNat).2] at hs; exact hs) (fun t c s hs => ly_e hT h a.toNat t c s hs) t v).1
  have can : ∀ S, canM N S (qWS N a.toNat) ↔ ∃ v, v < 3 ^ S ∧ runC (fun m c => qFd N m c) (qcb N * 64 + wL M a.toNat) S v % 64 = 0 := fun S => by
    unfold canM
    rw [eS, canB_r _ S 0 _ _ hc hx, show (fun t => (fun m c => qFd N m c) (0 + t)) = (fun m c => qFd N m c) from funext fun t => by rw [Nat.zero_add]]
  have wb : ∀ T v, wB M a.toNat T v ↔ v < 3 ^ T ∧ runC (fun m c => qFd N m c) (qcb N * 64 + wL M a.toNat) T v % 64 = 0 ∧ (∀ u, u < v → runC (fun m c => qFd N m c) (qcb N * 64 + wL M a.toNat) T u % 64 ≠ 0) ∧ (∀ S, S < T → ¬ canM N S (qWS N a.toNat)) := fun T v => by
    unfold wB wBest
    rw [run]
    refine and_congr Iff.rfl (and_congr Iff.rfl (and_congr ?_ ?_))
    · exact forall_congr' (fun u => by rw [run])
    · refine forall_congr' (fun S => ?_)
      rw [can]
      constructor
      · rintro z hS ⟨v, h1, h2⟩
        have := z hS v h1
        rw [run] at this
        exact this h2
      · intro z hS u hu hz
        rw [run] at hz
        exact z hS ⟨u, hu, hz⟩
  rcases hr with ⟨n1, rfl⟩ | ⟨T, hT20, c1, c2, rfl⟩
  · rcases hq with ⟨_, rfl⟩ | ⟨T', v, hT', w, _⟩
    · rfl
    · have w2 := (wb T' v).mp w
      exact absurd ((can T').mpr ⟨v, w2.1, w2.2.1⟩) (n1 T' hT')
  · rcases hq with ⟨n, _⟩ | ⟨T', v, hT', w, rfl⟩
    · refine absurd (wFnd_i.mpr ?_) n
      obtain ⟨v, v1, v2⟩ := (can T).mp c1
      obtain ⟨u, u1, u2, u3⟩ := least_ex (p := fun v => runC (fun m c => qFd N m c) (qcb N * 64 + wL M a.toNat) T v % 64 = 0) v v2
      exact ⟨T, u, hT20, (wb T u).mpr ⟨by omega, u2, fun j hj => u3 j hj, c2⟩⟩
    · have w2 := (wb T' v).mp w
      have cT' := (can T').mpr ⟨v, w2.1, w2.2.1⟩
      have eT : T' = T := by
        rcases Nat.lt_trichotomy T' T with z | z | z
        · exact absurd cT' (c2 T' z)
        · exact z
        · exact absurd c1 (w2.2.2.2 T z)
      subst eT
      by_cases k2 : k = -2
      · rw [if_pos k2, if_pos k2]
      · rw [if_neg k2, if_neg k2]
        by_cases kT : k < (T' : Int)
        · rw [if_pos kT, if_pos kT, eS]
          have g := (gd_dig hc hx w2.1 w2.2.1 w2.2.2.1 (k.toNat + 1) (by omega)).2 (by omega)
          rw [g, dv3_e, show T' - 1 - k.toNat = T' - (k.toNat + 1) by omega]
        · rw [if_neg kT, if_neg kT]
end RL
