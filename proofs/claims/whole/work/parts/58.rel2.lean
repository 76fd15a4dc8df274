/-! what the answers say alike: those that change nothing -/
section RD
variable {M N : sM}
theorem ho1 : isB 1 := Or.inl rfl
theorem rc_S (h : RelC M N 1) (s : Int) : isQS N s ↔ isSou M s := by
  show 0 ≤ s ∧ s < N 258 1 ↔ 0 ≤ s ∧ s < M 1 9
  rw [h.1.1]
theorem rc_K (h : RelC M N 1) (s : Int) : isQC N s ↔ isCal M s := by
  show 0 ≤ s ∧ s < N 258 2 ↔ 0 ≤ s ∧ s < M 1 10
  rw [h.1.2.1]
theorem isSou_n (hT : TInv M) {s : Int} (h : isSou M s) : s.toNat < nS M 1 := by
  have := nS_r hT ho1
  have h1 : 0 ≤ s ∧ s < M 1 9 := h
  omega
theorem isCal_n (hT : TInv M) {s : Int} (h : isCal M s) : s.toNat < nC M 1 := by
  have := nC_r hT ho1
  have h1 : 0 ≤ s ∧ s < M 1 10 := h
  omega
theorem if_c3 {α : Type} {P R : Prop} [Decidable P] [Decidable R] {a b a2 b2 : α} (h : P ↔ R) (h1 : R → a = a2) (h2 : ¬ R → b = b2) : (if P then a else b) = if R then a2 else b2 := by
  by_cases hr : R
  · rw [if_pos (h.mpr hr), if_pos hr, h1 hr]
  · rw [if_neg (fun z => hr (h.mp z)), if_neg hr, h2 hr]
theorem rc_fact (hT : TInv M) (h : RelC M N 1) {s : Nat} (hs : s < nS M 1) (w : Int) : qTel N s w = bFact M 1 s w := by
  have e1 := h.2.2.1 s hs
  have e2 := h.2.2.2.2.1 s hs
  unfold qTel bFact
  refine if_c3 Iff.rfl (fun _ => e1.1) (fun _ => if_c3 Iff.rfl (fun _ => e1.2) (fun _ => if_c3 Iff.rfl (fun _ => ?_) (fun _ => if_c3 Iff.rfl (fun _ => e2.2.1) (fun _ => if_c3 Iff.rfl (fun _ => e2.2.2.1) (fun _ => rc_wei h hs)))))
  by_cases ha : adr M 1 s
  · rw [if_pos ((rc_ad hT ho1 h hs).mpr ha)]; exact rc_c h hs ha
  · rw [if_neg (fun z => ha ((rc_ad hT ho1 h hs).mp z))]
    have : M (1 + 6) s = -1 := Classical.byContradiction (fun z => ha z)
    exact this.symm
theorem e_of (hT : TInv M) (h : RelC M N 1) (s w : Int) : qrOf N s w = rOf M s w := by
  unfold qrOf rOf
  exact if_c3 (by rw [rc_S h]) (fun z => rc_fact hT h (isSou_n hT z.1) w) (fun _ => rfl)
theorem e_about (hT : TInv M) (h : RelC M N 1) (i w : Int) : qrAbout N i w = rAbout M i w := by
  unfold qrAbout rAbout
  refine if_c3 (by rw [rc_K h]) (fun z => ?_) (fun _ => rfl)
  have hi := isCal_n hT z.1
  rw [rc_held h, rc_wan hT ho1 h, rc_cho hT ho1 h hi, h.2.2.2.1 _ hi]
theorem e_feels (hT : TInv M) (h : RelC M N 1) (s i : Int) : qrFeels N s i = rFeels M s i := by
  unfold qrFeels rFeels
  exact if_c3 (by rw [rc_S h, rc_K h]) (fun z => rc_fel h (isSou_n hT z.1) (isCal_n hT z.2)) (fun _ => rfl)
theorem e_where (hT : TInv M) (h : RelC M N 1) (s m : Int) : qrWhere N s m = rWhere M s m := by
  unfold qrWhere rWhere
  refine if_c3 (by rw [rc_S h]) (fun z => ?_) (fun _ => rfl)
  have hs := isSou_n hT z.1
  unfold bAhe
  refine if_c3 (rc_ad hT ho1 h hs) (fun ha => ?_) (fun _ => rfl)
  rw [rc_c h hs ha, rc_dri h (rc_cell hT ho1 ha)]
theorem e_comes (h : RelC M N 1) (c m : Int) : qrComes N c m = rComes M c m := by
  unfold qrComes rComes
  refine if_c3 Iff.rfl (fun _ => ?_) (fun _ => rfl)
  rw [bits_c (p := fun a => driN (N 260) m.toNat (a : Int) = c) (q := fun a => driN (M 2) m.toNat (a : Int) = c) (fun a ha => by rw [rc_dri h (by omega)])]
theorem e_right (hT : TInv M) (h : RelC M N 1) : qRig N = bRig M 1 := rc_rig hT ho1 h
theorem seen_b (hT : TInv M) (h : RelC M N 1) (ht : RelT M N 1) : qSeB N = seenB M := by
  have hs5 : 0 ≤ M 11 3 ∧ M 11 3 ≤ 5 := tv hT (k := 11) (j := 3) rfl
  unfold qSeB seenB
  rw [rc_n h]
  refine bits_c (fun s hs => ?_)
  have e5 : qs N = (M 11 3).toNat := by unfold qs; rw [ht.1.1]
  rw [e5]
  constructor
  · rintro ⟨z1, z2⟩
    have ha := (rc_ad hT ho1 h hs).mp z1
    refine ⟨ha, fun r hr => ?_⟩
    have := z2 r hr
    rw [rc_c h hs ha, rc_dri h (rc_cell hT ho1 ha), ht.2.1 (2 * r) (by show ((2 * r : Nat) : Int) < 2 * M 11 3; omega), ht.2.1 (2 * r + 1) (by show ((2 * r + 1 : Nat) : Int) < 2 * M 11 3; omega)] at this
    unfold bAhe
    rw [if_pos ha, show r * 2 + 0 = 2 * r by omega, show r * 2 + 1 = 2 * r + 1 by omega]
    exact this
  · rintro ⟨ha, z2⟩
    refine ⟨(rc_ad hT ho1 h hs).mpr ha, fun r hr => ?_⟩
    have := z2 r hr
    unfold bAhe at this
    rw [if_pos ha, show r * 2 + 0 = 2 * r by omega, show r * 2 + 1 = 2 * r + 1 by omega] at this
    rw [rc_c h hs ha, rc_dri h (rc_cell hT ho1 ha), ht.2.1 (2 * r) (by show ((2 * r : Nat) : Int) < 2 * M 11 3; omega), ht.2.1 (2 * r + 1) (by show ((2 * r + 1 : Nat) : Int) < 2 * M 11 3; omega)]
    exact this
/-! the best so far: where it starts doesn't matter -/
theorem bs_eq {f g : Nat → Int} (hf : ∀ n, f n = g n) (hr : ∀ n, 0 ≤ g n ∧ g n ≤ 6) : ∀ n, qsB f n = bsB g n ∧ (n = 0 ∨ qsF f n = bsF g n)
  | 0 => ⟨rfl, Or.inl rfl⟩
  | n + 1 => by
    obtain ⟨h1, h2⟩ := bs_eq hf hr n
    have hg := hr n
    have key : (f n < qsF f n ↔ g n < bsF g n) := by
      rw [hf n]
      rcases h2 with z | z
      · subst z
        show g 0 < 1048576 ↔ g 0 < 7
        omega
      · rw [z]
    refine ⟨?_, Or.inr ?_⟩
    · unfold qsB bsB
      rw [h1]
      exact if_congr' key
    · show min (qsF f n) (f n) = bsF g (n + 1)
      unfold bsF
      rcases h2 with z | z
      · subst z
        rw [hf 0]
        show min (1048576 : Int) (g 0) = if g 0 < 7 then g 0 else 7
        rw [if_pos (by omega)]; omega
      · rw [z, hf n]
        split <;> omega
theorem bsA_eq {f g : Nat → Int} {m n : Nat} (hf : ∀ n, f n = g n) (hr : ∀ n, 0 ≤ g n ∧ g n ≤ 6) : qsA m f n = bsA m g n := by
  unfold qsA bsA
  rw [(bs_eq hf hr n).1]
/-- the most alike: over those there are -/
theorem mxc_mal {P : Nat → Nat → Prop} [∀ a, DecidablePred (P a)] {m : Nat} {v : Nat → Int} {n : Nat} (hn : n ≤ 6) (hm : m < 2 ^ n) (h : ∀ a b, a < n → b < n → (P a b ↔ alk m v a b)) : mxc P n n = mal m v := by
  have nb : ∀ s, n ≤ s → ¬ m.testBit s = true := fun s hs z => by
    rw [Nat.testBit_lt_two_pow (Nat.lt_of_lt_of_le hm (Nat.pow_le_pow_right (by decide) hs))] at z; exact absurd z (by decide)
  have c0 : ∀ a, cnt (fun b => alk m v a b) 6 = cnt (fun b => alk m v a b) n := fun a => cnt_more hn (fun k h1 _ z => nb k h1 z.2.1)
  have key : ∀ a, a ≤ n → mxc P n a = malN m v a := by
    intro a
    induction a with
    | zero => intro _; rfl
    | succ a ih =>
      intro ha
      show max (mxc P n a) (cnt (P a) n) = max (malN m v a) (cnt (fun b => alk m v a b) 6)
      rw [ih (by omega), c0, cnt_c (p := P a) (q := fun b => alk m v a b) (fun b hb => h a b (by omega) hb)]
  have up : ∀ a, n ≤ a → a ≤ 6 → malN m v a = malN m v n := by
    intro a
    induction a with
    | zero => intro h1 _; rw [show n = 0 by omega]
    | succ a ih =>
      intro h1 h2
      by_cases e : n = a + 1
      · rw [e]
      · have := malN_r m v a
        show max (malN m v a) (cnt (fun b => alk m v a b) 6) = _
        rw [cnt_0 (fun k _ z => nb a (by omega) z.1), ← ih (by omega) (by omega)]
        omega
  rw [key n (Nat.le_refl n)]
  exact (up 6 hn (Nat.le_refl 6)).symm
theorem mal_r (m : Nat) (v : Nat → Int) : 0 ≤ mal m v ∧ mal m v ≤ 6 := malN_r m v 6
theorem e_tell (hT : TInv M) (h : RelC M N 1) (ht : RelT M N 1) : qrTell N = rTell M := by
  have hb := seen_b hT h ht
  unfold qrTell rTell
  rw [hb]
  refine bsA_eq (fun t => ?_) (fun t => mal_r _ _)
  unfold qtlF
  rw [rc_n h]
  refine mxc_mal (nS_r hT ho1).1 (bits_lt _ _) (fun a b ha hb2 => ?_)
  show ((qSeB N).testBit a = true ∧ _ ∧ _) ↔ ((seenB M).testBit a = true ∧ _ ∧ _)
  rw [hb]
  constructor
  · rintro ⟨z1, z2, z3⟩
    have p1 := seen_0 hT z1
    have p2 := seen_0 hT z2
    have q1 : M (1 + 6) a ≠ -1 := by show M 7 a ≠ -1; omega
    have q2 : M (1 + 6) b ≠ -1 := by show M 7 b ≠ -1; omega
    rw [rc_c h ha q1, rc_c h hb2 q2, rc_dri h (rc_cell hT ho1 q1), rc_dri h (rc_cell hT ho1 q2)] at z3
    exact ⟨z1, z2, z3⟩
  · rintro ⟨z1, z2, z3⟩
    have p1 := seen_0 hT z1
    have p2 := seen_0 hT z2
    have q1 : M (1 + 6) a ≠ -1 := by show M 7 a ≠ -1; omega
    have q2 : M (1 + 6) b ≠ -1 := by show M 7 b ≠ -1; omega
    refine ⟨z1, z2, ?_⟩
    rw [rc_c h ha q1, rc_c h hb2 q2, rc_dri h (rc_cell hT ho1 q1), rc_dri h (rc_cell hT ho1 q2)]
    exact z3
theorem kds_b (hT : TInv M) (ht : RelT M N 1) (s : Nat) : qkdB N s = kdsB M s := by
  have h6 : 0 ≤ M 13 3 ∧ M 13 3 ≤ 6 := tv hT (k := 13) (j := 3) rfl
  have e6 : qo N = (M 13 3).toNat := by unfold qo; rw [ht.1.2.1]
  unfold qkdB kdsB
  rw [e6]
  refine bits_c (fun k _ => ?_)
  have key : ∀ r, r < (M 13 3).toNat → N 268 (4 * r) = M 14 (r * 4 + 0) ∧ N 268 (4 * r + 1) = M 14 (r * 4 + 1) ∧ N 268 (4 * r + 2) = M 14 (r * 4 + 2) ∧ N 268 (4 * r + 3) = M 14 (r * 4 + 3) := fun r hr => by
    rw [ht.2.2.1 (4 * r) (by show ((4 * r : Nat) : Int) < 4 * M 13 3; omega), ht.2.2.1 (4 * r + 1) (by show ((4 * r + 1 : Nat) : Int) < 4 * M 13 3; omega), ht.2.2.1 (4 * r + 2) (by show ((4 * r + 2 : Nat) : Int) < 4 * M 13 3; omega), ht.2.2.1 (4 * r + 3) (by show ((4 * r + 3 : Nat) : Int) < 4 * M 13 3; omega), show 4 * r = r * 4 by omega]
    exact ⟨rfl, rfl, rfl, rfl⟩
  constructor
  · intro z r hr
    have := z r hr
    obtain ⟨a, b, c, d⟩ := key r hr
    rw [a, b, c, d] at this
    exact this
  · intro z r hr
    obtain ⟨a, b, c, d⟩ := key r hr
    rw [a, b, c, d]
    exact z r hr
theorem kfs_b (hT : TInv M) (ht : RelT M N 1) (s : Nat) : qkfB N s = kfsB M s := by
  have h6 : 0 ≤ M 15 3 ∧ M 15 3 ≤ 6 := tv hT (k := 15) (j := 3) rfl
  have e6 : qm N = (M 15 3).toNat := by unfold qm; rw [ht.1.2.2]
  unfold qkfB kfsB
  rw [e6]
  refine bits_c (fun k _ => ?_)
  have key : ∀ r, r < (M 15 3).toNat → N 269 (3 * r) = M 16 (r * 3 + 0) ∧ N 269 (3 * r + 1) = M 16 (r * 3 + 1) ∧ N 269 (3 * r + 2) = M 16 (r * 3 + 2) := fun r hr => by
    rw [ht.2.2.2 (3 * r) (by show ((3 * r : Nat) : Int) < 3 * M 15 3; omega), ht.2.2.2 (3 * r + 1) (by show ((3 * r + 1 : Nat) : Int) < 3 * M 15 3; omega), ht.2.2.2 (3 * r + 2) (by show ((3 * r + 2 : Nat) : Int) < 3 * M 15 3; omega), show 3 * r = r * 3 by omega]
    exact ⟨rfl, rfl, rfl⟩
  constructor
  · intro z r hr
    have := z r hr
    obtain ⟨a, b, c⟩ := key r hr
    rw [a, b, c] at this
    exact this
  · intro z r hr
    obtain ⟨a, b, c⟩ := key r hr
    rw [a, b, c]
    exact z r hr
theorem e_is (hT : TInv M) (h : RelC M N 1) (ht : RelT M N 1) (s : Int) : qrIs N s = rIs M s := by
  unfold qrIs rIs
  exact if_c3 (rc_S h s) (fun _ => by rw [kds_b hT ht]) (fun _ => rfl)
theorem e_kinds (hT : TInv M) (h : RelC M N 1) (ht : RelT M N 1) (s : Int) : qrKinds N s = rKinds M s := by
  unfold qrKinds rKinds
  exact if_c3 (rc_K h s) (fun _ => by rw [kfs_b hT ht]) (fun _ => rfl)
theorem e_look (hT : TInv M) (h : RelC M N 1) (ht : RelT M N 1) (s : Int) : qrLook N s = rLook M s := by
  unfold qrLook rLook
  refine if_c3 (rc_S h s) (fun z => ?_) (fun _ => rfl)
  have hs := isSou_n hT z
  rw [kds_b hT ht, (h.2.2.1 _ hs).2]
  exact bsA_eq (fun d => mxc_mal (Nat.le_refl 6) (bits_lt _ 6) (fun a b _ _ => Iff.rfl)) (fun t => mal_r _ _)
theorem e_ask (hT : TInv M) (h : RelC M N 1) (ht : RelT M N 1) (s : Int) : qrAsk N s = rAsk M s := by
  unfold qrAsk rAsk
  refine if_c3 (rc_K h s) (fun z => ?_) (fun _ => rfl)
  rw [kfs_b hT ht]
  exact bsA_eq (fun d => mxc_mal (Nat.le_refl 6) (bits_lt _ 6) (fun a b _ _ => Iff.rfl)) (fun t => mal_r _ _)
/-! claims: at most one is the k-th -/
theorem cnt_up2 {p : Nat → Prop} [DecidablePred p] {a : Nat} (ha : p a) : ∀ {b : Nat}, a < b → cnt p a < cnt p b
  | 0, h => absurd h (Nat.not_lt_zero _)
  | b + 1, h => by
    by_cases e : a = b
    · subst e; rw [cnt_y ha]; omega
    · have ih := cnt_up2 ha (b := b) (by omega)
      by_cases hb : p b
      · rw [cnt_y hb]; omega
      · rw [cnt_n hb]; exact ih
theorem clT_fst (u v k : Int) : ∀ n, clT u v k n = if fst (fun p => cR u v p ∧ cnt (cR u v) p = k) n = -1 then -5 else fst (fun p => cR u v p ∧ cnt (cR u v) p = k) n
  | 0 => rfl
  | n + 1 => by
    have ih := clT_fst u v k n
    unfold clT fst
    by_cases hp : cR u v n ∧ cnt (cR u v) n = k
    · rw [if_pos hp]
      have e : fst (fun p => cR u v p ∧ cnt (cR u v) p = k) n = -1 := fst_no (fun j hj z => by
        have := cnt_up2 z.1 hj
        have z2 := z.2
        have h2 := hp.2
        omega)
      rw [if_pos e, if_pos hp, if_neg (by omega)]
    · rw [if_neg hp, ih]
      by_cases e : fst (fun p => cR u v p ∧ cnt (cR u v) p = k) n = -1
      · rw [if_pos e, if_pos e, if_neg hp, if_pos rfl]
      · rw [if_neg e, if_neg e, if_neg e]
theorem e_claim (hT : TInv M) (h : RelC M N 1) (a b s k : Int) : qrClaim N a b s k = rClaim M a b s k := by
  unfold qrClaim rClaim
  refine if_c3 (by show (isQC N a ∧ isQC N b ∧ a ≠ b ∧ isQS N s ∧ -1 ≤ k) ↔ (isCal M a ∧ isCal M b ∧ a ≠ b ∧ isSou M s ∧ -1 ≤ k); rw [rc_K h, rc_K h, rc_S h]) (fun z => ?_) (fun _ => rfl)
  have hs := isSou_n hT z.2.2.2.1
  rw [rc_dst hT ho1 h hs (isCal_n hT z.1), rc_dst hT ho1 h hs (isCal_n hT z.2.1)]
  unfold qclm clmA
  exact if_c3 Iff.rfl (fun _ => rfl) (fun _ => clT_fst _ _ _ _)
theorem e_count0 (hT : TInv M) (h : RelC M N 1) (ht : RelT M N 1) (hu : N 258 25 = M 1 11) (hx : N 258 19 = M 195 2) (w : Int) : qrCount0 N w = rCount0 M w := by
  unfold qrCount0 rCount0
  rw [h.1.1, h.1.2.1, h.1.2.2.1, h.1.2.2.2, ht.1.1, ht.1.2.1, ht.1.2.2, rc_adc hT ho1 h, rc_shc hT ho1 h, hu, hx]
theorem e_count (hT : TInv M) (h : RelC M N 1) (ht : RelT M N 1) (hu : N 258 25 = M 1 11) (hx : N 258 19 = M 195 2) (w : Int) : qrCount N w = rCount M w := by
  unfold qrCount rCount
  exact if_c3 Iff.rfl (fun _ => e_count0 hT h ht hu hx w) (fun _ => rfl)
theorem mixR_c {r q : Nat → Int} {h : Int64} : ∀ {n : Nat}, (∀ j, j < n → r j = q j) → mixR r n h = mixR q n h
  | 0, _ => rfl
  | n + 1, hr => by
    show 31 * mixR r n h + (sI (r n)).toInt64 = 31 * mixR q n h + (sI (q n)).toInt64
    rw [mixR_c (fun j hj => hr j (by omega)), hr n (Nat.lt_succ_self n)]
theorem qdS_eq (hT : TInv M) (h : RelC M N 1) (x : Int64) : ∀ n, n ≤ nS M 1 → qdS N n x = dgS M n x
  | 0, _ => rfl
  | n + 1, hn => by
    show mixR (fun w => qTel N n w) 5 (qdS N n x) = mixR (fun w => bFact M 1 n w) 5 (dgS M n x)
    rw [qdS_eq hT h x n (by omega)]
    exact mixR_c (fun j _ => rc_fact hT h (by omega) _)
theorem e_digest (hT : TInv M) (h : RelC M N 1) (ht : RelT M N 1) (hu : N 258 25 = M 1 11) (hx : N 258 19 = M 195 2) {L : sL} (h1 : L 258 31 = (sI (M 0 8)).toInt64) (h2 : L 258 32 = (sI (M 0 9)).toInt64) : qdig N L = dig M := by
  have a5 : 0 ≤ M 11 3 ∧ M 11 3 ≤ 5 := tv hT (k := 11) (j := 3) rfl
  have a6 : 0 ≤ M 13 3 ∧ M 13 3 ≤ 6 := tv hT (k := 13) (j := 3) rfl
  have a7 : 0 ≤ M 15 3 ∧ M 15 3 ≤ 6 := tv hT (k := 15) (j := 3) rfl
  have e5 : 2 * qs N = (M 11 3).toNat * 2 := by unfold qs; rw [ht.1.1]; show 2 * (M 11 3).toNat = _; omega
  have e6 : 4 * qo N = (M 13 3).toNat * 4 := by unfold qo; rw [ht.1.2.1]; show 4 * (M 13 3).toNat = _; omega
  have e7 : 3 * qm N = (M 15 3).toNat * 3 := by unfold qm; rw [ht.1.2.2]; show 3 * (M 15 3).toNat = _; omega
  have d1 : qd1 N = mixR (fun w => rCount0 M w) 11 1613 := mixR_c (fun j _ => e_count0 hT h ht hu hx _)
  have d2 : qd2 N = mixR (M 2) 12 (mixR (fun w => rCount0 M w) 11 1613) := by unfold qd2; rw [d1]; exact mixR_c (fun j hj => h.2.1 j hj)
  have d3 : qd3 N = dgS M (nS M 1) (mixR (M 2) 12 (mixR (fun w => rCount0 M w) 11 1613)) := by unfold qd3; rw [d2, rc_n h]; exact qdS_eq hT h _ _ (Nat.le_refl _)
  unfold qdig qd7 qd6 qd5 qd4 dig
  rw [d3, e5, e6, e7, rc_m h, h1, h2]
  rw [mixR_c (r := N 266) (q := M 5) (fun j hj => h.2.2.2.1 j hj), mixR_c (r := N 267) (q := M 12) (fun j hj => ht.2.1 j (by show (j : Int) < 2 * M 11 3; omega)),
    mixR_c (r := N 268) (q := M 14) (fun j hj => ht.2.2.1 j (by show (j : Int) < 4 * M 13 3; omega)), mixR_c (r := N 269) (q := M 16) (fun j hj => ht.2.2.2 j (by show (j : Int) < 3 * M 15 3; omega))]
end RD
