/-! the beach at o, and the reference: what they have in common -/
def plc (c h : Int) : Int := if c ≠ -1 then c else if h = -1 then -1 else -2
def MoC (n m : Nat) (c h d p g e : Nat → Int) : Prop :=
  (∀ s, s < n → p s = plc (c s) (h s) ∧ g s = h s ∧ e s = d s ∧ (c s = -1 ∨ h s = -1) ∧ h s < m) ∧ (∀ s t, s < n → t < n → h s = h t → h s ≠ -1 → s = t)
def RelC (M N : sM) (o : Nat) : Prop :=
  (N 258 1 = M o 9 ∧ N 258 2 = M o 10 ∧ N 258 3 = M (o + 5) 4 ∧ N 258 4 = M (o + 5) 3) ∧
  (∀ c, c < 12 → N 260 c = M (o + 1) c) ∧ (∀ s, s < nS M o → N 261 s = M (o + 2) s ∧ N 262 s = M (o + 3) s) ∧ (∀ i, i < nC M o → N 266 i = M (o + 4) i) ∧
  MoC (nS M o) (nC M o) (M (o + 6)) (M (o + 7)) (M (o + 8)) (N 263) (N 264) (N 265)
def RelT (M N : sM) (o : Nat) : Prop :=
  (N 258 5 = M (o + 10) 3 ∧ N 258 6 = M (o + 12) 3 ∧ N 258 7 = M (o + 14) 3) ∧
  (∀ j : Nat, (j : Int) < 2 * M (o + 10) 3 → N 267 j = M (o + 11) j) ∧ (∀ j : Nat, (j : Int) < 4 * M (o + 12) 3 → N 268 j = M (o + 13) j) ∧ (∀ j : Nat, (j : Int) < 3 * M (o + 14) 3 → N 269 j = M (o + 15) j)
def RelU (M N : sM) (o : Nat) : Prop :=
  N 258 25 = M o 11 ∧ ∀ u, u < nU M o → (N 272 (20 * u) = M (o + 16 + 4 * u) 4 ∧ N 272 (20 * u + 1) = M (o + 16 + 4 * u) 3 ∧ M (o + 16 + 4 * u) 4 ≤ 999 ∧
    MoC (nS M o) (nC M o) (M (o + 17 + 4 * u)) (M (o + 18 + 4 * u)) (M (o + 19 + 4 * u)) (fun s => N 272 (20 * u + (2 + s))) (fun s => N 272 (20 * u + (8 + s))) (fun s => N 272 (20 * u + (14 + s))))
theorem plc_a {c h : Int} (hc : -1 ≤ c) : 0 ≤ plc c h ↔ c ≠ -1 := by
  unfold plc
  repeat' split
  all_goals omega
theorem plc_s {c h : Int} (hc : -1 ≤ c) : plc c h = -1 ↔ c = -1 ∧ h = -1 := by
  unfold plc
  repeat' split
  all_goals omega
theorem plc_h {c h : Int} (hc : -1 ≤ c) : plc c h = -2 ↔ c = -1 ∧ h ≠ -1 := by
  unfold plc
  repeat' split
  all_goals omega
theorem plc_c {c h : Int} (hc : c ≠ -1) : plc c h = c := if_pos hc
section RC
variable {M N : sM} {o : Nat}
theorem rc_n (h : RelC M N o) : qn N = nS M o := by unfold qn nS; rw [h.1.1]
theorem rc_m (h : RelC M N o) : qc N = nC M o := by unfold qc nC; rw [h.1.2.1]
theorem rc_ad (hT : TInv M) (ho : isB o) (h : RelC M N o) {s : Nat} (hs : s < nS M o) : 0 ≤ N 263 s ↔ adr M o s := by
  rw [(h.2.2.2.2.1 s hs).1, plc_a (tv_cell hT ho s).1]
theorem rc_sh (hT : TInv M) (ho : isB o) (h : RelC M N o) {s : Nat} (hs : s < nS M o) : N 263 s = -1 ↔ shv M o s := by
  rw [(h.2.2.2.2.1 s hs).1, plc_s (tv_cell hT ho s).1]
theorem rc_c (h : RelC M N o) {s : Nat} (hs : s < nS M o) (ha : adr M o s) : N 263 s = M (o + 6) s := by
  rw [(h.2.2.2.2.1 s hs).1, plc_c ha]
theorem rc_wei (h : RelC M N o) {s : Nat} (hs : s < nS M o) : qWei N s = bWei M o s := by
  unfold qWei bWei wei
  rw [(h.2.2.1 s hs).1, (h.2.2.1 s hs).2, (h.2.2.2.2.1 s hs).2.2.1]
theorem rc_fel (h : RelC M N o) {s i : Nat} (hs : s < nS M o) (hi : i < nC M o) : qFel N s i = bFel M o s i := by
  have e := rc_wei h hs
  unfold qWei bWei at e
  unfold qFel bFel fel
  rw [e, h.2.2.2.1 i hi]
theorem rc_wan (hT : TInv M) (ho : isB o) (h : RelC M N o) (i : Nat) : qWan N i = bWan M o i := by
  have h1 := nS_r hT ho
  unfold qWan bWan wan
  rw [h.1.1]
  by_cases c : (i : Int) < M o 9
  · rw [if_pos c, if_pos c, (h.2.2.1 i (by omega)).2]
  · rw [if_neg c, if_neg c]
theorem rc_dst (hT : TInv M) (ho : isB o) (h : RelC M N o) {s i : Nat} (hs : s < nS M o) (hi : i < nC M o) : qDst N s i = bDst M o s i := by
  have e1 := rc_fel h hs hi
  have e2 := rc_wan hT ho h i
  unfold qFel bFel at e1
  unfold qWan bWan at e2
  unfold qDst bDst dst
  rw [e1, e2]
theorem lst_fst {p : Nat → Prop} [DecidablePred p] : ∀ {n : Nat}, (∀ s t, s < n → t < n → p s → p t → s = t) → lst p n = fst p n
  | 0, _ => rfl
  | n + 1, h => by
    have ih := lst_fst (p := p) (n := n) (fun s t hs ht => h s t (by omega) (by omega))
    unfold lst fst
    by_cases hp : p n
    · rw [if_pos hp, if_pos hp, fst_no (fun k hk hpk => by have := h k n (by omega) (Nat.lt_succ_self n) hpk hp; omega), if_pos rfl]
    · rw [if_neg hp, if_neg hp, ih]
      split
      · assumption
      · rfl
theorem lst_c {p q : Nat → Prop} [DecidablePred p] [DecidablePred q] : ∀ {n : Nat}, (∀ i, i < n → (p i ↔ q i)) → lst p n = lst q n
  | 0, _ => rfl
  | n + 1, h => by
    have ih := lst_c (n := n) (fun i hi => h i (by omega))
    unfold lst
    rw [ih]
    exact if_congr' (h n (Nat.lt_succ_self n))
theorem rc_held (h : RelC M N o) (i : Nat) : qHeld N i = bHeld M o i := by
  unfold qHeld bHeld
  rw [rc_n h, lst_c (q := fun s => M (o + 7) s = i) (fun s hs => by rw [(h.2.2.2.2.1 s hs).2.1])]
  exact lst_fst (fun s t hs ht a b => h.2.2.2.2.2 s t hs ht (by omega) (by omega))
theorem rc_nea (hT : TInv M) (ho : isB o) (h : RelC M N o) {i : Nat} (hi : i < nC M o) : qNea N i = bNea M o i := by
  unfold qNea bNea
  rw [rc_n h]
  exact nea_c (fun s hs => rc_sh hT ho h hs) (fun s hs _ => rc_dst hT ho h hs hi)
theorem rc_cho (hT : TInv M) (ho : isB o) (h : RelC M N o) {i : Nat} (hi : i < nC M o) : qCho N i = bCho M o i := by
  unfold qCho bCho
  rw [rc_held h, rc_nea hT ho h hi]
theorem cnt_more {p : Nat → Prop} [DecidablePred p] {a : Nat} : ∀ {b : Nat}, a ≤ b → (∀ k, a ≤ k → k < b → ¬ p k) → cnt p b = cnt p a
  | 0, h, _ => by rw [show a = 0 by omega]
  | b + 1, h, hn => by
    by_cases e : a = b + 1
    · rw [e]
    · rw [cnt_n (hn b (by omega) (Nat.lt_succ_self b))]
      exact cnt_more (by omega) (fun k h1 h2 => hn k h1 (by omega))
theorem rc_rig (hT : TInv M) (ho : isB o) (h : RelC M N o) : qRig N = bRig M o := by
  have h1 := nS_r hT ho
  have h2 := nC_r hT ho
  unfold qRig bRig
  rw [rc_m h, h.1.1]
  have e1 : cnt (fun i => (i : Int) < M o 9 ∧ N 264 i = i) (nC M o) = cnt (fun i => (i : Int) < M o 9 ∧ N 264 i = i) 6 := by
    refine (cnt_more (by omega) (fun k a b z => ?_)).symm
    have := h.2.2.2.2.1 k (by omega)
    have z2 := z.2
    omega
  have e2 : cnt (fun s => M (o + 7) s = s) (nS M o) = cnt (fun i => (i : Int) < M o 9 ∧ N 264 i = i) (nS M o) := by
    refine cnt_c (fun i hi => ?_)
    rw [(h.2.2.2.2.1 i hi).2.1]
    exact ⟨fun z => ⟨by omega, z⟩, fun z => z.2⟩
  rw [e1, e2]
  exact cnt_more (by omega) (fun k a b z => by have := z.1; omega)
theorem rc_shc (hT : TInv M) (ho : isB o) (h : RelC M N o) : qCnt N (-1) = bShC M o := by
  unfold qCnt bShC
  rw [rc_n h]
  exact cnt_c (fun s hs => rc_sh hT ho h hs)
theorem cnt_3 {p q r : Nat → Prop} [DecidablePred p] [DecidablePred q] [DecidablePred r] : ∀ {n : Nat}, (∀ s, s < n → (p s ∧ ¬ q s ∧ ¬ r s) ∨ (¬ p s ∧ q s ∧ ¬ r s) ∨ (¬ p s ∧ ¬ q s ∧ r s)) → (n : Int) - cnt q n - cnt r n = cnt p n
  | 0, _ => rfl
  | n + 1, h => by
    have ih := cnt_3 (p := p) (q := q) (r := r) (n := n) (fun s hs => h s (by omega))
    rcases h n (Nat.lt_succ_self n) with ⟨a, b, c⟩ | ⟨a, b, c⟩ | ⟨a, b, c⟩
    · rw [cnt_y a, cnt_n b, cnt_n c]; omega
    · rw [cnt_n a, cnt_y b, cnt_n c]; omega
    · rw [cnt_n a, cnt_n b, cnt_y c]; omega
theorem rc_adc (hT : TInv M) (ho : isB o) (h : RelC M N o) : qAdC N = bAdC M o := by
  unfold qAdC bAdC qCnt
  rw [rc_n h]
  refine cnt_3 (fun s hs => ?_)
  have h1 := (h.2.2.2.2.1 s hs).1
  have h2 := (tv_cell hT ho s).1
  rw [h1, plc_s h2, plc_h h2]
  unfold adr
  omega
theorem dri_c {f g : Nat → Int} (hf : ∀ c, c < 12 → f c = g c) {c : Int} (hc : 0 ≤ c ∧ c ≤ 11) : dri f c = dri g c := by
  unfold dri
  rw [hf c.toNat (by omega)]
theorem driN_c {f g : Nat → Int} (hf : ∀ c, c < 12 → f c = g c) {c : Int} (hc : 0 ≤ c ∧ c ≤ 11) : ∀ n, driN f n c = driN g n c
  | 0 => rfl
  | n + 1 => by
    show dri f (driN f n c) = dri g (driN g n c)
    rw [driN_c hf hc n, dri_c hf (driN_r g hc n)]
theorem rc_dri (h : RelC M N o) {c : Int} (hc : 0 ≤ c ∧ c ≤ 11) (n : Nat) : driN (N 260) n c = driN (M (o + 1)) n c := driN_c h.2.1 hc n
theorem rc_cell (hT : TInv M) (ho : isB o) {s : Nat} (ha : adr M o s) : 0 ≤ M (o + 6) s ∧ M (o + 6) s ≤ 11 := by
  have := tv_cell hT ho s
  unfold adr at ha
  omega
end RC
