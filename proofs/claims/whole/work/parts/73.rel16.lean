/-! reading: the whole -/
section RQ
variable {A B M N : sM} {L : sL}
def CR (A B : sM) (x y : Bool × sM) : Prop := FA A x.2 ∧ FB B y.2 ∧ ((x.1 = true ∧ y.1 = true ∧ RT x.2 y.2 ∧ tS x.2 = qsp y.2 ∧ SC x.2 y.2) ∨ (x.1 = false ∧ y.1 = false ∧ x.2 195 4 = y.2 258 20))
theorem cr_cur : ∀ (k c : Nat) (A B : sM), RT A B → tS A = qsp B → SC A B → CR A B (pCurN k c A) (qpCurN k c B)
  | 0, _, A, B, h, hs, hc => ⟨⟨fun _ _ => rfl, rfl⟩, ⟨fun _ _ => rfl, rfl, rfl⟩, Or.inl ⟨rfl, rfl, h, hs, hc⟩⟩
  | k + 1, c, A, B, h, hs, hc => by
    obtain ⟨a1, a2⟩ := rt_ok h hs 0 4
    by_cases c1 : nOk 0 4 A
    · rw [pCurN_y c1, qpCurN_y (a1.mp c1)]
      obtain ⟨t1, v1⟩ := a2 c1
      obtain ⟨w1, w2, w3⟩ := st_num h hs hc t1
      have k1 := c1.2
      rw [v1] at *
      have fA : FA (nxM A) (sSt (nxM A) 198 c (nqV B - 2)) := fa_o (fun d hd => sSt_ne (by unfold oth at hd; omega))
      have fB : FB (nqM B) (sSt (nqM B) 260 c (nqV B - 2)) := ⟨fun d hd => sSt_ne (by omega), rfl, rfl⟩
      have r : RT (sSt (nxM A) 198 c (nqV B - 2)) (sSt (nqM B) 260 c (nqV B - 2)) := rt_c w1 fA fB (tw_cur (o := 197) w1.2.2.1 o197 (by omega)) (rOk_c (sSt_ne (by decide)) w1.2.2.2)
      have sc : SC (sSt (nxM A) 198 c (nqV B - 2)) (sSt (nqM B) 260 c (nqV B - 2)) := by
        refine ⟨⟨w3.1.1, fun a ha => ?_, w3.1.2.2⟩, w3.2.1, w3.2.2.1, w3.2.2.2⟩
        show (if a = c then nqV B - 2 else nqM B 260 a) = (if a = c then nqV B - 2 else nxM A (197 + 1) a)
        rw [w3.1.2.1 a ha]
      obtain ⟨x1, x2, x3⟩ := cr_cur k (c + 1) _ _ r w2 sc
      exact ⟨FA_t (fa_nx A) (FA_t fA x1), FB_t (fb_nq B) (FB_t fB x2), x3⟩
    · rw [pCurN_n c1, qpCurN_n (fun z => c1 (a1.mpr z))]
      refine ⟨fa_nx A, fb_sk B, Or.inr ⟨rfl, rfl, ?_⟩⟩
      show nxM A 195 4 = qSk B 258 20
      rw [nx_4, sk_20, hs]
theorem ok_cur {x y : Bool × sM} (h : CR A B x y) : OK A B (pEnd x) (if y.1 = true then qEnd y.2 else (false, y.2)) := by
  obtain ⟨xb, X⟩ := x
  obtain ⟨yb, Y⟩ := y
  obtain ⟨h1, h2, h3⟩ := h
  rcases h3 with ⟨e1, e2, r, s, c⟩ | ⟨e1, e2, e3⟩
  · have e1' : xb = true := e1
    have e2' : yb = true := e2
    subst e1' e2'
    exact ok_t h1 h2 (ok_end r s c)
  · have e1' : xb = false := e1
    have e2' : yb = false := e2
    subst e1' e2'
    exact ⟨h1, h2, Or.inr ⟨rfl, rfl, e3⟩⟩
theorem pI_s (f n : Nat) (A : sM) : pItems (f + 1) n A = if tK A = 0 ∧ 0 < n then ((n : Int), nxM A) else if (wHere A = 0) ↔ n = 0 then (if (pEnd (pNums (wHere A) (nxM A))).1 = true then pItems f (n + 1) (pEnd (pNums (wHere A) (nxM A))).2 else (-1, (pEnd (pNums (wHere A) (nxM A))).2)) else (-1, nxM A) := by
  show (if tK A = 0 ∧ 0 < n then ((n : Int), nxM A) else if (wHere A = 0) ↔ n = 0 then (if (pNums (wHere A) (nxM A)).1 = true then (if tK (pNums (wHere A) (nxM A)).2 = 3 then pItems f (n + 1) (nxM (pNums (wHere A) (nxM A)).2) else (-1, nxM (pNums (wHere A) (nxM A)).2)) else (-1, (pNums (wHere A) (nxM A)).2)) else (-1, nxM A)) = _
  congr 1
  congr 1
  unfold pEnd
  by_cases c : (pNums (wHere A) (nxM A)).1 = true
  · rw [if_pos c, if_pos c]
    by_cases d : tK (pNums (wHere A) (nxM A)).2 = 3
    · rw [if_pos d, if_pos d]; rfl
    · rw [if_neg d, if_neg d]; rfl
  · rw [if_neg c, if_neg c]; rfl
def IR (A B : sM) (x y : Int × sM) : Prop := FA A x.2 ∧ FB B y.2 ∧ ((0 ≤ x.1 ∧ x.1 = y.1 ∧ SC x.2 y.2 ∧ TInv x.2) ∨ (x.1 = -1 ∧ y.1 = -1 ∧ x.2 195 4 = y.2 258 20))
/-- the item that comes -/
theorem ok_item (h : RT A B) (hs : tS A = qsp B) (hq : rq B = qsp B) (h20 : B 258 20 = (qsp B : Int)) (hc : SC A B) (hw : wHere A ≠ 0) : OK A B (pEnd (pNums (wHere A) (nxM A))) (qpItem B) := by
  obtain ⟨e, ek⟩ := rt_wd h hs hq
  have fault : OK A B (pEnd (false, nxM A)) (false, B) := by
    refine ⟨fa_nx A, ⟨fun _ _ => rfl, rfl, rfl⟩, Or.inr ⟨rfl, rfl, ?_⟩⟩
    show nxM A 195 4 = B 258 20
    rw [nx_4, h20, hs]
  have c1 : B 258 1 = A 197 9 := hc.1.1.1
  have c2 : B 258 2 = A 197 10 := hc.1.1.2.1
  have r1 := nS_r h.2.2.1 o197
  have r2 := nC_r h.2.2.1 o197
  have hr := wHere_r A
  have eS : nxM A 197 9 = A 197 9 := rfl
  have eC : nxM A 197 10 = A 197 10 := rfl
  unfold pNums qpItem
  rw [← e, eS, eC, c1, c2]
  generalize hg : wHere A = w at hw hr
  by_cases w1 : w < 1
  · rw [if_pos (Or.inl w1), if_neg hw, if_neg (by omega), if_neg (by omega), if_neg (by omega), if_neg (by omega), if_neg (by omega)]
    exact fault
  have k1 : tK A = 1 := by
    by_cases z : tK A = 1
    · exact z
    · have : wHere A = -1 := if_neg z
      omega
  have r : RT (nxM A) (sSt B 258 20 ((rq B + wLn B : Nat) : Int)) := rt_nx h (fb_p B _)
  have s : tS (nxM A) = qsp (sSt B 258 20 ((rq B + wLn B : Nat) : Int)) := sp_e r (by rw [rP_nx, ek k1, rq_st])
  have sc : SC (nxM A) (sSt B 258 20 ((rq B + wLn B : Nat) : Int)) := hc
  have out : ∀ {x y : Bool × sM}, OK (nxM A) (sSt B 258 20 ((rq B + wLn B : Nat) : Int)) x y → OK A B x y := fun o => ok_t (fa_nx A) (fb_p B _) o
  rw [if_neg hw]
  by_cases w2 : w = 1
  · subst w2
    rw [if_pos rfl]
    by_cases n6 : A 197 9 < 6
    · rw [if_pos n6, if_neg (by omega), if_pos rfl]
      exact out (ok_soul r s sc n6)
    · rw [if_neg n6, if_pos (by omega)]
      exact fault
  rw [if_neg w2, if_neg w2]
  by_cases w3 : w = 2
  · subst w3
    rw [if_pos rfl]
    by_cases n6 : A 197 10 < 6
    · rw [if_pos n6, if_neg (by omega), if_pos rfl]
      exact out (ok_caller r s sc n6)
    · rw [if_neg n6, if_pos (by omega)]
      exact fault
  rw [if_neg w3, if_neg w3, if_neg (show ¬ (w < 1 ∨ (w = 1 ∧ A 197 9 = 6) ∨ (w = 2 ∧ A 197 10 = 6)) by omega)]
  by_cases w4 : w = 3
  · rw [if_pos w4, if_pos w4]
    exact out (ok_walk r s sc)
  rw [if_neg w4, if_neg w4]
  by_cases w5 : w = 4
  · rw [if_pos w5, if_pos w5]
    exact out (ok_call r s sc)
  rw [if_neg w5, if_neg w5, if_pos (show w = 5 by omega)]
  exact out (ok_tides r s sc)
theorem ir_items : ∀ (f n : Nat) (A B : sM), 1 ≤ n → RT A B → tS A = qsp B → rq B = qsp B → B 258 20 = (qsp B : Int) → SC A B → qt B < rq B + f → IR A B (pItems f n A) (qpItems f n B)
  | 0, n, A, B, hn, h, hs, hq, h20, hc, hf => by
    have := rt_s h
    have := h.2.1
    omega
  | f + 1, n, A, B, hn, h, hs, hq, h20, hc, hf => by
    have k0 := rt_k0 h hs
    rw [pI_s]
    by_cases z : rq B < qt B
    · have k : ¬ (tK A = 0 ∧ 0 < n) := fun y => k0.mp y.1 (by rw [← hq]; exact z)
      rw [if_neg k]
      obtain ⟨e, _⟩ := rt_wd h hs hq
      by_cases w0 : wHere A = 0
      · rw [if_neg (fun y => by have := y.mp w0; omega), qpItems_n z (by unfold qpItem; rw [← e, w0, if_pos (Or.inl (by decide))]; exact Bool.false_ne_true)]
        refine ⟨fa_nx A, ?_, Or.inr ⟨rfl, rfl, ?_⟩⟩
        · show FB B (qpItem B).2
          unfold qpItem
          rw [← e, w0, if_pos (Or.inl (by decide))]
          exact ⟨fun _ _ => rfl, rfl, rfl⟩
        · show nxM A 195 4 = (qpItem B).2 258 20
          unfold qpItem
          rw [← e, w0, if_pos (Or.inl (by decide)), nx_4, hs]
          exact h20.symm
      · rw [if_pos ⟨fun y => absurd y w0, fun y => by omega⟩]
        obtain ⟨o1, o2, o3⟩ := ok_item h hs hq h20 hc w0
        rcases o3 with ⟨b1, b2, g1, g2, g3⟩ | ⟨b1, b2, g1⟩
        · rw [if_pos b1, qpItems_y z b2]
          have r2 := rq_item b2
          have g1' : RT (pEnd (pNums (wHere A) (nxM A))).2 (qSk (qpItem B).2) := rt_c g1 ⟨fun _ _ => rfl, rfl⟩ (fb_sk _) g1.2.2.1 g1.2.2.2
          have s' : tS (pEnd (pNums (wHere A) (nxM A))).2 = qsp (qSk (qpItem B).2) := by rw [sk_sk]; exact sp_e g1 g2
          have q' : rq (qSk (qpItem B).2) = qsp (qSk (qpItem B).2) := by rw [sk_sk, rq_sk]
          have t' : qSk (qpItem B).2 258 20 = (qsp (qSk (qpItem B).2) : Int) := by rw [sk_sk]; exact sk_20 _
          have eqt : qt (qSk (qpItem B).2) = qt B := by
            have : (qSk (qpItem B).2) 258 19 = B 258 19 := (fb_sk _).2.1.trans o2.2.1
            unfold qt; rw [this]
          have le := rq_sk_le (qpItem B).2
          obtain ⟨p1, p2, p3⟩ := ir_items f (n + 1) _ _ (by omega) g1' s' q' t' g3 (by rw [eqt]; omega)
          exact ⟨FA_t o1 p1, FB_t o2 (FB_t (fb_sk _) p2), p3⟩
        · rw [if_neg (by rw [b1]; exact Bool.false_ne_true), qpItems_n z (by rw [b2]; exact Bool.false_ne_true)]
          exact ⟨o1, o2, Or.inr ⟨rfl, rfl, g1⟩⟩
    · have k : tK A = 0 ∧ 0 < n := ⟨k0.mpr (by rw [← hq]; exact z), hn⟩
      rw [if_pos k, qpItems_e z]
      exact ⟨fa_nx A, ⟨fun _ _ => rfl, rfl, rfl⟩, Or.inl ⟨by show (0 : Int) ≤ (n : Int); omega, rfl, hc, nxM_T h.2.2.1 h.2.2.2⟩⟩
theorem T_res (hT : TInv M) : TInv (bRes M 197) := by
  unfold bRes rsC
  have z : ∀ k, k = 207 ∨ k = 209 ∨ k = 211 → ∀ X : sM, TInv X → TInv (sSt X k 3 0) := fun k hk X hX => by
    rcases hk with rfl | rfl | rfl
    · exact tv_st hX (k := 207) (j := 3) rfl (by decide)
    · exact tv_st hX (k := 209) (j := 3) rfl (by decide)
    · exact tv_st hX (k := 211) (j := 3) rfl (by decide)
  refine tw_undos (tw_callers (tw_souls (z 211 (by decide) _ (z 209 (by decide) _ (z 207 (by decide) _ (tw_tide (tw_comber (tv_row hT (fun j => ?_)) o197 (by decide)) o197 (by decide))))) o197 (by decide)) o197 (by decide)) o197 (by decide)
  rw [rg_B o197 (by omega)]
  show -2 ≤ (if j < 12 then (0 : Int) else M (197 + 1) j) ∧ (if j < 12 then (0 : Int) else M (197 + 1) j) ≤ 2
  have := tv_cur hT o197 j
  split <;> omega
theorem ir_shore (hT : TInv M) (ht : rN M = qt N) (htx : ∀ j, j < rN M → M 196 j = N 270 j) (h23 : N 258 23 = 0) (hn : qt N ≤ 150) : IR (sSt (bRes M 197) 195 3 0) (sSt N 258 20 0) (pShore M) (qpShore N) := by
  have e2 : rN (sSt (bRes M 197) 195 3 0) = rN M := rfl
  have T0 : TInv (sSt (bRes M 197) 195 3 0) := tv_st (T_res hT) (k := 195) (j := 3) rfl (by decide)
  have ok0 : rOk (sSt (bRes M 197) 195 3 0) := by
    have : _ ≤ M 195 2 ∧ M 195 2 ≤ _ := tv hT (k := 195) (j := 2) (lo := 0) (hi := 150) rfl
    show (0 : Int) ≤ M 195 2
    exact this.1
  have r0 : RT (sSt (bRes M 197) 195 3 0) (sSt N 258 20 0) := ⟨htx, ht, T0, ok0⟩
  have s0 : tS (sSt (bRes M 197) 195 3 0) = qsp (sSt N 258 20 0) := sp_e r0 rfl
  have r1 : RT (sSt (bRes M 197) 195 3 0) (qSk (sSt N 258 20 0)) := rt_c r0 ⟨fun _ _ => rfl, rfl⟩ (fb_sk _) T0 ok0
  have s1 : tS (sSt (bRes M 197) 195 3 0) = qsp (qSk (sSt N 258 20 0)) := by rw [sk_sk]; exact s0
  have q1 : rq (qSk (sSt N 258 20 0)) = qsp (qSk (sSt N 258 20 0)) := by rw [sk_sk, rq_sk]
  obtain ⟨e, ek⟩ := rt_wd r1 s1 q1
  have f0 : FB (sSt N 258 20 0) (qSk (sSt N 258 20 0)) := fb_sk _
  unfold pShore qpShore
  generalize hX : sSt (bRes M 197) 195 3 0 = X at *
  generalize hY : sSt N 258 20 0 = Y at *
  rw [pI_s, if_neg (fun z => absurd z.2 (Nat.lt_irrefl 0))]
  unfold qpFirst
  by_cases w0 : wHere X = 0
  · rw [if_pos ⟨fun _ => rfl, fun _ => w0⟩]
    have wq : qWd (qSk Y) = 0 := by rw [← e]; exact w0
    have k1 : tK X = 1 := by
      by_cases z : tK X = 1
      · exact z
      · have : wHere X = -1 := if_neg z
        omega
    have pos5 : tA X = qsp Y + 5 := by rw [ek k1, qWd_0 wq, q1, sk_sk]
    have fF : FB Y (qF0 Y) := FB_t (fb_sk Y) (FB_t (fb_p _ _) (fb_bg _))
    have rF : RT (nxM X) (qF0 Y) := rt_nx r0 fF
    have sF : tS (nxM X) = qsp (qF0 Y) := sp_e rF (by rw [rP_nx, pos5]; exact (rq_st (qSk Y) (qsp Y + 5)).symm)
    have cF : SC (nxM X) (qF0 Y) := by
      rw [← hX]
      refine ⟨⟨⟨rfl, rfl, rfl, rfl⟩, fun c hc => ?_, fun s hs => absurd hs (Nat.not_lt_zero s), fun s hs => absurd hs (Nat.not_lt_zero s), fun s hs => absurd hs (Nat.not_lt_zero s), fun s t hs => absurd hs (Nat.not_lt_zero s)⟩, ⟨⟨rfl, rfl, rfl, rfl⟩, rfl, rfl, rfl⟩, ?_, ?_⟩
      · show (if c < 12 then 0 else Y 260 c) = (if c < 12 then 0 else M (197 + 1) c)
        rw [if_pos hc, if_pos hc]
      · show (0 : Int) ≤ 999; decide
      · show Y 258 23 = 0
        rw [← hY]; exact h23
    have en : pNums (wHere X) (nxM X) = pCurN 12 0 (nxM X) := by unfold pNums; rw [w0]; rfl
    rw [en, if_pos wq]
    have fst' := rq_first (M := Y)
    unfold qpFirst at fst'
    rw [if_pos wq] at fst'
    obtain ⟨o1, o2, o3⟩ := ok_cur (cr_cur 12 0 _ _ rF sF cF)
    generalize (if (qpCurN 12 0 (qF0 Y)).1 = true then qEnd (qpCurN 12 0 (qF0 Y)).2 else (false, (qpCurN 12 0 (qF0 Y)).2)) = y at o2 o3 fst' ⊢
    generalize pEnd (pCurN 12 0 (nxM X)) = x at o1 o3 ⊢
    rcases o3 with ⟨b1, b2, g1, g2, g3⟩ | ⟨b1, b2, g1⟩
    · rw [if_pos b1, if_pos b2]
      have g1' : RT x.2 (qSk y.2) := rt_c g1 ⟨fun _ _ => rfl, rfl⟩ (fb_sk _) g1.2.2.1 g1.2.2.2
      have eqt : qt (qSk y.2) = qt N := by
        have : qSk y.2 258 19 = Y 258 19 := (fb_sk y.2).2.1.trans (o2.2.1.trans fF.2.1)
        unfold qt; rw [this, ← hY]; rfl
      have le := rq_sk_le y.2
      have f5 := fst' b2
      obtain ⟨p1, p2, p3⟩ := ir_items 150 (0 + 1) _ _ (by decide) g1' (by rw [sk_sk]; exact sp_e g1 g2) (by rw [sk_sk, rq_sk]) (by rw [sk_sk]; exact sk_20 _) g3 (by rw [eqt]; omega)
      exact ⟨FA_t (fa_nx X) (FA_t o1 p1), FB_t fF (FB_t o2 (FB_t (fb_sk _) p2)), p3⟩
    · rw [if_neg (by rw [b1]; exact Bool.false_ne_true), if_neg (by rw [b2]; exact Bool.false_ne_true)]
      exact ⟨FA_t (fa_nx X) o1, FB_t fF o2, Or.inr ⟨rfl, rfl, g1⟩⟩
  · have wq : ¬ qWd (qSk Y) = 0 := fun z => w0 (by rw [e]; exact z)
    rw [if_neg (fun z => w0 (z.mpr rfl)), if_neg wq, if_neg (show ¬ (false, qSk Y).1 = true from Bool.false_ne_true)]
    refine ⟨fa_nx X, f0, Or.inr ⟨rfl, rfl, ?_⟩⟩
    show nxM X 195 4 = qSk Y 258 20
    rw [nx_4, sk_20, s0]
end RQ
