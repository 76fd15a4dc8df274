/-! reading: each item -/
def FA (M A : sM) : Prop := (∀ c, c < 195 ∨ c = 196 ∨ 245 ≤ c → A c = M c) ∧ A 195 2 = M 195 2
def FB (N B : sM) : Prop := (∀ c, c = 259 ∨ c = 270 ∨ c = 271 ∨ c = 278 ∨ c = 279 → B c = N c) ∧ B 258 19 = N 258 19 ∧ B 258 23 = N 258 23
def Zr (A B : sM) : Prop := (A 197 11 = 0 ∧ A 207 3 = 0 ∧ A 209 3 = 0 ∧ A 211 3 = 0) ∧ (B 258 5 = 0 ∧ B 258 6 = 0 ∧ B 258 7 = 0)
def SC (A B : sM) : Prop := RelC A B 197 ∧ Zr A B ∧ A (197 + 5) 4 ≤ 999 ∧ B 258 23 = 0
def OK (A B : sM) (x y : Bool × sM) : Prop := FA A x.2 ∧ FB B y.2 ∧ ((x.1 = true ∧ y.1 = true ∧ RT x.2 y.2 ∧ rP x.2 = rq y.2 ∧ SC x.2 y.2) ∨ (x.1 = false ∧ y.1 = false ∧ x.2 195 4 = y.2 258 20))
def pEnd (x : Bool × sM) : Bool × sM := if x.1 = true then (if tK x.2 = 3 then (true, nxM x.2) else (false, nxM x.2)) else (false, x.2)
section RO
variable {A B M N : sM}
theorem o197 : isB 197 := Or.inr (Or.inr (Or.inr (Or.inr rfl)))
theorem FA_t {A1 A2 A3 : sM} (h1 : FA A1 A2) (h2 : FA A2 A3) : FA A1 A3 := ⟨fun c hc => (h2.1 c hc).trans (h1.1 c hc), h2.2.trans h1.2⟩
theorem FB_t {A1 A2 A3 : sM} (h1 : FB A1 A2) (h2 : FB A2 A3) : FB A1 A3 := ⟨fun c hc => (h2.1 c hc).trans (h1.1 c hc), h2.2.1.trans h1.2.1, h2.2.2.trans h1.2.2⟩
theorem fa_nx (A : sM) : FA A (nxM A) := ⟨fun c hc => nxM_ne (by omega), mRd_o (by omega)⟩
theorem fa_o {A X : sM} (h : ∀ c, oth 197 c → X c = A c) : FA A X := ⟨fun c hc => h c (by unfold oth; omega), by rw [h 195 (by unfold oth; omega)]⟩
theorem fb_p (B : sM) (v : Int) : FB B (sSt B 258 20 v) := ⟨fun c hc => sSt_ne (by omega), rfl, rfl⟩
theorem fb_sk (B : sM) : FB B (qSk B) := fb_p B _
theorem fb_nq (B : sM) : FB B (nqM B) := ⟨fun c hc => by unfold nqM qSk; rw [sSt_ne (by omega), sSt_ne (by omega), sSt_ne (by omega)], rfl, rfl⟩
theorem fb_en (B : sM) : FB B (enM B) := ⟨fun c hc => by unfold enM qSk; rw [sSt_ne (by omega), sSt_ne (by omega)], rfl, rfl⟩
theorem fb_end (B : sM) : FB B (qEnd B).2 := by
  unfold qEnd
  split
  · exact fb_en B
  · exact fb_sk B
theorem fb_adS (B : sM) (k w c : Int) : FB B (qAdS B k w c) := ⟨fun c hc => by
  unfold qAdS
  rw [sSt_ne (by omega), sSt_ne (by omega), sSt_ne (by omega), sSt_ne (by omega), sSt_ne (by omega), sSt_ne (by omega), sSt_ne (by omega)], rfl, rfl⟩
theorem fb_adI (B : sM) (k : Int) : FB B (qAdI B k) := ⟨fun c hc => by
  unfold qAdI
  rw [sSt_ne (by omega), sSt_ne (by omega), sSt_ne (by omega)], rfl, rfl⟩
theorem fb_tk (B : sM) (i s : Nat) : FB B (qTk B i s) := ⟨fun c hc => by
  unfold qTk
  rw [sSt_ne (by omega), sSt_ne (by omega)], rfl, rfl⟩
theorem fb_ps (B : sM) (n : Nat) : FB B (qPs B n) := ⟨fun c hc => qPs_c (by omega) (by omega) (by omega) n, qPs_j (by decide) n, qPs_j (by decide) n⟩
theorem fb_go (B : sM) (d : Int) : FB B (qGo B d) := ⟨fun c hc => qGo_c (by omega) (by omega) (by omega), qGo_j (by decide) (by decide), qGo_j (by decide) (by decide)⟩
theorem fb_bg (B : sM) : FB B (qBeg B) := ⟨fun c hc => by
  unfold qBeg qBgN
  rw [sSr_ne (by omega), sSt_ne (by omega), sSt_ne (by omega), sSt_ne (by omega), sSt_ne (by omega), sSt_ne (by omega), sSt_ne (by omega), sSt_ne (by omega), sSt_ne (by omega)], rfl, rfl⟩
/-- where both stand alike, the token is the same -/
theorem sp_e (h : RT A B) (hp : rP A = rq B) : tS A = qsp B := by
  unfold tS tkS qsp
  rw [hp, ← h.2.1]
  exact scan_c h.1
theorem rt_c {A' B' : sM} (h : RT A B) (hA : FA A A') (hB : FB B B') (hT : TInv A') (hk : rOk A') : RT A' B' := by
  have e1 : rN A' = rN A := by unfold rN; rw [hA.2]
  refine ⟨fun j hj => ?_, ?_, hT, hk⟩
  · rw [e1] at hj
    rw [hA.1 196 (by omega), hB.1 270 (by omega)]
    exact h.1 j hj
  · rw [e1, h.2.1]
    unfold qt
    rw [hB.2.1]
theorem rt_nx {B' : sM} (h : RT A B) (hB : FB B B') : RT (nxM A) B' := rt_c h (fa_nx A) hB (nxM_T h.2.2.1 h.2.2.2) (nxM_ok h.2.2.1 h.2.2.2)
theorem rP_nx (A : sM) : rP (nxM A) = tA A := by
  unfold rP nxM
  rw [mRd_3, Int.toNat_natCast]
theorem nx_4 (A : sM) : nxM A 195 4 = (tS A : Int) := mRd_4 _ _ _ _ _
theorem sk_20 (B : sM) : qSk B 258 20 = (qsp B : Int) := sSt_eq
/-- the mark behind it -/
theorem ok_end (h : RT A B) (hs : tS A = qsp B) (hc : SC A B) : OK A B (pEnd (true, A)) (qEnd B) := by
  obtain ⟨k1, k2⟩ := rt_k3 h hs
  have e0 : pEnd (true, A) = if tK A = 3 then (true, nxM A) else (false, nxM A) := if_pos rfl
  rw [e0]
  by_cases z : tK A = 3
  · rw [if_pos z, qEnd_y (k1.mp z)]
    exact ⟨fa_nx A, fb_en B, Or.inl ⟨rfl, rfl, rt_nx h (fb_en B), by rw [rP_nx, k2 z]; exact rq_en.symm, hc⟩⟩
  · rw [if_neg z, qEnd_n (fun q => z (k1.mpr q))]
    refine ⟨fa_nx A, fb_sk B, Or.inr ⟨rfl, rfl, ?_⟩⟩
    show nxM A 195 4 = qSk B 258 20
    rw [nx_4, sk_20, hs]
theorem ok_t {A1 B1 : sM} {x y : Bool × sM} (hA : FA A A1) (hB : FB B B1) (h : OK A1 B1 x y) : OK A B x y := ⟨FA_t hA h.1, FB_t hB h.2.1, h.2.2⟩
/-- no number: the fault is there -/
theorem ok_no (hs : tS A = qsp B) : OK A B (pEnd (false, nxM A)) (false, qSk B) := by
  refine ⟨fa_nx A, fb_sk B, Or.inr ⟨rfl, rfl, ?_⟩⟩
  show nxM A 195 4 = qSk B 258 20
  rw [nx_4, sk_20, hs]
/-- a number: on -/
theorem st_num (h : RT A B) (hs : tS A = qsp B) (hc : SC A B) (ht : tA A = qfg B) : RT (nxM A) (nqM B) ∧ tS (nxM A) = qsp (nqM B) ∧ SC (nxM A) (nqM B) := by
  have r := rt_nx h (fb_nq B)
  exact ⟨r, sp_e r (by rw [rP_nx, ht]; exact rq_nq.symm), hc⟩
theorem T_adS (hT : TInv A) {k w c : Int} (hk : 0 ≤ k ∧ k ≤ 5) (hw : 0 ≤ w ∧ w ≤ 9) (hc : 0 ≤ c ∧ c ≤ 11) (h6 : A 197 9 < 6) : TInv (bAdS A 197 k w c) := by
  have h0 := tv_souls hT o197
  unfold bAdS
  exact tw_souls (tw_dry (tw_hold (tw_cell (tw_wt (tw_kd hT o197 hk) o197 hw) o197 (by omega)) o197 (by omega)) o197 (by omega)) o197 (by omega)
theorem T_adI (hT : TInv A) {k : Int} (hk : 0 ≤ k ∧ k ≤ 5) (h6 : A 197 10 < 6) : TInv (bAdI A 197 k) := by
  have h0 := tv_callers hT o197
  unfold bAdI
  exact tw_callers (tw_ck hT o197 hk) o197 (by omega)
theorem rc_adS (hT : TInv A) (k w c : Int) (hc : 0 ≤ c) (h : RelC A B 197) : RelC (bAdS A 197 k w c) (qAdS B k w c) 197 := by
  obtain ⟨⟨c1, c2, c3, c4⟩, c5, c6, c7, c8, c9⟩ := h
  have r1 := nS_r hT o197
  have en : qn B = nS A 197 := by unfold qn nS; rw [c1]
  have n1 : nS (bAdS A 197 k w c) 197 = nS A 197 + 1 := by
    show (A 197 9 + 1).toNat = (A 197 9).toNat + 1
    omega
  have hlt : ∀ {s}, s < nS (bAdS A 197 k w c) 197 → s ≠ nS A 197 → s < nS A 197 := fun hs hn => by omega
  refine ⟨⟨?_, c2, c3, c4⟩, c5, fun s hs => ?_, c7, fun s hs => ?_, fun s t hs ht => ?_⟩
  · show B 258 1 + 1 = A 197 9 + 1; rw [c1]
  · show (if s = qn B then k else B 261 s) = (if s = nS A 197 then k else A (197 + 2) s) ∧ (if s = qn B then w else B 262 s) = (if s = nS A 197 then w else A (197 + 3) s)
    rw [en]
    by_cases e : s = nS A 197
    · rw [if_pos e, if_pos e, if_pos e, if_pos e]; exact ⟨rfl, rfl⟩
    · rw [if_neg e, if_neg e, if_neg e, if_neg e]; exact c6 s (hlt hs e)
  · show (if s = qn B then c else B 263 s) = plc (if s = nS A 197 then c else A (197 + 6) s) (if s = nS A 197 then -1 else A (197 + 7) s) ∧ (if s = qn B then -1 else B 264 s) = (if s = nS A 197 then -1 else A (197 + 7) s) ∧ (if s = qn B then 0 else B 265 s) = (if s = nS A 197 then 0 else A (197 + 8) s) ∧ ((if s = nS A 197 then c else A (197 + 6) s) = -1 ∨ (if s = nS A 197 then -1 else A (197 + 7) s) = -1) ∧ (if s = nS A 197 then -1 else A (197 + 7) s) < (nC A 197 : Int)
    rw [en]
    by_cases e : s = nS A 197
    · simp only [if_pos e]
      exact ⟨(plc_c (by omega)).symm, trivial, trivial, Or.inr trivial, by omega⟩
    · simp only [if_neg e]; exact c8 s (hlt hs e)
  · show (if s = nS A 197 then -1 else A (197 + 7) s) = (if t = nS A 197 then -1 else A (197 + 7) t) → (if s = nS A 197 then -1 else A (197 + 7) s) ≠ -1 → s = t
    by_cases e : s = nS A 197
    · rw [if_pos e]; exact fun _ z => absurd rfl z
    · rw [if_neg e]
      by_cases e2 : t = nS A 197
      · rw [if_pos e2]; exact fun z1 z2 => absurd z1 z2
      · rw [if_neg e2]; exact c9 s t (hlt hs e) (hlt ht e2)
theorem rc_adI (hT : TInv A) (k : Int) (h : RelC A B 197) : RelC (bAdI A 197 k) (qAdI B k) 197 := by
  obtain ⟨⟨c1, c2, c3, c4⟩, c5, c6, c7, c8, c9⟩ := h
  have r1 := nC_r hT o197
  have en : qc B = nC A 197 := by unfold qc nC; rw [c2]
  have n1 : nC (bAdI A 197 k) 197 = nC A 197 + 1 := by
    show (A 197 10 + 1).toNat = (A 197 10).toNat + 1
    omega
  refine ⟨⟨c1, ?_, c3, c4⟩, c5, c6, fun s hs => ?_, fun s hs => ?_, c9⟩
  · show B 258 2 + 1 = A 197 10 + 1; rw [c2]
  · show (if s = qc B then k else B 266 s) = (if s = nC A 197 then k else A (197 + 4) s)
    rw [en]
    by_cases e : s = nC A 197
    · rw [if_pos e, if_pos e]
    · rw [if_neg e, if_neg e]; exact c7 s (by omega)
  · have q := c8 s hs
    refine ⟨q.1, q.2.1, q.2.2.1, q.2.2.2.1, ?_⟩
    rw [n1]
    have q2 : A (197 + 7) s < (nC A 197 : Int) := q.2.2.2.2
    show A (197 + 7) s < ((nC A 197 + 1 : Nat) : Int)
    omega
/-- behind the mark, a soul, a caller more: the reference adds there, the class before -/
theorem ok_add {X Y : sM} {f : sM → sM} (hX : FA A X) (hY : FB B Y) {X1 : sM} (h : RT X Y) (hs : tS X = qsp Y) (hc : SC X Y) (hX1 : FA X X1) (h195 : X1 195 = X 195) (hT : TInv X1) (hf : ∀ Z, FB Z (f Z)) (hr : ∀ Z, rq (f Z) = rq Z) (hsc : SC (nxM X1) (f (enM Y))) (hfe : (qEnd Y).1 = true → f (qEnd Y).2 = f (enM Y)) :
    OK A B (pEnd (true, X1)) (if (qEnd Y).1 = true then (true, f (qEnd Y).2) else (false, (qEnd Y).2)) := by
  have e196 : X1 196 = X 196 := hX1.1 196 (by omega)
  have eK : tK X1 = tK X := by unfold tK rN rP; rw [e196, h195]
  have eA : tA X1 = tA X := by unfold tA rN rP; rw [e196, h195]
  have eS : tS X1 = tS X := by unfold tS rN rP; rw [e196, h195]
  have hk : rOk X1 := rOk_c h195 h.2.2.2
  obtain ⟨k1, k2⟩ := rt_k3 h hs
  have e0 : pEnd (true, X1) = if tK X1 = 3 then (true, nxM X1) else (false, nxM X1) := if_pos rfl
  rw [e0, eK]
  have fA : FA A (nxM X1) := FA_t hX (FA_t hX1 (fa_nx X1))
  by_cases z : tK X = 3
  · have en := k1.mp z
    rw [if_pos z, qEnd_y en, if_pos rfl]
    have fB : FB Y (f (enM Y)) := FB_t (fb_en Y) (hf _)
    refine ⟨fA, FB_t hY fB, Or.inl ⟨rfl, rfl, rt_c h (FA_t hX1 (fa_nx X1)) fB (nxM_T hT hk) (nxM_ok hT hk), ?_, hsc⟩⟩
    show rP (nxM X1) = rq (f (enM Y))
    rw [rP_nx, eA, k2 z, hr, rq_en]
  · rw [if_neg z, qEnd_n (fun q => z (k1.mpr q)), if_neg (show ¬ (false, qSk Y).1 = true from Bool.false_ne_true)]
    refine ⟨fA, FB_t hY (fb_sk Y), Or.inr ⟨rfl, rfl, ?_⟩⟩
    show nxM X1 195 4 = qSk Y 258 20
    rw [nx_4, sk_20, eS, hs]
theorem ok_soul (h : RT A B) (hs : tS A = qsp B) (hc : SC A B) (h6 : A 197 9 < 6) : OK A B (pEnd (pSoul A)) (qpSoul B) := by
  unfold pSoul qpSoul
  obtain ⟨a1, a2⟩ := rt_ok h hs 0 5
  by_cases c1 : nOk 0 5 A
  · rw [if_pos c1, if_pos (a1.mp c1)]
    obtain ⟨t1, v1⟩ := a2 c1
    obtain ⟨g1, g2, g3⟩ := st_num h hs hc t1
    obtain ⟨b1, b2⟩ := rt_ok g1 g2 1 9
    by_cases c2 : nOk 1 9 (nxM A)
    · rw [if_pos c2, if_pos (b1.mp c2)]
      obtain ⟨t2, v2⟩ := b2 c2
      obtain ⟨u1, u2, u3⟩ := st_num g1 g2 g3 t2
      obtain ⟨d1, d2⟩ := rt_ok u1 u2 0 11
      by_cases c3 : nOk 0 11 (nxM (nxM A))
      · rw [if_pos c3, if_pos (d1.mp c3)]
        obtain ⟨t3, v3⟩ := d2 c3
        obtain ⟨w1, w2, w3⟩ := st_num u1 u2 u3 t3
        rw [v1, v2, v3] at *
        have fA : FA A (nxM (nxM (nxM A))) := FA_t (fa_nx _) (FA_t (fa_nx _) (fa_nx _))
        have fB : FB B (nqM (nqM (nqM B))) := FB_t (fb_nq _) (FB_t (fb_nq _) (fb_nq _))
        have k1 := c1.2
        have k2 := c2.2
        have k3 := c3.2
        refine ok_add (f := fun Z => qAdS Z (nqV B) (nqV (nqM B)) (nqV (nqM (nqM B)))) fA fB w1 w2 w3 (fa_o (fun c hc => bAdS_o hc)) rfl (T_adS w1.2.2.1 (by omega) (by omega) (by omega) h6) (fun Z => fb_adS Z _ _ _) (fun Z => rfl) ?_ (fun q => ?_)
        · exact ⟨rc_adS w1.2.2.1 _ _ _ (by omega) w3.1, w3.2.1, w3.2.2⟩
        · unfold qEnd at q ⊢
          by_cases e : enOk (nqM (nqM (nqM B)))
          · rw [if_pos e]
          · rw [if_neg e] at q; exact absurd q Bool.noConfusion
      · rw [if_neg c3, if_neg (fun z => c3 (d1.mpr z))]
        exact ok_t (FA_t (fa_nx _) (fa_nx _)) (FB_t (fb_nq _) (fb_nq _)) (ok_no u2)
    · rw [if_neg c2, if_neg (fun z => c2 (b1.mpr z))]
      exact ok_t (fa_nx _) (fb_nq _) (ok_no g2)
  · rw [if_neg c1, if_neg (fun z => c1 (a1.mpr z))]
    exact ok_no hs
theorem ok_caller (h : RT A B) (hs : tS A = qsp B) (hc : SC A B) (h6 : A 197 10 < 6) : OK A B (pEnd (pCaller A)) (qpCaller B) := by
  unfold pCaller qpCaller
  obtain ⟨a1, a2⟩ := rt_ok h hs 0 5
  by_cases c1 : nOk 0 5 A
  · rw [if_pos c1, if_pos (a1.mp c1)]
    obtain ⟨t1, v1⟩ := a2 c1
    obtain ⟨w1, w2, w3⟩ := st_num h hs hc t1
    rw [v1] at *
    have k1 := c1.2
    refine ok_add (f := fun Z => qAdI Z (nqV B)) (fa_nx A) (fb_nq B) w1 w2 w3 (fa_o (fun c hc => bAdI_o hc)) rfl (T_adI w1.2.2.1 (by omega) h6) (fun Z => fb_adI Z _) (fun Z => rfl) ?_ (fun q => ?_)
    · exact ⟨rc_adI w1.2.2.1 _ w3.1, w3.2.1, w3.2.2⟩
    · unfold qEnd at q ⊢
      by_cases e : enOk (nqM B)
      · rw [if_pos e]
      · rw [if_neg e] at q; exact absurd q Bool.noConfusion
  · rw [if_neg c1, if_neg (fun z => c1 (a1.mpr z))]
    exact ok_no hs
end RO
