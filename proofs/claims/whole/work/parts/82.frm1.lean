/-! frames: what a call of the class leaves as it is, what a call of the reference leaves as it is -/
def okX (M B : sM) : Prop := (∀ c, 258 ≤ c ∨ c = 245 ∨ c = 250 → B c = M c) ∧ B 0 10 ≤ M 0 10 + 1 ∧ B 0 11 ≤ M 0 11 + 1 ∧ B 0 12 ≤ M 0 12 + 1
def Lo (N B : sM) : Prop := ∀ c, c < 258 → B c = N c
section FX
variable {M B X Y : sM}
theorem okX_f (h : ∀ c, c = 0 ∨ 245 ≤ c → B c = M c) : okX M B := by
  have h0 := h 0 (Or.inl rfl)
  refine ⟨fun c hc => h c (by omega), ?_, ?_, ?_⟩
  · rw [h0]; omega
  · rw [h0]; omega
  · rw [h0]; omega
theorem okX_rf : okX M M := okX_f fun _ _ => rfl
theorem okX_bad : okX M (sBad M) := by
  refine ⟨fun c hc => sSt_ne (by omega), ?_, ?_, ?_⟩
  · show M 0 10 + 1 ≤ _; omega
  · show M 0 11 ≤ _; omega
  · show M 0 12 ≤ _; omega
theorem okX_no : okX M (sNo M) := by
  refine ⟨fun c hc => sSt_ne (by omega), ?_, ?_, ?_⟩
  · show M 0 10 ≤ _; omega
  · show M 0 11 + 1 ≤ _; omega
  · show M 0 12 ≤ _; omega
theorem okX_ful : okX M (sFul M) := by
  refine ⟨fun c hc => sSt_ne (by omega), ?_, ?_, ?_⟩
  · show M 0 10 ≤ _; omega
  · show M 0 11 ≤ _; omega
  · show M 0 12 + 1 ≤ _; omega
theorem okX_ite {P : Prop} [Decidable P] (h1 : okX M X) (h2 : okX M Y) : okX M (if P then X else Y) := by
  by_cases h : P
  · rw [if_pos h]; exact h1
  · rw [if_neg h]; exact h2
theorem okX_c (h : okX M X) (hc : ∀ c, c < 253 ∨ 258 ≤ c → Y c = X c) : okX M Y := by
  have h0 := hc 0 (by omega)
  refine ⟨fun c h2 => (hc c (by omega)).trans (h.1 c h2), ?_, ?_, ?_⟩
  · rw [h0]; exact h.2.1
  · rw [h0]; exact h.2.2.1
  · rw [h0]; exact h.2.2.2
theorem ox_b {P : Prop} [Decidable P] : okX M (mB M P) := by unfold mB; exact okX_ite okX_rf okX_bad
theorem ox_shore : okX M (bRes M 1) := okX_f fun _ hc => bRes_o (by unfold oth; omega)
theorem ox_cur {c v : Int} : okX M (mCur M c v) := by
  unfold mCur
  exact okX_ite (okX_f fun a ha => by rw [sSt_ne (by omega), sSt_ne (by omega)]) okX_bad
theorem ox_soul {k w c : Int} : okX M (mSoul M k w c) := by
  unfold mSoul
  exact okX_ite (okX_ite (okX_f fun a ha => by rw [bAdS_o (by unfold oth; omega), sSt_ne (by omega)]) okX_ful) okX_bad
theorem ox_caller {k : Int} : okX M (mCaller M k) := by
  unfold mCaller
  exact okX_ite (okX_ite (okX_f fun a ha => by rw [bAdI_o (by unfold oth; omega), sSt_ne (by omega)]) okX_ful) okX_bad
theorem ox_type {c : Int} : okX M (mType M c) := by
  unfold mType
  exact okX_ite (okX_ite (okX_f fun a ha => by rw [sSt_ne (by omega), sSt_ne (by omega)]) okX_ful) okX_bad
theorem ox_clear : okX M (sSt M 195 2 0) := okX_f fun a ha => sSt_ne (by omega)
theorem ox_tides {n : Int} : okX M (mTides M n) := by
  unfold mTides
  exact okX_ite (okX_f fun a ha => by rw [bPas_o (by unfold oth; omega), rem_c (by omega) (by omega)]) okX_bad
theorem ox_walks {d : Int} : okX M (mWalks M d) := by
  unfold mWalks
  exact okX_ite (okX_ite (okX_f fun a ha => by rw [bFlo_o (by unfold oth; omega), bGat_o (by unfold oth; omega), rem_c (by omega) (by omega)]) okX_no) okX_bad
theorem ox_calls {i : Int} : okX M (mCalls M i) := by
  unfold mCalls
  exact okX_ite (okX_ite okX_no (okX_f fun a ha => by rw [sSt_ne (by omega), rem_c (by omega) (by omega)])) okX_bad
theorem ox_returns {i : Int} : okX M (mReturns M i) := by
  unfold mReturns
  exact okX_ite (okX_ite okX_no (okX_f fun a ha => by rw [sSt_ne (by omega), rem_c (by omega) (by omega)])) okX_bad
theorem ox_undo : okX M (mUndo M) := by
  unfold mUndo bUnd
  exact okX_ite (okX_f fun a ha => by rw [mCp_o (by omega), sSt_ne (by omega)]) okX_no
theorem ox_seen {m c : Int} : okX M (mSeen M m c) := by
  unfold mSeen
  exact okX_ite (okX_ite (okX_f fun a ha => tadd_c (by omega) (by omega)) okX_ful) okX_bad
theorem ox_note {s w d x : Int} : okX M (mNote M s w d x) := by
  unfold mNote
  exact okX_ite (okX_ite (okX_f fun a ha => tadd_c (by omega) (by omega)) okX_ful) okX_bad
theorem ox_mark {i x y : Int} : okX M (mMark M i x y) := by
  unfold mMark
  exact okX_ite (okX_ite (okX_f fun a ha => tadd_c (by omega) (by omega)) okX_ful) okX_bad
theorem ox_forget {w : Int} : okX M (mForget M w) := by
  unfold mForget
  exact okX_ite (okX_f fun a ha => sSt_ne (by omega)) (okX_ite (okX_f fun a ha => sSt_ne (by omega)) (okX_ite (okX_f fun a ha => sSt_ne (by omega)) okX_bad))
theorem imO_r (i : Int) : imO i = 98 ∨ imO i = 146 := by
  unfold imO
  by_cases h : i = 0
  · rw [if_pos h]; exact Or.inl rfl
  · rw [if_neg h]; exact Or.inr rfl
theorem ox_image {i : Int} : okX M (mImage M i) := by
  have h := imO_r i
  unfold mImage
  exact okX_ite (okX_f fun a ha => by rw [sSt_ne (by omega), bCpy_out (by omega)]) okX_bad
theorem ox_from {i : Int} : okX M (mFrom M i) := by
  unfold mFrom
  exact okX_ite (okX_ite okX_no (okX_f fun a ha => bCpy_out (by omega))) okX_bad
theorem ox_gulls {c : Int} : okX M (mGulls M c) := by
  unfold mGulls mFrac
  refine okX_ite ⟨fun a ha => by rw [sSt_ne (by omega), sSt_ne (by omega)], ?_, ?_, ?_⟩ okX_bad
  · show M 0 10 ≤ _; omega
  · show M 0 11 ≤ _; omega
  · show M 0 12 ≤ _; omega
theorem ox_years {x n : Int} : okX M (mYears M x n) := by
  unfold mYears
  exact okX_ite (okX_f fun a ha => (yIt_c (by omega) _).trans (bCpy_out (by omega))) okX_bad
end FX
section FL
variable {N B X Y : sM}
theorem lo_rf : Lo N N := fun _ _ => rfl
theorem lo_st {k j : Nat} {v : Int} (hk : 258 ≤ k) (h : Lo N B) : Lo N (sSt B k j v) := fun c hc => (sSt_ne (by omega)).trans (h c hc)
theorem lo_sr {k : Nat} {r : Nat → Int} (hk : 258 ≤ k) (h : Lo N B) : Lo N (sSr B k r) := fun c hc => (sSr_ne (by omega)).trans (h c hc)
theorem lo_ite {P : Prop} [Decidable P] (h1 : Lo N X) (h2 : Lo N Y) : Lo N (if P then X else Y) := by
  by_cases h : P
  · rw [if_pos h]; exact h1
  · rw [if_neg h]; exact h2
theorem lo_it2 {P : Prop} [Decidable P] {T : Type} {x y : T × sM} (h1 : Lo N x.2) (h2 : Lo N y.2) : Lo N (if P then x else y).2 := by
  by_cases h : P
  · rw [if_pos h]; exact h1
  · rw [if_neg h]; exact h2
theorem lo_bad (h : Lo N B) : Lo N (qBad B) := lo_st (by decide) h
theorem lo_no (h : Lo N B) : Lo N (qNo B) := lo_st (by decide) h
theorem lo_ful (h : Lo N B) : Lo N (qFul B) := lo_st (by decide) h
theorem lo_b {P : Prop} [Decidable P] : Lo N (qB N P) := by unfold qB; exact lo_ite lo_rf (lo_bad lo_rf)
theorem lo_beg (h : Lo N B) : Lo N (qBeg B) := by
  unfold qBeg qBgN
  repeat' (first | exact h | (refine lo_st (by decide) ?_) | (refine lo_sr (by decide) ?_))
theorem lo_cur {c v : Int} : Lo N (qmCur N c v) := by
  unfold qmCur
  exact lo_ite (lo_st (by decide) (lo_st (by decide) lo_rf)) (lo_bad lo_rf)
theorem lo_adS {k w c : Int} (h : Lo N B) : Lo N (qAdS B k w c) := by
  unfold qAdS
  repeat' (first | exact h | (refine lo_st (by decide) ?_))
theorem lo_adI {k : Int} (h : Lo N B) : Lo N (qAdI B k) := by
  unfold qAdI
  repeat' (first | exact h | (refine lo_st (by decide) ?_))
theorem lo_soul {k w c : Int} : Lo N (qmSoul N k w c) := by
  unfold qmSoul
  exact lo_ite (lo_ite (lo_ful lo_rf) (lo_adS lo_rf)) (lo_bad lo_rf)
theorem lo_caller {k : Int} : Lo N (qmCaller N k) := by
  unfold qmCaller
  exact lo_ite (lo_ite (lo_ful lo_rf) (lo_adI lo_rf)) (lo_bad lo_rf)
theorem lo_type {c : Int} : Lo N (qmType N c) := by
  unfold qmType
  exact lo_ite (lo_ite (lo_ful lo_rf) (lo_st (by decide) (lo_st (by decide) lo_rf))) (lo_bad lo_rf)
theorem lo_clear : Lo N (sSt N 258 19 0) := lo_st (by decide) lo_rf
theorem lo_lay {b a : Nat} (hb : 258 ≤ b) (h : Lo N B) : Lo N (qLay B b a) := by
  unfold qLay qlN
  exact lo_sr hb h
theorem lo_not (h : Lo N B) : Lo N (qNot B) := by
  unfold qNot qsN
  exact lo_ite (lo_st (by decide) (lo_lay (by decide) (lo_st (by decide) (lo_sr (by decide) h)))) (lo_st (by decide) (lo_lay (by decide) h))
theorem lo_pas (h : Lo N B) : Lo N (qPas B) := by
  unfold qPas qpN
  exact lo_st (by decide) (lo_sr (by decide) (lo_sr (by decide) h))
theorem lo_ps (h : Lo N B) : ∀ k, Lo N (qPs B k)
  | 0 => h
  | k + 1 => lo_pas (lo_ps h k)
theorem lo_pt {n : Nat} (h : Lo N B) : Lo N (qPt B n) := lo_ps h _
theorem lo_ga {d : Int} (h : Lo N B) : Lo N (qGa B d) := by
  unfold qGa qgN
  exact lo_sr (by decide) (lo_sr (by decide) (lo_st (by decide) h))
theorem lo_go {d : Int} (h : Lo N B) : Lo N (qGo B d) := by
  unfold qGo
  exact lo_ite (lo_pas (lo_ga h)) (lo_ga h)
theorem lo_tk {i s : Nat} (h : Lo N B) : Lo N (qTk B i s) := by
  unfold qTk
  exact lo_st (by decide) (lo_st (by decide) h)
theorem lo_tak {b a : Nat} (h : Lo N B) : Lo N (qTak B b a) := by
  unfold qTak qtN
  exact lo_sr (by decide) (lo_sr (by decide) (lo_sr (by decide) (lo_st (by decide) (lo_st (by decide) h))))
theorem lo_tides {n : Int} : Lo N (qmTides N n) := by
  unfold qmTides
  exact lo_ite (lo_pt (lo_not lo_rf)) (lo_bad lo_rf)
theorem lo_walks {d : Int} : Lo N (qmWalks N d) := by
  unfold qmWalks
  exact lo_ite (lo_ite (lo_no lo_rf) (lo_go (lo_not lo_rf))) (lo_bad lo_rf)
theorem lo_calls {i : Int} : Lo N (qmCalls N i) := by
  unfold qmCalls
  exact lo_ite (lo_ite (lo_no lo_rf) (lo_tk (lo_not lo_rf))) (lo_bad lo_rf)
theorem lo_returns {i : Int} : Lo N (qmReturns N i) := by
  unfold qmReturns
  exact lo_ite (lo_ite (lo_no lo_rf) (lo_st (by decide) (lo_st (by decide) (lo_not lo_rf)))) (lo_bad lo_rf)
theorem lo_undo : Lo N (qmUndo N) := by
  unfold qmUndo qUn
  exact lo_ite (lo_no lo_rf) (lo_tak (lo_st (by decide) lo_rf))
theorem lo_seen {m c : Int} : Lo N (qmSeen N m c) := by
  unfold qmSeen qAS
  exact lo_ite (lo_ite (lo_ful lo_rf) (lo_st (by decide) (lo_st (by decide) (lo_st (by decide) lo_rf)))) (lo_bad lo_rf)
theorem lo_note {s w d x : Int} : Lo N (qmNote N s w d x) := by
  unfold qmNote qAN
  exact lo_ite (lo_ite (lo_ful lo_rf) (lo_st (by decide) (lo_st (by decide) (lo_st (by decide) (lo_st (by decide) (lo_st (by decide) lo_rf)))))) (lo_bad lo_rf)
theorem lo_mark {i x y : Int} : Lo N (qmMark N i x y) := by
  unfold qmMark qAK
  exact lo_ite (lo_ite (lo_ful lo_rf) (lo_st (by decide) (lo_st (by decide) (lo_st (by decide) (lo_st (by decide) lo_rf))))) (lo_bad lo_rf)
theorem lo_forget {w : Int} : Lo N (qmForget N w) := by
  unfold qmForget qFg
  exact lo_ite (lo_st (by decide) (lo_st (by decide) (lo_st (by decide) lo_rf))) (lo_bad lo_rf)
theorem lo_la {b a : Nat} (hb : 258 ≤ b) (h : Lo N B) : Lo N (qLA B b a) := by
  unfold qLA qaN
  exact lo_sr hb h
theorem lo_fil {b k : Nat} {f : Nat → Int} (hb : 258 ≤ b) (h : Lo N B) : Lo N (fil B b f k) := by
  unfold fil
  exact lo_sr hb h
theorem lo_ta {b a : Nat} (h : Lo N B) : Lo N (qTA B b a) := by
  unfold qTA qTA6 qTA5 qTA4 qTA3 qTA2 qTA1 qTA0
  repeat' (first | exact lo_tak h | (refine lo_fil (by decide) ?_) | (refine lo_st (by decide) ?_))
theorem lo_image {i : Int} : Lo N (qmImage N i) := by
  unfold qmImage
  exact lo_ite (lo_la (by decide) (lo_st (by decide) lo_rf)) (lo_bad lo_rf)
theorem lo_from {i : Int} : Lo N (qmFrom N i) := by
  unfold qmFrom
  exact lo_ite (lo_ite (lo_no lo_rf) (lo_ta lo_rf)) (lo_bad lo_rf)
theorem lo_ydo {i : Nat} (h : Lo N B) : Lo N (qYDo B i) := by
  unfold qYDo
  exact lo_ite (lo_tk h) h
theorem lo_yst {x : Nat} (h : Lo N B) : Lo N (qYSt B x) := by
  unfold qYSt
  exact lo_ydo (lo_go h)
theorem lo_yit {x : Nat} (h : Lo N B) : ∀ n, Lo N (qYIt B x n)
  | 0 => h
  | n + 1 => lo_yst (lo_yit h n)
theorem lo_years {x n : Int} : Lo N (qmYears N x n) := by
  unfold qmYears qYE qY0
  exact lo_ite (lo_tak (lo_st (by decide) (lo_yit (lo_st (by decide) (lo_lay (by decide) lo_rf)) _))) (lo_bad lo_rf)
/-! the reference's reader -/
theorem lo_sk (h : Lo N B) : Lo N (qSk B) := lo_st (by decide) h
theorem lo_nq (h : Lo N B) : Lo N (nqM B) := by
  unfold nqM
  exact lo_st (by decide) (lo_st (by decide) (lo_sk h))
theorem lo_end (h : Lo N B) : Lo N (qEnd B).2 := by
  unfold qEnd enM
  exact lo_it2 (lo_st (by decide) (lo_sk h)) (lo_sk h)
theorem lo_curN : ∀ (k c : Nat) {B : sM}, Lo N B → Lo N (qpCurN k c B).2
  | 0, _, _, h => h
  | k + 1, c, B, h => by
    unfold qpCurN
    exact lo_it2 (lo_curN k (c + 1) (lo_st (by decide) (lo_nq h))) (lo_sk h)
theorem lo_rsoul (h : Lo N B) : Lo N (qpSoul B).2 := by
  unfold qpSoul
  exact lo_it2 (lo_it2 (lo_it2 (lo_it2 (lo_adS (lo_end (lo_nq (lo_nq (lo_nq h))))) (lo_end (lo_nq (lo_nq (lo_nq h))))) (lo_sk (lo_nq (lo_nq h)))) (lo_sk (lo_nq h))) (lo_sk h)
theorem lo_rcaller (h : Lo N B) : Lo N (qpCaller B).2 := by
  unfold qpCaller
  exact lo_it2 (lo_it2 (lo_adI (lo_end (lo_nq h))) (lo_end (lo_nq h))) (lo_sk h)
theorem lo_rwalk (h : Lo N B) : Lo N (qpWalk B).2 := by
  unfold qpWalk
  exact lo_it2 (lo_end (lo_go (lo_nq h))) (lo_sk h)
theorem lo_rcall (h : Lo N B) : Lo N (qpCall B).2 := by
  unfold qpCall
  exact lo_it2 (lo_it2 (lo_st (by decide) (lo_nq (lo_sk h))) (lo_end (lo_tk (lo_nq (lo_sk h))))) (lo_sk (lo_sk h))
theorem lo_rtides (h : Lo N B) : Lo N (qpTides B).2 := by
  unfold qpTides
  exact lo_it2 (lo_end (lo_pt (lo_nq h))) (lo_sk h)
theorem lo_item (h : Lo N B) : Lo N (qpItem B).2 := by
  unfold qpItem
  exact lo_it2 h (lo_it2 (lo_rsoul (lo_st (by decide) h)) (lo_it2 (lo_rcaller (lo_st (by decide) h)) (lo_it2 (lo_rwalk (lo_st (by decide) h)) (lo_it2 (lo_rcall (lo_st (by decide) h)) (lo_rtides (lo_st (by decide) h))))))
theorem lo_items : ∀ (k n : Nat) {B : sM}, Lo N B → Lo N (qpItems k n B).2
  | 0, _, _, h => h
  | k + 1, n, B, h => by
    unfold qpItems
    exact lo_it2 (lo_it2 (lo_items k (n + 1) (lo_sk (lo_item h))) (lo_item h)) h
theorem lo_first (h : Lo N B) : Lo N (qpFirst B).2 := by
  have h2 : Lo N (qF0 B) := by unfold qF0; exact lo_beg (lo_st (by decide) (lo_sk h))
  unfold qpFirst
  exact lo_it2 (lo_it2 (lo_end (lo_curN _ _ h2)) (lo_curN _ _ h2)) (lo_sk h)
theorem lo_rshore (h : Lo N B) : Lo N (qpShore B).2 := by
  unfold qpShore
  exact lo_it2 (lo_items _ _ (lo_sk (lo_first (lo_st (by decide) h)))) (lo_first (lo_st (by decide) h))
theorem lo_read : Lo N (qmRead N) := by
  unfold qmRead
  exact lo_ite (lo_ta (lo_rshore (lo_la (by decide) lo_rf))) (lo_st (by decide) (lo_rshore (lo_la (by decide) lo_rf)))
end FL
