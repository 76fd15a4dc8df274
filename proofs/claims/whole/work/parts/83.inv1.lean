/-! what holds between the calls, behind n of them; what each call makes of it -/
def Sta (M : sM) (n : Nat) : Prop := (∀ j, M 250 j ≤ M 245 7) ∧ M 245 7 ≤ 20 * (n : Int) ∧ M 0 10 ≤ (n : Int) ∧ M 0 11 ≤ (n : Int) ∧ M 0 12 ≤ (n : Int)
def Inv (M : sM) (L : sL) (n : Nat) : Prop := n ≤ 64 ∧ TInv M ∧ Rel M M L ∧ Sta M n
theorem rel_loc {M N M' N' : sM} {L L' : sL} (hT : TInv M) (hM : ∀ c, c < 245 → M' c = M c) (hN : ∀ c, 258 ≤ c → c ≤ 272 ∨ 278 ≤ c → N' c = N c) (h1 : L' 258 31 = L 258 31) (h2 : L' 258 32 = L 258 32) (h : Rel M N L) : Rel M' N' L' := by
  have r : Rest M' N' L := rest_cg hT (hM 0 (by decide)) (fun c h1 h2 => hM c (by omega)) (fun c hc => hN c (by omega) (by omega)) (by rw [hN 258 (by decide) (by decide)]) (by rw [hN 258 (by decide) (by decide)]) rfl h.2.2
  refine ⟨rx_cg hT ho1 (fun i j l => ?_) (fun k j l => ?_) h.1, by rw [hM 6 (by decide)]; exact h.2.1, r.1, r.2.1, ⟨?_, ?_⟩, r.2.2.2⟩
  · have hi : i < 48 := by unfold lvb at l; omega
    rw [hM _ (by omega)]
  · have hk : 258 ≤ k ∧ k ≤ 272 := by unfold lvp at l; omega
    rw [hN _ hk.1 (Or.inl hk.2)]
  · rw [h1]; exact r.2.2.1.1
  · rw [h2]; exact r.2.2.1.2
section IV
variable {M B C : sM} {L L2 : sL} {n : Nat}
theorem i_ct (h : Inv M L n) : sCt M := by
  obtain ⟨h0, _, _, _, _, a, b, c⟩ := h
  exact ⟨by omega, by omega, by omega⟩
theorem i_st (h : Inv M L n) : M 245 7 < 800000000 := by
  obtain ⟨h0, _, _, _, b, _⟩ := h
  omega
theorem mid_f (h : Inv M L n) (hF : ∀ c, 258 ≤ c → B c = M c) : Rel M B L := rel_loc h.2.1 (fun _ _ => rfl) (fun c h1 _ => hF c h1) rfl rfl h.2.2.1
theorem mid_r (h : Inv M L n) (hx : okX M B) : Rel M B L := mid_f h fun c hc => hx.1 c (Or.inl hc)
theorem mid_qf (h : Inv M L n) (hF : ∀ c, 258 ≤ c → B c = M c) : qCt B := by
  have e := (mid_f h hF).2.2.2.1
  have c := i_ct h
  exact ⟨by rw [e.1]; exact c.1, by rw [e.2.1]; exact c.2.1, by rw [e.2.2]; exact c.2.2⟩
theorem mid_q (h : Inv M L n) (hx : okX M B) : qCt B := mid_qf h fun c hc => hx.1 c (Or.inl hc)
theorem mid_t (h : Inv M L n) (hx : okX M B) : B 258 3 ≤ 999 := by
  have r := mid_r h hx
  have e : B 258 3 = M (1 + 5) 4 := r.1.1.1.2.2.1
  rw [e]; exact r.2.1
theorem mid_z (h : Inv M L n) (hx : okX M B) : B 258 23 = 0 := (mid_r h hx).2.2.2.2.2.2
theorem fin_s (hn : n + 1 ≤ 64) (hs : Sta B (n + 1)) (hT1 : TInv B) (hT2 : TInv C) (hlo : Lo B C) (hR : Rel B C L2) : Inv C L2 (n + 1) := by
  refine ⟨hn, hT2, rel_loc hT1 (fun c hc => hlo c (by omega)) (fun _ _ _ => rfl) rfl rfl hR, ?_⟩
  unfold Sta
  rw [hlo 250 (by decide), hlo 245 (by decide), hlo 0 (by decide)]
  exact hs
theorem sta_x (h : Sta M n) (hx : okX M B) : Sta B (n + 1) := by
  obtain ⟨a, b, c, d, e⟩ := h
  obtain ⟨f, g1, g2, g3⟩ := hx
  unfold Sta
  rw [f 250 (by decide), f 245 (by decide)]
  exact ⟨a, by omega, by omega, by omega, by omega⟩
theorem fin (h : Inv M L n) (hn : n + 1 ≤ 64) (hx : okX M B) (hT1 : TInv B) (hT2 : TInv C) (hlo : Lo B C) (hR : Rel B C L2) : Inv C L2 (n + 1) := fin_s hn (sta_x h.2.2.2 hx) hT1 hT2 hlo hR
theorem t_b (h : Inv M L n) {P : Prop} [Decidable P] : TInv (mB M P) := by
  unfold mB
  by_cases z : P
  · rw [if_pos z]; exact h.2.1
  · rw [if_neg z]
    have c := i_ct h
    have t : (0 : Int) ≤ M 0 10 ∧ M 0 10 ≤ 1000000000 := tv h.2.1 (k := 0) (j := 10) rfl
    exact tv_st h.2.1 (k := 0) (j := 10) (lo := 0) (hi := 1000000000) rfl ⟨by omega, by omega⟩
theorem ox_read (h : Inv M L n) : okX M (if (pShore M).1 = -1 then (pShore M).2 else bCpy (pShore M).2 1 197) := by
  have hT := h.2.1
  have e19 : M 258 19 = M 195 2 := h.2.2.1.2.2.1.1
  have h2 : (0 : Int) ≤ M 195 2 ∧ M 195 2 ≤ 150 := tv hT (k := 195) (j := 2) rfl
  have hqt : rN M = qt M := by unfold rN qt; rw [e19]
  obtain ⟨f1, _, _⟩ := ir_shore (M := M) (N := M) hT hqt (fun j hj => (h.2.2.1.2.2.1.2 j (by unfold rN at hj; omega)).symm) h.2.2.1.2.2.2.2.2.2 (by unfold qt; rw [e19]; omega)
  have g1 : ∀ c, c < 195 ∨ c = 196 ∨ 245 ≤ c → (pShore M).2 c = M c := fun c hc => by
    rw [f1.1 c hc, sSt_ne (by omega), bRes_o (by unfold oth; omega)]
  exact okX_ite (okX_f fun a ha => g1 a (by omega)) (okX_f fun a ha => (bCpy_out (by omega)).trans (g1 a (by omega)))

theorem k_current (h : Inv M L n) (hn : n + 1 ≤ 64) (c v : Int) (hT1 : TInv (mCur M c v)) (hT2 : TInv (qmCur (mCur M c v) c v)) : qrCur (mCur M c v) c v = rCur M c v ∧ Inv (qmCur (mCur M c v) c v) L (n + 1) := by
  have sr := s_cur h.2.1 (mid_r (B := mCur M c v) h ox_cur) c v
  exact ⟨sr.2, fin h hn ox_cur hT1 hT2 lo_cur sr.1⟩
theorem k_soul (h : Inv M L n) (hn : n + 1 ≤ 64) (k w c : Int) (hT1 : TInv (mSoul M k w c)) (hT2 : TInv (qmSoul (mSoul M k w c) k w c)) : qrSoul (mSoul M k w c) k w c = rSoul M k w c ∧ Inv (qmSoul (mSoul M k w c) k w c) L (n + 1) := by
  have sr := s_soul h.2.1 (mid_r (B := mSoul M k w c) h ox_soul) k w c
  exact ⟨sr.2, fin h hn ox_soul hT1 hT2 lo_soul sr.1⟩
theorem k_caller (h : Inv M L n) (hn : n + 1 ≤ 64) (k : Int) (hT1 : TInv (mCaller M k)) (hT2 : TInv (qmCaller (mCaller M k) k)) : qrCaller (mCaller M k) k = rCaller M k ∧ Inv (qmCaller (mCaller M k) k) L (n + 1) := by
  have sr := s_caller h.2.1 (mid_r (B := mCaller M k) h ox_caller) k
  exact ⟨sr.2, fin h hn ox_caller hT1 hT2 lo_caller sr.1⟩
theorem k_type (h : Inv M L n) (hn : n + 1 ≤ 64) (c : Int) (hT1 : TInv (mType M c)) (hT2 : TInv (qmType (mType M c) c)) : qrType (mType M c) c = rType M c ∧ Inv (qmType (mType M c) c) L (n + 1) := by
  have sr := s_type h.2.1 (mid_r (B := mType M c) h ox_type) c
  exact ⟨sr.2, fin h hn ox_type hT1 hT2 lo_type sr.1⟩
theorem k_tides (h : Inv M L n) (hn : n + 1 ≤ 64) (i : Int) (hT1 : TInv (mTides M i)) (hT2 : TInv (qmTides (mTides M i) i)) : qrTides (mTides M i) i = rTides M i ∧ Inv (qmTides (mTides M i) i) L (n + 1) := by
  have sr := s_tides h.2.1 (mid_r (B := mTides M i) h ox_tides) i
  exact ⟨sr.2, fin h hn ox_tides hT1 hT2 lo_tides sr.1⟩
theorem k_walks (h : Inv M L n) (hn : n + 1 ≤ 64) (d : Int) (hT1 : TInv (mWalks M d)) (hT2 : TInv (qmWalks (mWalks M d) d)) : qrWalks (mWalks M d) d = rWalks M d ∧ Inv (qmWalks (mWalks M d) d) L (n + 1) := by
  have sr := s_walks h.2.1 (mid_r (B := mWalks M d) h ox_walks) d
  exact ⟨sr.2, fin h hn ox_walks hT1 hT2 lo_walks sr.1⟩
theorem k_calls (h : Inv M L n) (hn : n + 1 ≤ 64) (i : Int) (hT1 : TInv (mCalls M i)) (hT2 : TInv (qmCalls (mCalls M i) i)) : qrCalls (mCalls M i) i = rCalls M i ∧ Inv (qmCalls (mCalls M i) i) L (n + 1) := by
  have sr := s_calls h.2.1 (mid_r (B := mCalls M i) h ox_calls) i
  exact ⟨sr.2, fin h hn ox_calls hT1 hT2 lo_calls sr.1⟩
theorem k_returns (h : Inv M L n) (hn : n + 1 ≤ 64) (i : Int) (hT1 : TInv (mReturns M i)) (hT2 : TInv (qmReturns (mReturns M i) i)) : qrReturns (mReturns M i) i = rReturns M i ∧ Inv (qmReturns (mReturns M i) i) L (n + 1) := by
  have sr := s_returns h.2.1 (mid_r (B := mReturns M i) h ox_returns) i
  exact ⟨sr.2, fin h hn ox_returns hT1 hT2 lo_returns sr.1⟩
theorem k_undo (h : Inv M L n) (hn : n + 1 ≤ 64) (hT1 : TInv (mUndo M)) (hT2 : TInv (qmUndo (mUndo M))) : qrUndo (mUndo M) = rUndo M ∧ Inv (qmUndo (mUndo M)) L (n + 1) := by
  have sr := s_undo h.2.1 (mid_r (B := mUndo M) h ox_undo)
  exact ⟨sr.2, fin h hn ox_undo hT1 hT2 lo_undo sr.1⟩
theorem k_seen (h : Inv M L n) (hn : n + 1 ≤ 64) (m c : Int) (hT1 : TInv (mSeen M m c)) (hT2 : TInv (qmSeen (mSeen M m c) m c)) : qrSeen (mSeen M m c) m c = rSeen M m c ∧ Inv (qmSeen (mSeen M m c) m c) L (n + 1) := by
  have sr := s_seen h.2.1 (mid_r (B := mSeen M m c) h ox_seen) m c
  exact ⟨sr.2, fin h hn ox_seen hT1 hT2 lo_seen sr.1⟩
theorem k_note (h : Inv M L n) (hn : n + 1 ≤ 64) (s w d x : Int) (hT1 : TInv (mNote M s w d x)) (hT2 : TInv (qmNote (mNote M s w d x) s w d x)) : qrNote (mNote M s w d x) s w d x = rNote M s w d x ∧ Inv (qmNote (mNote M s w d x) s w d x) L (n + 1) := by
  have sr := s_note h.2.1 (mid_r (B := mNote M s w d x) h ox_note) s w d x
  exact ⟨sr.2, fin h hn ox_note hT1 hT2 lo_note sr.1⟩
theorem k_mark (h : Inv M L n) (hn : n + 1 ≤ 64) (i x y : Int) (hT1 : TInv (mMark M i x y)) (hT2 : TInv (qmMark (mMark M i x y) i x y)) : qrMark (mMark M i x y) i x y = rMark M i x y ∧ Inv (qmMark (mMark M i x y) i x y) L (n + 1) := by
  have sr := s_mark h.2.1 (mid_r (B := mMark M i x y) h ox_mark) i x y
  exact ⟨sr.2, fin h hn ox_mark hT1 hT2 lo_mark sr.1⟩
theorem k_forget (h : Inv M L n) (hn : n + 1 ≤ 64) (w : Int) (hT1 : TInv (mForget M w)) (hT2 : TInv (qmForget (mForget M w) w)) : qrForget (mForget M w) w = rForget M w ∧ Inv (qmForget (mForget M w) w) L (n + 1) := by
  have sr := s_forget h.2.1 (mid_r (B := mForget M w) h ox_forget) w
  exact ⟨sr.2, fin h hn ox_forget hT1 hT2 lo_forget sr.1⟩
theorem k_from (h : Inv M L n) (hn : n + 1 ≤ 64) (i : Int) (hT1 : TInv (mFrom M i)) (hT2 : TInv (qmFrom (mFrom M i) i)) : qrFrom (mFrom M i) i = rFrom M i ∧ Inv (qmFrom (mFrom M i) i) L (n + 1) := by
  have sr := s_from h.2.1 (mid_r (B := mFrom M i) h ox_from) i
  exact ⟨sr.2, fin h hn ox_from hT1 hT2 lo_from sr.1⟩
theorem k_years (h : Inv M L n) (hn : n + 1 ≤ 64) (x y : Int) (hT1 : TInv (mYears M x y)) (hT2 : TInv (qmYears (mYears M x y) x y)) : qrYears (mYears M x y) x y = rYears M x y ∧ Inv (qmYears (mYears M x y) x y) L (n + 1) := by
  have sr := s_years h.2.1 (mid_r (B := mYears M x y) h ox_years) x y
  exact ⟨sr.2, fin h hn ox_years hT1 hT2 lo_years sr.1⟩
theorem k_shore (h : Inv M L n) (hn : n + 1 ≤ 64) (hT1 : TInv (bRes M 1)) (hT2 : TInv (qBeg (bRes M 1))) : (bRes M 1) 258 1 = M 1 9 ∧ Inv (qBeg (bRes M 1)) L (n + 1) := by
  have sr := s_shore h.2.1 (mid_r (B := bRes M 1) h ox_shore)
  exact ⟨sr.2, fin h hn ox_shore hT1 hT2 (lo_beg lo_rf) sr.1⟩
theorem k_clear (h : Inv M L n) (hn : n + 1 ≤ 64) (hT1 : TInv (sSt M 195 2 0)) (hT2 : TInv (sSt (sSt M 195 2 0) 258 19 0)) : (sSt M 195 2 0) 258 19 = M 195 2 ∧ Inv (sSt (sSt M 195 2 0) 258 19 0) L (n + 1) := by
  have sr := s_clear h.2.1 (mid_r (B := sSt M 195 2 0) h ox_clear)
  exact ⟨sr.2, fin h hn ox_clear hT1 hT2 lo_clear sr.1⟩
theorem k_image (h : Inv M L n) (hn : n + 1 ≤ 64) (i : Int) (hT1 : TInv (mImage M i)) (hT2 : TInv (qmImage (mImage M i) i)) : qrImage i = rImage i ∧ Inv (qmImage (mImage M i) i) L (n + 1) := by
  have sr := s_image h.2.1 (mid_r (B := mImage M i) h ox_image) i
  exact ⟨sr.2, fin h hn ox_image hT1 hT2 lo_image sr.1⟩
theorem k_read (h : Inv M L n) (hn : n + 1 ≤ 64) {B : sM} (hB : B = (if (pShore M).1 = -1 then (pShore M).2 else bCpy (pShore M).2 1 197)) (hT1 : TInv B) (hT2 : TInv (qmRead B)) : qrRead B = (if (pShore M).1 = -1 then -10 - (pShore M).2 195 4 else (pShore M).1) ∧ Inv (qmRead B) L (n + 1) := by
  have hx : okX M B := by rw [hB]; exact ox_read h
  have hr := mid_r h hx
  have e19 : B 258 19 = M 195 2 := hr.2.2.1.1
  have h2 : (0 : Int) ≤ M 195 2 ∧ M 195 2 ≤ 150 := tv h.2.1 (k := 195) (j := 2) rfl
  have sr := s_read h.2.1 (by unfold qt; rw [e19]; omega) hr
  rw [← hB] at sr
  exact ⟨sr.2, fin h hn hx hT1 hT2 lo_read sr.1⟩
theorem k_of (h : Inv M L n) (hn : n + 1 ≤ 64) (s w : Int) {B : sM} (hB : B = mB M (isSou M s ∧ (0 ≤ w ∧ w ≤ 5))) (hT1 : TInv B) (hT2 : TInv (qB B (isQS B s ∧ (0 ≤ w ∧ w ≤ 5)))) : qrOf B s w = rOf M s w ∧ Inv (qB B (isQS B s ∧ (0 ≤ w ∧ w ≤ 5))) L (n + 1) := by
  have hx : okX M B := by rw [hB]; exact ox_b
  have hr := mid_r h hx
  have e1 : B 258 1 = M 1 9 := hr.1.1.1.1
  have e2 : B 258 2 = M 1 10 := hr.1.1.1.2.1
  have sr := s_b h.2.1 hr (P := isSou M s ∧ (0 ≤ w ∧ w ≤ 5)) (Q := isQS B s ∧ (0 ≤ w ∧ w ≤ 5)) (by unfold isQS isSou; rw [e1])
  rw [← hB] at sr
  exact ⟨e_of h.2.1 hr.1.1 s w, fin h hn hx hT1 hT2 lo_b sr⟩
theorem k_about (h : Inv M L n) (hn : n + 1 ≤ 64) (i w : Int) {B : sM} (hB : B = mB M (isCal M i ∧ (0 ≤ w ∧ w ≤ 3))) (hT1 : TInv B) (hT2 : TInv (qB B (isQC B i ∧ (0 ≤ w ∧ w ≤ 3)))) : qrAbout B i w = rAbout M i w ∧ Inv (qB B (isQC B i ∧ (0 ≤ w ∧ w ≤ 3))) L (n + 1) := by
  have hx : okX M B := by rw [hB]; exact ox_b
  have hr := mid_r h hx
  have e1 : B 258 1 = M 1 9 := hr.1.1.1.1
  have e2 : B 258 2 = M 1 10 := hr.1.1.1.2.1
  have sr := s_b h.2.1 hr (P := isCal M i ∧ (0 ≤ w ∧ w ≤ 3)) (Q := isQC B i ∧ (0 ≤ w ∧ w ≤ 3)) (by unfold isQC isCal; rw [e2])
  rw [← hB] at sr
  exact ⟨e_about h.2.1 hr.1.1 i w, fin h hn hx hT1 hT2 lo_b sr⟩
theorem k_feels (h : Inv M L n) (hn : n + 1 ≤ 64) (s i : Int) {B : sM} (hB : B = mB M (isSou M s ∧ isCal M i)) (hT1 : TInv B) (hT2 : TInv (qB B (isQS B s ∧ isQC B i))) : qrFeels B s i = rFeels M s i ∧ Inv (qB B (isQS B s ∧ isQC B i)) L (n + 1) := by
  have hx : okX M B := by rw [hB]; exact ox_b
  have hr := mid_r h hx
  have e1 : B 258 1 = M 1 9 := hr.1.1.1.1
  have e2 : B 258 2 = M 1 10 := hr.1.1.1.2.1
  have sr := s_b h.2.1 hr (P := isSou M s ∧ isCal M i) (Q := isQS B s ∧ isQC B i) (by unfold isQS isSou isQC isCal; rw [e1, e2])
  rw [← hB] at sr
  exact ⟨e_feels h.2.1 hr.1.1 s i, fin h hn hx hT1 hT2 lo_b sr⟩
theorem k_where (h : Inv M L n) (hn : n + 1 ≤ 64) (s m : Int) {B : sM} (hB : B = mB M (isSou M s ∧ (0 ≤ m ∧ m ≤ 60))) (hT1 : TInv B) (hT2 : TInv (qB B (isQS B s ∧ (0 ≤ m ∧ m ≤ 60)))) : qrWhere B s m = rWhere M s m ∧ Inv (qB B (isQS B s ∧ (0 ≤ m ∧ m ≤ 60))) L (n + 1) := by
  have hx : okX M B := by rw [hB]; exact ox_b
  have hr := mid_r h hx
  have e1 : B 258 1 = M 1 9 := hr.1.1.1.1
  have e2 : B 258 2 = M 1 10 := hr.1.1.1.2.1
  have sr := s_b h.2.1 hr (P := isSou M s ∧ (0 ≤ m ∧ m ≤ 60)) (Q := isQS B s ∧ (0 ≤ m ∧ m ≤ 60)) (by unfold isQS isSou; rw [e1])
  rw [← hB] at sr
  exact ⟨e_where h.2.1 hr.1.1 s m, fin h hn hx hT1 hT2 lo_b sr⟩
theorem k_comes (h : Inv M L n) (hn : n + 1 ≤ 64) (c m : Int) {B : sM} (hB : B = mB M ((0 ≤ c ∧ c ≤ 11) ∧ (0 ≤ m ∧ m ≤ 60))) (hT1 : TInv B) (hT2 : TInv (qB B ((0 ≤ c ∧ c ≤ 11) ∧ (0 ≤ m ∧ m ≤ 60)))) : qrComes B c m = rComes M c m ∧ Inv (qB B ((0 ≤ c ∧ c ≤ 11) ∧ (0 ≤ m ∧ m ≤ 60))) L (n + 1) := by
  have hx : okX M B := by rw [hB]; exact ox_b
  have hr := mid_r h hx
  have e1 : B 258 1 = M 1 9 := hr.1.1.1.1
  have e2 : B 258 2 = M 1 10 := hr.1.1.1.2.1
  have sr := s_b h.2.1 hr (P := (0 ≤ c ∧ c ≤ 11) ∧ (0 ≤ m ∧ m ≤ 60)) (Q := (0 ≤ c ∧ c ≤ 11) ∧ (0 ≤ m ∧ m ≤ 60)) (by exact Iff.rfl)
  rw [← hB] at sr
  exact ⟨e_comes hr.1.1 c m, fin h hn hx hT1 hT2 lo_b sr⟩
theorem k_status (h : Inv M L n) (hn : n + 1 ≤ 64) (w : Int) {B : sM} (hB : B = mB M (0 ≤ w ∧ w ≤ 2)) (hT1 : TInv B) (hT2 : TInv (qB B (0 ≤ w ∧ w ≤ 2))) : qrStatus B w = rStatus M w ∧ Inv (qB B (0 ≤ w ∧ w ≤ 2)) L (n + 1) := by
  have hx : okX M B := by rw [hB]; exact ox_b
  have hr := mid_r h hx
  have e1 : B 258 1 = M 1 9 := hr.1.1.1.1
  have e2 : B 258 2 = M 1 10 := hr.1.1.1.2.1
  have sr := s_b h.2.1 hr (P := 0 ≤ w ∧ w ≤ 2) (Q := 0 ≤ w ∧ w ≤ 2) (by exact Iff.rfl)
  rw [← hB] at sr
  exact ⟨e_status hr w, fin h hn hx hT1 hT2 lo_b sr⟩
theorem k_count (h : Inv M L n) (hn : n + 1 ≤ 64) (w : Int) {B : sM} (hB : B = mB M (0 ≤ w ∧ w ≤ 10)) (hT1 : TInv B) (hT2 : TInv (qB B (0 ≤ w ∧ w ≤ 10))) : qrCount B w = rCount M w ∧ Inv (qB B (0 ≤ w ∧ w ≤ 10)) L (n + 1) := by
  have hx : okX M B := by rw [hB]; exact ox_b
  have hr := mid_r h hx
  have e1 : B 258 1 = M 1 9 := hr.1.1.1.1
  have e2 : B 258 2 = M 1 10 := hr.1.1.1.2.1
  have sr := s_b h.2.1 hr (P := 0 ≤ w ∧ w ≤ 10) (Q := 0 ≤ w ∧ w ≤ 10) (by exact Iff.rfl)
  rw [← hB] at sr
  exact ⟨e_count h.2.1 hr.1.1 hr.1.2.1 hr.1.2.2.1 hr.2.2.1.1 w, fin h hn hx hT1 hT2 lo_b sr⟩
theorem k_is (h : Inv M L n) (hn : n + 1 ≤ 64) (s : Int) {B : sM} (hB : B = mB M (isSou M s)) (hT1 : TInv B) (hT2 : TInv (qB B (isQS B s))) : qrIs B s = rIs M s ∧ Inv (qB B (isQS B s)) L (n + 1) := by
  have hx : okX M B := by rw [hB]; exact ox_b
  have hr := mid_r h hx
  have e1 : B 258 1 = M 1 9 := hr.1.1.1.1
  have e2 : B 258 2 = M 1 10 := hr.1.1.1.2.1
  have sr := s_b h.2.1 hr (P := isSou M s) (Q := isQS B s) (by unfold isQS isSou; rw [e1])
  rw [← hB] at sr
  exact ⟨e_is h.2.1 hr.1.1 hr.1.2.1 s, fin h hn hx hT1 hT2 lo_b sr⟩
theorem k_kinds (h : Inv M L n) (hn : n + 1 ≤ 64) (i : Int) {B : sM} (hB : B = mB M (isCal M i)) (hT1 : TInv B) (hT2 : TInv (qB B (isQC B i))) : qrKinds B i = rKinds M i ∧ Inv (qB B (isQC B i)) L (n + 1) := by
  have hx : okX M B := by rw [hB]; exact ox_b
  have hr := mid_r h hx
  have e1 : B 258 1 = M 1 9 := hr.1.1.1.1
  have e2 : B 258 2 = M 1 10 := hr.1.1.1.2.1
  have sr := s_b h.2.1 hr (P := isCal M i) (Q := isQC B i) (by unfold isQC isCal; rw [e2])
  rw [← hB] at sr
  exact ⟨e_kinds h.2.1 hr.1.1 hr.1.2.1 i, fin h hn hx hT1 hT2 lo_b sr⟩
theorem k_claim (h : Inv M L n) (hn : n + 1 ≤ 64) (a b s k : Int) {B : sM} (hB : B = mB M (okClaim M a b s k)) (hT1 : TInv B) (hT2 : TInv (qB B (qokClaim B a b s k))) : qrClaim B a b s k = rClaim M a b s k ∧ Inv (qB B (qokClaim B a b s k)) L (n + 1) := by
  have hx : okX M B := by rw [hB]; exact ox_b
  have hr := mid_r h hx
  have e1 : B 258 1 = M 1 9 := hr.1.1.1.1
  have e2 : B 258 2 = M 1 10 := hr.1.1.1.2.1
  have sr := s_b h.2.1 hr (P := okClaim M a b s k) (Q := qokClaim B a b s k) (by unfold qokClaim okClaim isQS isSou isQC isCal; rw [e1, e2])
  rw [← hB] at sr
  exact ⟨e_claim h.2.1 hr.1.1 a b s k, fin h hn hx hT1 hT2 lo_b sr⟩
theorem k_part (h : Inv M L n) (hn : n + 1 ≤ 64) (w : Int) {B : sM} (hB : B = mB M (w = 0 ∨ w = 1)) (hT1 : TInv B) (hT2 : TInv (qB B (w = 0 ∨ w = 1))) : qrPart B L w = rPart M w ∧ Inv (qB B (w = 0 ∨ w = 1)) L (n + 1) := by
  have hx : okX M B := by rw [hB]; exact ox_b
  have hr := mid_r h hx
  have e1 : B 258 1 = M 1 9 := hr.1.1.1.1
  have e2 : B 258 2 = M 1 10 := hr.1.1.1.2.1
  have sr := s_b h.2.1 hr (P := w = 0 ∨ w = 1) (Q := w = 0 ∨ w = 1) (by exact Iff.rfl)
  rw [← hB] at sr
  exact ⟨e_part hr w, fin h hn hx hT1 hT2 lo_b sr⟩
theorem ox_look (h : Inv M L n) {s : Int} {B : sM} (hB : ∀ c, c ≠ 257 → B c = (if isSou M s then M else sBad M) c) : okX M B := okX_c (X := mB M (isSou M s)) ox_b fun c hc => hB c (by omega)
theorem k_look (h : Inv M L n) (hn : n + 1 ≤ 64) (s : Int) {B : sM} (hB : ∀ c, c ≠ 257 → B c = (if isSou M s then M else sBad M) c) (hT1 : TInv B) (hT2 : TInv (qB B (isQS B s))) : qrLook B s = rLook M s ∧ Inv (qB B (isQS B s)) L (n + 1) := by
  have hx := ox_look h hB
  have hr := mid_r h hx
  have e1 : B 258 1 = M 1 9 := hr.1.1.1.1
  have e2 : B 258 2 = M 1 10 := hr.1.1.1.2.1
  have sr := s_b h.2.1 hr (P := isSou M s) (Q := isQS B s) (by unfold isQS isSou; rw [e1])
  have s2 : Rel B (qB B (isQS B s)) L := rel_loc (t_b h) (fun c hc => hB c (by omega)) (fun _ _ _ => rfl) rfl rfl sr
  exact ⟨e_look h.2.1 hr.1.1 hr.1.2.1 s, fin h hn hx hT1 hT2 lo_b s2⟩
theorem ox_ask (h : Inv M L n) {i : Int} {B : sM} (hB : ∀ c, c ≠ 257 → B c = (if isCal M i then M else sBad M) c) : okX M B := okX_c (X := mB M (isCal M i)) ox_b fun c hc => hB c (by omega)
theorem k_ask (h : Inv M L n) (hn : n + 1 ≤ 64) (i : Int) {B : sM} (hB : ∀ c, c ≠ 257 → B c = (if isCal M i then M else sBad M) c) (hT1 : TInv B) (hT2 : TInv (qB B (isQC B i))) : qrAsk B i = rAsk M i ∧ Inv (qB B (isQC B i)) L (n + 1) := by
  have hx := ox_ask h hB
  have hr := mid_r h hx
  have e1 : B 258 1 = M 1 9 := hr.1.1.1.1
  have e2 : B 258 2 = M 1 10 := hr.1.1.1.2.1
  have sr := s_b h.2.1 hr (P := isCal M i) (Q := isQC B i) (by unfold isQC isCal; rw [e2])
  have s2 : Rel B (qB B (isQC B i)) L := rel_loc (t_b h) (fun c hc => hB c (by omega)) (fun _ _ _ => rfl) rfl rfl sr
  exact ⟨e_ask h.2.1 hr.1.1 hr.1.2.1 i, fin h hn hx hT1 hT2 lo_b s2⟩
theorem ox_tell {B : sM} (hB : ∀ c, c ≠ 257 → B c = M c) : okX M B := okX_c okX_rf fun c hc => hB c (by omega)
theorem k_tell (h : Inv M L n) (hn : n + 1 ≤ 64) {B : sM} (hB : ∀ c, c ≠ 257 → B c = M c) (hT1 : TInv B) : qrTell B = rTell M ∧ Inv B L (n + 1) := by
  have hx := ox_tell hB
  have hr := mid_r h hx
  have s2 : Rel B B L := rel_loc h.2.1 (fun c hc => hB c (by omega)) (fun _ _ _ => rfl) rfl rfl hr
  exact ⟨e_tell h.2.1 hr.1.1 hr.1.2.1, fin h hn hx hT1 hT1 lo_rf s2⟩
theorem ox_swaps {B : sM} (hB : ∀ c, c ≠ 257 → B c = M c) : okX M B := okX_c okX_rf fun c hc => hB c (by omega)
theorem k_swaps (h : Inv M L n) (hn : n + 1 ≤ 64) {B : sM} (hB : ∀ c, c ≠ 257 → B c = M c) (hT1 : TInv B) : qrSwaps B = rSwaps M ∧ Inv B L (n + 1) := by
  have hx := ox_swaps hB
  have hr := mid_r h hx
  have s2 : Rel B B L := rel_loc h.2.1 (fun c hc => hB c (by omega)) (fun _ _ _ => rfl) rfl rfl hr
  exact ⟨e_swaps h.2.1 hr.1.1, fin h hn hx hT1 hT1 lo_rf s2⟩
theorem k_right (h : Inv M L n) (hn : n + 1 ≤ 64) : qRig M = bRig M 1 ∧ Inv M L (n + 1) := by
  have hr := h.2.2.1
  exact ⟨e_right h.2.1 hr.1.1, fin h hn okX_rf h.2.1 h.2.1 lo_rf hr⟩
theorem k_which (h : Inv M L n) (hn : n + 1 ≤ 64) : ((qSeB M : Nat) : Int) = (seenB M : Int) ∧ Inv M L (n + 1) := by
  have hr := h.2.2.1
  exact ⟨by rw [seen_b h.2.1 hr.1.1 hr.1.2.1], fin h hn okX_rf h.2.1 h.2.1 lo_rf hr⟩
theorem k_digest (h : Inv M L n) (hn : n + 1 ≤ 64) : qdig M L = dig M ∧ Inv M (sSl L 258 35 (qdig M L)) (n + 1) := by
  have hr := h.2.2.1
  exact ⟨e_digest h.2.1 hr.1.1 hr.1.2.1 hr.1.2.2.1 hr.2.2.1.1 hr.2.2.2.2.1.1 hr.2.2.2.2.1.2, fin h hn okX_rf h.2.1 h.2.1 lo_rf (rel_loc h.2.1 (fun _ _ => rfl) (fun _ _ _ => rfl) rfl rfl hr)⟩
theorem k_gulls (h : Inv M L n) (hn : n + 1 ≤ 64) (c : Int) (hT1 : TInv (mGulls M c)) (hT2 : TInv (qB (mGulls M c) (0 ≤ c ∧ c ≤ 10))) : Inv (qB (mGulls M c) (0 ≤ c ∧ c ≤ 10)) (qmGulls L (mGulls M c) c) (n + 1) :=
  fin h hn ox_gulls hT1 hT2 lo_b (s_gulls h.2.1 (mid_r (B := mGulls M c) h ox_gulls) c)
/-! order -/
theorem ox_order (h : Inv M L n) {k : Int} {B : sM} (h1 : k < -1 → B = sBad M) (h2 : -1 ≤ k → ∃ K, oRes2 M K B) : okX M B := by
  by_cases z : k < -1
  · rw [h1 z]; exact okX_bad
  · obtain ⟨K, hK⟩ := h2 (by omega)
    exact okX_c okX_rf fun c hc => by
      by_cases w : c = 257
      · subst w; exact hK.1.2.1 257 (by decide)
      · exact hK.1.2.1 c (by omega)
theorem k_order (h : Inv M L n) (hn : n + 1 ≤ 64) (k r : Int) {B C : sM} (h1 : k < -1 → r = -10 ∧ B = sBad M) (h2 : -1 ≤ k → ∃ K, oRes2 M K B ∧ r = (if k = -1 then mxV (ordV M) K + bRig M 1 else if k < ordN M then rowN (ordR M) (ordN M) (mxI (ordV M) K) k.toNat else -5)) (h3 : k < -1 → C = qBad B) (h4 : -1 ≤ k → qoAw B C) (hT1 : TInv B) (hT2 : TInv C) : qrOrder B k = r ∧ Inv C L (n + 1) := by
  have hx : okX M B := ox_order h (k := k) (fun z => (h1 z).2) (fun z => (h2 z).imp fun _ q => q.1)
  have hr := mid_r h hx
  by_cases z : k < -1
  · obtain ⟨rfl, rfl⟩ := h1 z
    obtain rfl := h3 z
    refine ⟨?_, fin h hn hx hT1 hT2 (lo_bad lo_rf) (rel_bad h.2.1 hr).1⟩
    unfold qrOrder
    rw [if_pos z]
  · have z' : -1 ≤ k := by omega
    obtain ⟨K, hK, rfl⟩ := h2 z'
    have hq := h4 z'
    refine ⟨(e_order h.2.1 hr.1.1 z' hK).symm, fin h hn hx hT1 hT2 (fun c hc => hq c (by omega) (by omega) (by omega)) ?_⟩
    exact rel_loc h.2.1 (fun c hc => hK.1.2.1 c (by omega)) (fun c a b => hq c (by omega) (by omega) (by omega)) rfl rfl hr
/-! walk -/
theorem k_walk (h : Inv M L n) (hn : n + 1 ≤ 64) (a k r q : Int) {B C : sM} {L1 L2 : sL} (hT1 : TInv B) (hT2 : TInv C)
    (h1 : ¬ okWalk M a k → r = -10 ∧ B = sBad M ∧ L = L1) (h2 : okWalk M a k → wAns M a k r ∧ (∀ c, c < 245 ∨ 252 < c → B c = M c) ∧ B 245 7 ≤ M 245 7 + 20 ∧ (∀ j, B 250 j ≤ B 245 7) ∧ (∀ c, c ≠ 245 → c ≠ 248 → c ≠ 249 → L1 c = L c))
    (h3 : okQW B a k → qwAns B a k q ∧ (∀ c, c ≠ 275 → C c = B c)) (h4 : ¬ okQW B a k → q = -10 ∧ C = qBad B) (h5 : ∀ c, c ≠ 274 → L2 c = L1 c) : q = r ∧ Inv C L2 (n + 1) := by
  have hF : ∀ c, 258 ≤ c → B c = M c := fun c hc => by
    by_cases z : okWalk M a k
    · exact (h2 z).2.1 c (by omega)
    · rw [(h1 z).2.1]; exact sSt_ne (by omega)
  have hr := mid_f h hF
  have e1 : B 258 1 = M 1 9 := hr.1.1.1.1
  have ew : okQW B a k ↔ okWalk M a k := by unfold okQW okWalk qn nS; rw [e1]
  by_cases z : okWalk M a k
  · obtain ⟨w1, w2, w3, w4, w5⟩ := h2 z
    obtain ⟨v1, v2⟩ := h3 (ew.mpr z)
    have l0 : L2 258 = L 258 := (h5 258 (by decide)).trans (w5 258 (by decide) (by decide) (by decide))
    refine ⟨(e_walk h.2.1 hr.1.1 w1 v1 (by have := z.2; omega)).symm, fin_s hn ?_ hT1 hT2 (fun c hc => v2 c (by omega)) (rel_loc h.2.1 (fun c hc => w2 c (by omega)) (fun c a b => v2 c (by omega)) (by rw [l0]) (by rw [l0]) hr)⟩
    obtain ⟨a1, a2, a3, a4, a5⟩ := h.2.2.2
    refine ⟨w4, by omega, ?_, ?_, ?_⟩
    · rw [w2 0 (by decide)]; omega
    · rw [w2 0 (by decide)]; omega
    · rw [w2 0 (by decide)]; omega
  · obtain ⟨rfl, rfl, rfl⟩ := h1 z
    obtain ⟨rfl, rfl⟩ := h4 (fun y => z (ew.mp y))
    have l0 : L2 258 = L 258 := h5 258 (by decide)
    exact ⟨rfl, fin h hn okX_bad hT1 hT2 (lo_bad lo_rf) (rel_loc (M := sBad M) hT1 (fun _ _ => rfl) (fun _ _ _ => rfl) (by rw [l0]) (by rw [l0]) (rel_bad h.2.1 hr).1)⟩
end IV
