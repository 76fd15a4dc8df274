/-! reading: walk, tides, call -/
section RP
variable {A B M N : sM}
theorem rc_flo7 (hr : hrC A 197) (h : RelC A B 197) : RelC (bFlo A 197) (qPas B) 197 := by
  have en : qn B = nS A 197 := rc_n h
  obtain ⟨⟨c1, c2, c3, c4⟩, c5, c6, c7, c8⟩ := h
  have q := moc_flo c5 hr c8
  exact ⟨⟨c1, c2, congrArg (· + 1) c3, c4⟩, c5, c6, c7, by unfold qPas qpN; rw [en]; exact q⟩
theorem rc_gat7 (hr : hrC A 197) (d : Int) (h : RelC A B 197) : RelC (bGat A 197 d) (qGa B d) 197 := by
  have en : qn B = nS A 197 := rc_n h
  obtain ⟨⟨c1, c2, c3, c4⟩, c5, c6, c7, c8⟩ := h
  have ec : qCl B d = max 0 (min 11 (A (197 + 5) 3 + d)) := by unfold qCl; rw [c4]
  have q := moc_gat (x := max 0 (min 11 (A (197 + 5) 3 + d))) (by omega) hr c8
  unfold bGat qGa
  rw [ec, en]
  exact ⟨⟨c1, c2, c3, rfl⟩, c5, c6, c7, q⟩
theorem rc_tk7 {s i : Nat} (hc : A (197 + 6) s = -1) (hi : i < nC A 197) (hu : ∀ t, t < nS A 197 → A (197 + 7) t ≠ i) (h : RelC A B 197) : RelC (sSt A (197 + 7) s i) (qTk B i s) 197 := by
  obtain ⟨⟨c1, c2, c3, c4⟩, c5, c6, c7, c8⟩ := h
  have q := moc_tk hc hi hu c8
  exact ⟨⟨c1, c2, c3, c4⟩, c5, c6, c7, q⟩
theorem flos7 (hT : TInv A) (h : RelC A B 197) : ∀ k : Nat, A (197 + 5) 4 + k ≤ 999 → RelC (bFlos A 197 k) (qPs B k) 197 ∧ TInv (bFlos A 197 k)
  | 0, _ => ⟨h, hT⟩
  | k + 1, hk => by
    obtain ⟨a, b⟩ := flos7 hT h k (by omega)
    exact ⟨rc_flo7 (fun s => tv_cell b o197 s) a, T_flo b o197 (by rw [bFlos_tide]; omega)⟩
theorem pas7 (hT : TInv A) (h : RelC A B 197) (h9 : A (197 + 5) 4 ≤ 999) (n : Nat) : RelC (bPas A 197 n) (qPt B n) 197 ∧ TInv (bPas A 197 n) ∧ bPas A 197 n (197 + 5) 4 ≤ 999 := by
  have e3 : B 258 3 = A (197 + 5) 4 := h.1.2.2.1
  unfold bPas qPt
  rw [e3]
  obtain ⟨a, b⟩ := flos7 hT h (min n (999 - A (197 + 5) 4).toNat) (by omega)
  refine ⟨a, b, ?_⟩
  rw [bFlos_tide]; omega
theorem zr_c {A' B' : sM} (h : Zr A B) (h1 : A' 197 = A 197) (h2 : A' 207 = A 207) (h3 : A' 209 = A 209) (h4 : A' 211 = A 211) (h5 : B' 258 5 = B 258 5) (h6 : B' 258 6 = B 258 6) (h7 : B' 258 7 = B 258 7) : Zr A' B' := by
  unfold Zr
  rw [h1, h2, h3, h4, h5, h6, h7]
  exact h
theorem fa_pas (A : sM) (n : Nat) : FA A (bPas A 197 n) := fa_o (fun c hc => bPas_o hc)
theorem ok_tides (h : RT A B) (hs : tS A = qsp B) (hc : SC A B) : OK A B (pEnd (pTides A)) (qpTides B) := by
  unfold pTides qpTides
  obtain ⟨a1, a2⟩ := rt_ok h hs 1 99
  by_cases c1 : nOk 1 99 A
  · rw [if_pos c1, if_pos (a1.mp c1)]
    obtain ⟨t1, v1⟩ := a2 c1
    obtain ⟨w1, w2, w3⟩ := st_num h hs hc t1
    rw [v1] at *
    obtain ⟨p1, p2, p3⟩ := pas7 (nqM B |> fun _ => w1.2.2.1) w3.1 w3.2.2.1 (nqV B).toNat
    have fB : FB (nqM B) (qPt (nqM B) (nqV B).toNat) := fb_ps _ _
    have r : RT (bPas (nxM A) 197 (nqV B).toNat) (qPt (nqM B) (nqV B).toNat) := rt_c w1 (fa_pas _ _) fB p2 (rOk_c (bPas_o (by unfold oth; omega)) w1.2.2.2)
    have e : tS (bPas (nxM A) 197 (nqV B).toNat) = qsp (qPt (nqM B) (nqV B).toNat) := by
      refine sp_e r ?_
      have e1 : rq (qPt (nqM B) (nqV B).toNat) = rq (nqM B) := rq_ps _ _
      unfold rP
      rw [bPas_o (by unfold oth; omega), e1, rq_nq, ← t1]
      exact rP_nx A
    refine ok_t (FA_t (fa_nx A) (fa_pas _ _)) (FB_t (fb_nq B) fB) (ok_end r e ⟨p1, ?_, p3, ?_⟩)
    · refine zr_c w3.2.1 ?_ ?_ ?_ ?_ ?_ ?_ ?_
      · exact flo_c (by decide) (by decide) (by decide) _
      · exact flo_c (by decide) (by decide) (by decide) _
      · exact flo_c (by decide) (by decide) (by decide) _
      · exact flo_c (by decide) (by decide) (by decide) _
      · exact qPs_j (by decide) _
      · exact qPs_j (by decide) _
      · exact qPs_j (by decide) _
    · exact (qPs_j (by decide) _).trans w3.2.2.2
  · rw [if_neg c1, if_neg (fun z => c1 (a1.mpr z))]
    exact ok_no hs
theorem ok_walk (h : RT A B) (hs : tS A = qsp B) (hc : SC A B) : OK A B (pEnd (pWalk A)) (qpWalk B) := by
  unfold pWalk qpWalk
  obtain ⟨a1, a2⟩ := rt_ok h hs 0 2
  by_cases c1 : nOk 0 2 A
  · rw [if_pos c1, if_pos (a1.mp c1)]
    obtain ⟨t1, v1⟩ := a2 c1
    obtain ⟨w1, w2, w3⟩ := st_num h hs hc t1
    rw [v1] at *
    have g := rc_gat7 (fun s => tv_cell w1.2.2.1 o197 s) (nqV B - 1) w3.1
    have Tg : TInv (bGat (nxM A) 197 (nqV B - 1)) := T_gat w1.2.2.1 o197 _
    have g9 : bGat (nxM A) 197 (nqV B - 1) (197 + 5) 4 ≤ 999 := by rw [bGat_tide]; exact w3.2.2.1
    obtain ⟨p1, p2, p3⟩ := pas7 Tg g g9 1
    have e3 : nqM B 258 3 = nxM A (197 + 5) 4 := w3.1.1.2.2.1
    have eg : qPt (qGa (nqM B) (nqV B - 1)) 1 = qGo (nqM B) (nqV B - 1) := by
      have e4 : qGa (nqM B) (nqV B - 1) 258 3 = nqM B 258 3 := qGa_j (by decide)
      have z23 : nqM B 258 23 = 0 := w3.2.2.2
      have z9 := w3.2.2.1
      unfold qPt qGo
      rw [e4]
      by_cases z : nqM B 258 3 < 999
      · rw [if_pos (Or.inl z), show min 1 (999 - nqM B 258 3).toNat = 1 by omega]; rfl
      · rw [if_neg (fun q => q.elim z (fun y => y z23)), show min 1 (999 - nqM B 258 3).toNat = 0 by omega]; rfl
    rw [eg] at p1
    have fA : FA (nxM A) (bPas (bGat (nxM A) 197 (nqV B - 1)) 197 1) := fa_o (fun c hc => by rw [bPas_o hc, bGat_o hc])
    have fB : FB (nqM B) (qGo (nqM B) (nqV B - 1)) := fb_go _ _
    have e195 : bPas (bGat (nxM A) 197 (nqV B - 1)) 197 1 195 = nxM A 195 := by rw [bPas_o (by unfold oth; omega), bGat_o (by unfold oth; omega)]
    have r : RT (bPas (bGat (nxM A) 197 (nqV B - 1)) 197 1) (qGo (nqM B) (nqV B - 1)) := rt_c w1 fA fB p2 (rOk_c e195 w1.2.2.2)
    have e : tS (bPas (bGat (nxM A) 197 (nqV B - 1)) 197 1) = qsp (qGo (nqM B) (nqV B - 1)) := by
      refine sp_e r ?_
      unfold rP
      rw [e195, rq_go, rq_nq, ← t1]
      exact rP_nx A
    refine ok_t (FA_t (fa_nx A) fA) (FB_t (fb_nq B) fB) (ok_end r e ⟨p1, ?_, p3, ?_⟩)
    · refine zr_c w3.2.1 ?_ ?_ ?_ ?_ ?_ ?_ ?_
      · exact (flo_c (by decide) (by decide) (by decide) _).trans (gat_c (by decide) (by decide) (by decide))
      · exact (flo_c (by decide) (by decide) (by decide) _).trans (gat_c (by decide) (by decide) (by decide))
      · exact (flo_c (by decide) (by decide) (by decide) _).trans (gat_c (by decide) (by decide) (by decide))
      · exact (flo_c (by decide) (by decide) (by decide) _).trans (gat_c (by decide) (by decide) (by decide))
      · exact qGo_j (by decide) (by decide)
      · exact qGo_j (by decide) (by decide)
      · exact qGo_j (by decide) (by decide)
    · exact (qGo_j (by decide) (by decide)).trans w3.2.2.2
  · rw [if_neg c1, if_neg (fun z => c1 (a1.mpr z))]
    exact ok_no hs
theorem sk_sk (B : sM) : qsp (qSk B) = qsp B := by
  have e1 : qsp (qSk B) = scan isSp (B 270) (qt B) (rq (qSk B)) := rfl
  rw [e1, rq_sk]
  exact scan_n (scan_st isSp (B 270) (qt B) (rq B))
theorem ok_call (h : RT A B) (hs : tS A = qsp B) (hc : SC A B) : OK A B (pEnd (pCall A)) (qpCall B) := by
  unfold pCall qpCall
  have h1 : RT A (qSk B) := rt_c h ⟨fun _ _ => rfl, rfl⟩ (fb_sk B) h.2.2.1 h.2.2.2
  have hs1 : tS A = qsp (qSk B) := by rw [sk_sk]; exact hs
  have hc1 : SC A (qSk B) := hc
  have e2 : B 258 2 = A 197 10 := hc.1.1.2.1
  rw [e2]
  obtain ⟨a1, a2⟩ := rt_ok h1 hs1 0 (A 197 10 - 1)
  by_cases c1 : nOk 0 (A 197 10 - 1) A
  · rw [if_pos c1, if_pos (a1.mp c1)]
    obtain ⟨t1, v1⟩ := a2 c1
    obtain ⟨w1, w2, w3⟩ := st_num h1 hs1 hc1 t1
    have k1 := c1.2
    rw [v1] at *
    have r2 := nC_r w1.2.2.1 o197
    have e10 : nxM A 197 10 = A 197 10 := rfl
    have hi : (nqV (qSk B)).toNat < nC (nxM A) 197 := by omega
    rw [rc_cho w1.2.2.1 o197 w3.1 hi]
    by_cases c2 : bCho (nxM A) 197 (nqV (qSk B)).toNat = -1
    · rw [if_pos c2, if_pos c2]
      refine ⟨fa_nx A, FB_t (fb_sk B) (FB_t (fb_nq _) (fb_p _ _)), Or.inr ⟨rfl, rfl, ?_⟩⟩
      show nxM A 195 4 = sSt (nqM (qSk B)) 258 20 (qsp B) 258 20
      rw [nx_4, sSt_eq, hs]
    · rw [if_neg c2, if_neg c2]
      have hh : bHeld (nxM A) 197 (nqV (qSk B)).toNat = -1 := by
        by_cases e : bHeld (nxM A) 197 (nqV (qSk B)).toNat = -1
        · exact e
        · exact absurd (if_neg e) c2
      have en : bCho (nxM A) 197 (nqV (qSk B)).toNat = bNea (nxM A) 197 (nqV (qSk B)).toNat := if_pos hh
      have hp : shv (nxM A) 197 (bCho (nxM A) 197 (nqV (qSk B)).toNat).toNat := by rw [en] at c2 ⊢; exact nea_p c2
      have ei : (((nqV (qSk B)).toNat : Nat) : Int) = nqV (qSk B) := by omega
      have t := rc_tk7 (s := (bCho (nxM A) 197 (nqV (qSk B)).toNat).toNat) hp.1 hi (fun t ht => fst_0 hh t ht) w3.1
      rw [ei] at t
      have fA : FA (nxM A) (sSt (nxM A) 204 (bCho (nxM A) 197 (nqV (qSk B)).toNat).toNat (nqV (qSk B))) := fa_o (fun c hc => sSt_ne (by unfold oth at hc; omega))
      have fB := fb_tk (nqM (qSk B)) (nqV (qSk B)).toNat (bCho (nxM A) 197 (nqV (qSk B)).toNat).toNat
      have r : RT (sSt (nxM A) 204 (bCho (nxM A) 197 (nqV (qSk B)).toNat).toNat (nqV (qSk B))) (qTk (nqM (qSk B)) (nqV (qSk B)).toNat (bCho (nxM A) 197 (nqV (qSk B)).toNat).toNat) :=
        rt_c w1 fA fB (tw_hold (o := 197) w1.2.2.1 o197 (by omega)) (rOk_c (sSt_ne (by decide)) w1.2.2.2)
      have e : tS (sSt (nxM A) 204 (bCho (nxM A) 197 (nqV (qSk B)).toNat).toNat (nqV (qSk B))) = qsp (qTk (nqM (qSk B)) (nqV (qSk B)).toNat (bCho (nxM A) 197 (nqV (qSk B)).toNat).toNat) := w2
      exact ok_t (FA_t (fa_nx A) fA) (FB_t (fb_sk B) (FB_t (fb_nq _) fB)) (ok_end r e ⟨t, w3.2.1, w3.2.2.1, w3.2.2.2⟩)
  · rw [if_neg c1, if_neg (fun z => c1 (a1.mpr z))]
    exact ok_t ⟨fun _ _ => rfl, rfl⟩ (fb_sk B) (ok_no hs1)
end RP
