/-! read -/
section RR
variable {M N : sM} {L : sL}
theorem rest_f {M' N' : sM} (hT : TInv M) (h0 : M' 0 = M 0) (hI : ∀ c, 98 ≤ c → c < 195 → M' c = M c) (h2 : M' 195 2 = M 195 2) (h6 : M' 196 = M 196) (hN : ∀ c, c = 259 ∨ c = 270 ∨ c = 278 ∨ c = 279 → N' c = N c) (h19 : N' 258 19 = N 258 19) (h23 : N' 258 23 = N 258 23) (h : Rest M N L) : Rest M' N' L := by
  obtain ⟨⟨a1, a2⟩, b, c, ⟨d1, d2⟩, e⟩ := h
  unfold Rest
  rw [h0, h19, h23, h2, h6, hN 259 (by decide), hN 270 (by decide)]
  have q := fun i (hi : i < 2) => @relI_cg M N M' N' i hi hT hI (hN 278 (by decide)) (hN 279 (by decide))
  exact ⟨⟨a1, a2⟩, b, c, ⟨q 0 (by decide) d1, q 1 (by decide) d2⟩, e⟩
theorem s_read (hT : TInv M) (hN : qt N ≤ 150) (h : Rel M N L) : Rel (if (pShore M).1 = -1 then (pShore M).2 else bCpy (pShore M).2 1 197) (qmRead N) L ∧ qrRead N = (if (pShore M).1 = -1 then -10 - (pShore M).2 195 4 else (pShore M).1) := by
  have e19 : N 258 19 = M 195 2 := h.2.2.1.1
  have hqt : rN M = qt N := by unfold rN qt; rw [e19]
  have h2 : _ ≤ M 195 2 ∧ M 195 2 ≤ _ := tv hT (k := 195) (j := 2) (lo := 0) (hi := 150) rfl
  have n0 : ∀ c, c ≠ 271 → qLA N 271 0 c = N c := fun c hc => qLA_c hc
  have n8 : ∀ j, qLA N 271 0 258 j = N 258 j := fun j => congrFun (n0 258 (by decide)) j
  have q0 : qt (qLA N 271 0) = qt N := by unfold qt; rw [n8]
  obtain ⟨f1, f2, f3⟩ := ir_shore (M := M) (N := qLA N 271 0) hT (by rw [q0]; exact hqt) (fun j hj => by rw [n0 270 (by decide)]; exact (h.2.2.1.2 j (by unfold rN at hj; omega)).symm) (by rw [n8]; exact h.2.2.2.2.2.2) (by rw [q0]; exact hN)
  have g1 : ∀ c, c < 195 ∨ c = 196 ∨ 245 ≤ c → (pShore M).2 c = M c := fun c hc => by
    rw [f1.1 c hc, sSt_ne (by omega), bRes_o (by unfold oth; omega)]
  have g2 : (pShore M).2 195 2 = M 195 2 := f1.2
  have k1 : ∀ c, c = 259 ∨ c = 270 ∨ c = 278 ∨ c = 279 → (qpShore (qLA N 271 0)).2 c = N c := fun c hc => by
    rw [f2.1 c (by omega), sSt_ne (by omega), n0 c (by omega)]
  have k3 : (qpShore (qLA N 271 0)).2 258 19 = N 258 19 := f2.2.1.trans (n8 19)
  have k4 : (qpShore (qLA N 271 0)).2 258 23 = N 258 23 := f2.2.2.trans (n8 23)
  have k5 : (qpShore (qLA N 271 0)).2 271 = qLA N 271 0 271 := by rw [f2.1 271 (by decide), sSt_ne (by decide)]
  unfold qmRead qrRead
  generalize hX : pShore M = x at *
  generalize hY : qpShore (qLA N 271 0) = y at *
  obtain ⟨rx, X⟩ := x
  obtain ⟨ry, Y⟩ := y
  rcases f3 with ⟨p1, p2, p3, p4⟩ | ⟨p1, p2, p3⟩
  · have p1' : 0 ≤ rx := p1
    have p2' : rx = ry := p2
    subst p2'
    show Rel (if rx = -1 then X else bCpy X 1 197) (if rx < 0 then qTA Y 271 0 else sSt Y 258 25 0) L ∧ (if rx < 0 then -10 - Y 258 20 else rx) = (if rx = -1 then -10 - X 195 4 else rx)
    rw [if_neg (show ¬ rx = -1 by omega), if_neg (show ¬ rx < 0 by omega), if_neg (show ¬ rx < 0 by omega), if_neg (show ¬ rx = -1 by omega)]
    obtain ⟨c1, ⟨⟨z1, z2, z3, z4⟩, z5, z6, z7⟩, c3, c4⟩ := p3
    have z1' : X 197 11 = 0 := z1
    have z2' : X (197 + 10) 3 = 0 := z2
    have z3' : X (197 + 12) 3 = 0 := z3
    have z4' : X (197 + 14) 3 = 0 := z4
    have z5' : Y 258 5 = 0 := z5
    have z6' : Y 258 6 = 0 := z6
    have z7' : Y 258 7 = 0 := z7
    have hx : RelX X (sSt Y 258 25 0) 197 := ⟨c1, ⟨⟨by rw [z2']; exact z5, by rw [z3']; exact z6, by rw [z4']; exact z7⟩, fun j hj => by rw [z2'] at hj; omega, fun j hj => by rw [z3'] at hj; omega, fun j hj => by rw [z4'] at hj; omega⟩, ru_0 z1' sSt_eq⟩
    refine ⟨⟨rx_cg p4 o197 (fun i j l => cpy_lv l) (fun _ _ _ => rfl) hx, ?_, rest_f hT ?_ (fun c h1 h2 => ?_) ?_ ?_ (fun c hc => ?_) ?_ ?_ h.2.2⟩, rfl⟩
    · rw [show (6 : Nat) = 1 + 5 from rfl, cpy_lv (by unfold lvb; omega)]; exact c3
    · rw [bCpy_out (by omega)]; exact g1 0 (by omega)
    · rw [bCpy_out (by omega)]; exact g1 c (by omega)
    · rw [bCpy_out (by omega)]; exact g2
    · rw [bCpy_out (by omega)]; exact g1 196 (by omega)
    · rw [sSt_ne (by omega)]; exact k1 c hc
    · exact k3
    · exact k4
  · have p1' : rx = -1 := p1
    have p2' : ry = -1 := p2
    subst p1' p2'
    show Rel (if (-1 : Int) = -1 then X else bCpy X 1 197) (if (-1 : Int) < 0 then qTA Y 271 0 else sSt Y 258 25 0) L ∧ (if (-1 : Int) < 0 then -10 - Y 258 20 else -1) = (if (-1 : Int) = -1 then -10 - X 195 4 else -1)
    have p3' : X 195 4 = Y 258 20 := p3
    rw [if_pos rfl, if_pos (by decide), if_pos (by decide), if_pos rfl, p3']
    refine ⟨⟨rx_cg hT ho1 (fun i j l => congrFun (g1 (1 + i) (by unfold lvb at l; omega)) j) (fun k j l => ?_) h.1, ?_, rest_f hT (g1 0 (by omega)) (fun c h1 h2 => g1 c (by omega)) g2 (g1 196 (by omega)) (fun c hc => ?_) k3 k4 h.2.2⟩, rfl⟩
    · rw [qTA_at l]
      show Y 271 _ = _
      have k5' : Y 271 = qLA N 271 0 271 := k5
      rw [k5', qLA_at (pos_lt l), liv_pos l]
    · have e6 : X 6 = M 6 := g1 6 (by omega)
      rw [e6]; exact h.2.1
    · rw [qTA_c (by omega)]; exact k1 c hc
end RR
