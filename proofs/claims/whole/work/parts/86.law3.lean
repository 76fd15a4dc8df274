/-! the law: its cases 14 to 26 -/
section LC
variable {p : Program} {l : Launch} {e : Env} {s : State} {m : MethodId} {below : List Frame} {meth : Method} {c : Code} {D : va_G} {G : sG} {Q : State → Prop} {b Ls i n : Nat} {xs : Nat → Int32} {M : sM} {L : sL}
set_option maxHeartbeats 4000000 in
theorem q_14 (X : lX p s m b c D G Ls xs) (hi : i + 5 ≤ Ls) (h : Inv M L n) (hn : n + 1 ≤ 64) (K : ∀ M2 L2, Inv M2 L2 (n + 1) → lA p l e s m b below meth c D G Q 1230 i [] M2 L2) : lA p l e s m b below meth c D G Q 540 i [] M L := by
  obtain ⟨C, hX, hbl, hbA, hLs⟩ := X
  refine at_aload_n C 2 dL_law_540 rfl ?_
  refine at_scr C hX hbl hbA hLs 1 (by omega) 1 rfl dL_law_541 dL_law_542 dL_law_543 dL_law_544 dL_law_545 ?_
  refine at_scr C hX hbl hbA hLs 2 (by omega) 2 rfl dL_law_546 dL_law_547 dL_law_548 dL_law_549 dL_law_550 ?_
  refine at_call_i C (c_X6_feels l D G ((xs (i + 1)).toInt) ((xs (i + 2)).toInt) (sI_ofR _) (sI_ofR _) h.2.1 (i_ct h)) (As := [.int (sI ((xs (i + 1)).toInt)), .int (sI ((xs (i + 2)).toInt))]) (obj_Sho G) (ci := 6) rfl qw_619 qw_616 qw_1 qw_617 qw_618 ⟨by decide, by decide, show (parseMethodDescriptor yX6_feels.desc).map (fun d => d.parameters.length) = some 2 by decide +kernel⟩ ⟨Nat.le_of_ble_eq_true rfl, Nat.le_of_ble_eq_true rfl⟩ ⟨Nat.le_of_ble_eq_true rfl, Nat.le_of_ble_eq_true rfl⟩ (Nat.le_of_ble_eq_true rfl) dL_law_551 rfl (fun r M1 L1 hp => ?_)
  obtain ⟨rfl, hB, hT1, rfl⟩ := hp
  refine at_aload_n C 1 dL_law_554 rfl ?_
  refine at_scr C hX hbl hbA hLs 1 (by omega) 1 rfl dL_law_555 dL_law_556 dL_law_557 dL_law_558 dL_law_559 ?_
  refine at_scr C hX hbl hbA hLs 2 (by omega) 2 rfl dL_law_560 dL_law_561 dL_law_562 dL_law_563 dL_law_564 ?_
  have hx : okX M M1 := by rw [hB]; exact ox_b
  refine at_call_i C (c_X7_feels l D G ((xs (i + 1)).toInt) ((xs (i + 2)).toInt) (sI_ofR _) (sI_ofR _) hT1 (mid_q h hx)) (As := [.int (sI ((xs (i + 1)).toInt)), .int (sI ((xs (i + 2)).toInt))]) (obj_Ref G) (ci := 7) rfl qw_1248 qw_1245 qw_8 qw_1246 qw_1247 ⟨by decide, by decide, show (parseMethodDescriptor yX7_feels.desc).map (fun d => d.parameters.length) = some 2 by decide +kernel⟩ ⟨Nat.le_of_ble_eq_true rfl, Nat.le_of_ble_eq_true rfl⟩ ⟨Nat.le_of_ble_eq_true rfl, Nat.le_of_ble_eq_true rfl⟩ (Nat.le_of_ble_eq_true rfl) dL_law_565 rfl (fun r2 M2 L2 hp => ?_)
  obtain ⟨rfl, rfl, hT2, rfl⟩ := hp
  obtain ⟨ee, hI⟩ := k_feels h hn ((xs (i + 1)).toInt) ((xs (i + 2)).toInt) hB hT1 hT2
  rw [ee]
  exact at_same C 1230 dL_law_568 (by decide) (K _ _ hI)
set_option maxHeartbeats 4000000 in
theorem q_15 (X : lX p s m b c D G Ls xs) (hi : i + 5 ≤ Ls) (h : Inv M L n) (hn : n + 1 ≤ 64) (K : ∀ M2 L2, Inv M2 L2 (n + 1) → lA p l e s m b below meth c D G Q 1230 i [] M2 L2) : lA p l e s m b below meth c D G Q 573 i [] M L := by
  obtain ⟨C, hX, hbl, hbA, hLs⟩ := X
  refine at_aload_n C 2 dL_law_573 rfl ?_
  refine at_scr C hX hbl hbA hLs 1 (by omega) 1 rfl dL_law_574 dL_law_575 dL_law_576 dL_law_577 dL_law_578 ?_
  refine at_scr C hX hbl hbA hLs 2 (by omega) 2 rfl dL_law_579 dL_law_580 dL_law_581 dL_law_582 dL_law_583 ?_
  refine at_call_i C (c_X6_where l D G ((xs (i + 1)).toInt) ((xs (i + 2)).toInt) (sI_ofR _) (sI_ofR _) h.2.1 (i_ct h)) (As := [.int (sI ((xs (i + 1)).toInt)), .int (sI ((xs (i + 2)).toInt))]) (obj_Sho G) (ci := 6) rfl qw_624 qw_621 qw_1 qw_622 qw_623 ⟨by decide, by decide, show (parseMethodDescriptor yX6_where.desc).map (fun d => d.parameters.length) = some 2 by decide +kernel⟩ ⟨Nat.le_of_ble_eq_true rfl, Nat.le_of_ble_eq_true rfl⟩ ⟨Nat.le_of_ble_eq_true rfl, Nat.le_of_ble_eq_true rfl⟩ (Nat.le_of_ble_eq_true rfl) dL_law_584 rfl (fun r M1 L1 hp => ?_)
  obtain ⟨rfl, hB, hT1, rfl⟩ := hp
  refine at_aload_n C 1 dL_law_587 rfl ?_
  refine at_scr C hX hbl hbA hLs 1 (by omega) 1 rfl dL_law_588 dL_law_589 dL_law_590 dL_law_591 dL_law_592 ?_
  refine at_scr C hX hbl hbA hLs 2 (by omega) 2 rfl dL_law_593 dL_law_594 dL_law_595 dL_law_596 dL_law_597 ?_
  have hx : okX M M1 := by rw [hB]; exact ox_b
  refine at_call_i C (c_X7_where l D G ((xs (i + 1)).toInt) ((xs (i + 2)).toInt) (sI_ofR _) (sI_ofR _) hT1 (mid_q h hx)) (As := [.int (sI ((xs (i + 1)).toInt)), .int (sI ((xs (i + 2)).toInt))]) (obj_Ref G) (ci := 7) rfl qw_1252 qw_1249 qw_8 qw_1250 qw_1251 ⟨by decide, by decide, show (parseMethodDescriptor yX7_where.desc).map (fun d => d.parameters.length) = some 2 by decide +kernel⟩ ⟨Nat.le_of_ble_eq_true rfl, Nat.le_of_ble_eq_true rfl⟩ ⟨Nat.le_of_ble_eq_true rfl, Nat.le_of_ble_eq_true rfl⟩ (Nat.le_of_ble_eq_true rfl) dL_law_598 rfl (fun r2 M2 L2 hp => ?_)
  obtain ⟨rfl, rfl, hT2, rfl⟩ := hp
  obtain ⟨ee, hI⟩ := k_where h hn ((xs (i + 1)).toInt) ((xs (i + 2)).toInt) hB hT1 hT2
  rw [ee]
  exact at_same C 1230 dL_law_601 (by decide) (K _ _ hI)
set_option maxHeartbeats 4000000 in
theorem q_16 (X : lX p s m b c D G Ls xs) (hi : i + 5 ≤ Ls) (h : Inv M L n) (hn : n + 1 ≤ 64) (K : ∀ M2 L2, Inv M2 L2 (n + 1) → lA p l e s m b below meth c D G Q 1230 i [] M2 L2) : lA p l e s m b below meth c D G Q 606 i [] M L := by
  obtain ⟨C, hX, hbl, hbA, hLs⟩ := X
  refine at_aload_n C 2 dL_law_606 rfl ?_
  refine at_scr C hX hbl hbA hLs 1 (by omega) 1 rfl dL_law_607 dL_law_608 dL_law_609 dL_law_610 dL_law_611 ?_
  refine at_scr C hX hbl hbA hLs 2 (by omega) 2 rfl dL_law_612 dL_law_613 dL_law_614 dL_law_615 dL_law_616 ?_
  refine at_call_i C (c_X6_comes l D G ((xs (i + 1)).toInt) ((xs (i + 2)).toInt) (sI_ofR _) (sI_ofR _) h.2.1 (i_ct h)) (As := [.int (sI ((xs (i + 1)).toInt)), .int (sI ((xs (i + 2)).toInt))]) (obj_Sho G) (ci := 6) rfl qw_632 qw_629 qw_1 qw_630 qw_631 ⟨by decide, by decide, show (parseMethodDescriptor yX6_comes.desc).map (fun d => d.parameters.length) = some 2 by decide +kernel⟩ ⟨Nat.le_of_ble_eq_true rfl, Nat.le_of_ble_eq_true rfl⟩ ⟨Nat.le_of_ble_eq_true rfl, Nat.le_of_ble_eq_true rfl⟩ (Nat.le_of_ble_eq_true rfl) dL_law_617 rfl (fun r M1 L1 hp => ?_)
  obtain ⟨rfl, hB, hT1, rfl⟩ := hp
  refine at_aload_n C 1 dL_law_620 rfl ?_
  refine at_scr C hX hbl hbA hLs 1 (by omega) 1 rfl dL_law_621 dL_law_622 dL_law_623 dL_law_624 dL_law_625 ?_
  refine at_scr C hX hbl hbA hLs 2 (by omega) 2 rfl dL_law_626 dL_law_627 dL_law_628 dL_law_629 dL_law_630 ?_
  have hx : okX M M1 := by rw [hB]; exact ox_b
  refine at_call_i C (c_X7_comes l D G ((xs (i + 1)).toInt) ((xs (i + 2)).toInt) (sI_ofR _) (sI_ofR _) hT1 (mid_q h hx)) (As := [.int (sI ((xs (i + 1)).toInt)), .int (sI ((xs (i + 2)).toInt))]) (obj_Ref G) (ci := 7) rfl qw_1260 qw_1257 qw_8 qw_1258 qw_1259 ⟨by decide, by decide, show (parseMethodDescriptor yX7_comes.desc).map (fun d => d.parameters.length) = some 2 by decide +kernel⟩ ⟨Nat.le_of_ble_eq_true rfl, Nat.le_of_ble_eq_true rfl⟩ ⟨Nat.le_of_ble_eq_true rfl, Nat.le_of_ble_eq_true rfl⟩ (Nat.le_of_ble_eq_true rfl) dL_law_631 rfl (fun r2 M2 L2 hp => ?_)
  obtain ⟨rfl, rfl, hT2, rfl⟩ := hp
  obtain ⟨ee, hI⟩ := k_comes h hn ((xs (i + 1)).toInt) ((xs (i + 2)).toInt) hB hT1 hT2
  rw [ee]
  exact at_same C 1230 dL_law_634 (by decide) (K _ _ hI)
set_option maxHeartbeats 4000000 in
theorem q_17 (X : lX p s m b c D G Ls xs) (hi : i + 5 ≤ Ls) (h : Inv M L n) (hn : n + 1 ≤ 64) (K : ∀ M2 L2, Inv M2 L2 (n + 1) → lA p l e s m b below meth c D G Q 1230 i [] M2 L2) : lA p l e s m b below meth c D G Q 639 i [] M L := by
  obtain ⟨C, hX, hbl, hbA, hLs⟩ := X
  refine at_aload_n C 2 dL_law_639 rfl ?_
  refine at_scr C hX hbl hbA hLs 1 (by omega) 1 rfl dL_law_640 dL_law_641 dL_law_642 dL_law_643 dL_law_644 ?_
  refine at_scr C hX hbl hbA hLs 2 (by omega) 2 rfl dL_law_645 dL_law_646 dL_law_647 dL_law_648 dL_law_649 ?_
  refine at_call_i C (c_X6_walk l D G ((xs (i + 1)).toInt) ((xs (i + 2)).toInt) (sI_ofR _) (sI_ofR _) h.2.2.2.1 (i_st h) h.2.1 (i_ct h)) (As := [.int (sI ((xs (i + 1)).toInt)), .int (sI ((xs (i + 2)).toInt))]) (obj_Sho G) (ci := 6) rfl qw_637 qw_634 qw_1 qw_635 qw_636 ⟨by decide, by decide, show (parseMethodDescriptor yX6_walk.desc).map (fun d => d.parameters.length) = some 2 by decide +kernel⟩ ⟨Nat.le_of_ble_eq_true rfl, Nat.le_of_ble_eq_true rfl⟩ ⟨Nat.le_of_ble_eq_true rfl, Nat.le_of_ble_eq_true rfl⟩ (Nat.le_of_ble_eq_true rfl) dL_law_650 rfl (fun r M1 L1 hp => ?_)
  obtain ⟨p1, p2, hT1⟩ := hp
  refine at_aload_n C 1 dL_law_653 rfl ?_
  refine at_scr C hX hbl hbA hLs 1 (by omega) 1 rfl dL_law_654 dL_law_655 dL_law_656 dL_law_657 dL_law_658 ?_
  refine at_scr C hX hbl hbA hLs 2 (by omega) 2 rfl dL_law_659 dL_law_660 dL_law_661 dL_law_662 dL_law_663 ?_
  have hF : ∀ c, 258 ≤ c → M1 c = M c := fun c hc => by
    by_cases z : okWalk M ((xs (i + 1)).toInt) ((xs (i + 2)).toInt)
    · exact (p2 z).2.1 c (by omega)
    · rw [(p1 z).2.1]; exact sSt_ne (by omega)
  refine at_call_i C (c_X7_walk l D G ((xs (i + 1)).toInt) ((xs (i + 2)).toInt) (sI_ofR _) (sI_ofR _) hT1 (mid_qf h hF)) (As := [.int (sI ((xs (i + 1)).toInt)), .int (sI ((xs (i + 2)).toInt))]) (obj_Ref G) (ci := 7) rfl qw_1264 qw_1261 qw_8 qw_1262 qw_1263 ⟨by decide, by decide, show (parseMethodDescriptor yX7_walk.desc).map (fun d => d.parameters.length) = some 2 by decide +kernel⟩ ⟨Nat.le_of_ble_eq_true rfl, Nat.le_of_ble_eq_true rfl⟩ ⟨Nat.le_of_ble_eq_true rfl, Nat.le_of_ble_eq_true rfl⟩ (Nat.le_of_ble_eq_true rfl) dL_law_664 rfl (fun r2 M2 L2 hp => ?_)
  obtain ⟨p3, p4, hT2, p5⟩ := hp
  obtain ⟨r0, rfl, p1, p2⟩ : ∃ r0, r = sI r0 ∧ (¬ okWalk M ((xs (i + 1)).toInt) ((xs (i + 2)).toInt) → r0 = -10 ∧ M1 = sBad M ∧ L = L1) ∧ (okWalk M ((xs (i + 1)).toInt) ((xs (i + 2)).toInt) → wAns M ((xs (i + 1)).toInt) ((xs (i + 2)).toInt) r0 ∧ (∀ c, c < 245 ∨ 252 < c → M1 c = M c) ∧ M1 245 7 ≤ M 245 7 + 20 ∧ (∀ j, M1 250 j ≤ M1 245 7) ∧ (∀ c, c ≠ 245 → c ≠ 248 → c ≠ 249 → L1 c = L c)) := by
    by_cases z : okWalk M ((xs (i + 1)).toInt) ((xs (i + 2)).toInt)
    · obtain ⟨⟨q, q1, q2⟩, q3⟩ := p2 z
      exact ⟨q, q1, fun y => absurd z y, fun _ => ⟨q2, q3⟩⟩
    · exact ⟨-10, (p1 z).1, fun _ => ⟨rfl, (p1 z).2⟩, fun y => absurd y z⟩
  obtain ⟨r1, rfl, p3, p4⟩ : ∃ r1, r2 = sI r1 ∧ (okQW M1 ((xs (i + 1)).toInt) ((xs (i + 2)).toInt) → qwAns M1 ((xs (i + 1)).toInt) ((xs (i + 2)).toInt) r1 ∧ (∀ c, c ≠ 275 → M2 c = M1 c)) ∧ (¬ okQW M1 ((xs (i + 1)).toInt) ((xs (i + 2)).toInt) → r1 = -10 ∧ M2 = qBad M1) := by
    by_cases z : okQW M1 ((xs (i + 1)).toInt) ((xs (i + 2)).toInt)
    · obtain ⟨⟨q, q1, q2⟩, q3⟩ := p3 z
      exact ⟨q, q1, fun _ => ⟨q2, q3⟩, fun y => absurd z y⟩
    · exact ⟨-10, (p4 z).1, fun y => absurd y z, fun _ => ⟨rfl, (p4 z).2⟩⟩
  obtain ⟨ee, hI⟩ := k_walk h hn ((xs (i + 1)).toInt) ((xs (i + 2)).toInt) r0 r1 hT1 hT2 p1 p2 p3 p4 p5
  rw [ee]
  exact at_same C 1230 dL_law_667 (by decide) (K _ _ hI)
set_option maxHeartbeats 4000000 in
theorem q_18 (X : lX p s m b c D G Ls xs) (hi : i + 5 ≤ Ls) (h : Inv M L n) (hn : n + 1 ≤ 64) (K : ∀ M2 L2, Inv M2 L2 (n + 1) → lA p l e s m b below meth c D G Q 1230 i [] M2 L2) : lA p l e s m b below meth c D G Q 672 i [] M L := by
  obtain ⟨C, hX, hbl, hbA, hLs⟩ := X
  refine at_aload_n C 2 dL_law_672 rfl ?_
  refine at_call_i C (c_X6_right l D G h.2.1 (i_ct h)) (As := []) (obj_Sho G) (ci := 6) rfl qw_670 qw_667 qw_1 qw_668 qw_669 ⟨by decide, by decide, show (parseMethodDescriptor yX6_right.desc).map (fun d => d.parameters.length) = some 0 by decide +kernel⟩ ⟨Nat.le_of_ble_eq_true rfl, Nat.le_of_ble_eq_true rfl⟩ ⟨Nat.le_of_ble_eq_true rfl, Nat.le_of_ble_eq_true rfl⟩ (Nat.le_of_ble_eq_true rfl) dL_law_673 rfl (fun r M1 L1 hp => ?_)
  obtain ⟨rfl, rfl, hT1, rfl⟩ := hp
  refine at_aload_n C 1 dL_law_676 rfl ?_
  refine at_call_i C (c_X7_right l D G hT1) (As := []) (obj_Ref G) (ci := 7) rfl qw_1287 qw_1284 qw_8 qw_1285 qw_1286 ⟨by decide, by decide, show (parseMethodDescriptor yX7_right.desc).map (fun d => d.parameters.length) = some 0 by decide +kernel⟩ ⟨Nat.le_of_ble_eq_true rfl, Nat.le_of_ble_eq_true rfl⟩ ⟨Nat.le_of_ble_eq_true rfl, Nat.le_of_ble_eq_true rfl⟩ (Nat.le_of_ble_eq_true rfl) dL_law_677 rfl (fun r2 M2 L2 hp => ?_)
  obtain ⟨rfl, rfl, rfl⟩ := hp
  obtain ⟨ee, hI⟩ := k_right h hn
  rw [ee]
  exact at_same C 1230 dL_law_680 (by decide) (K _ _ hI)
set_option maxHeartbeats 4000000 in
theorem q_19 (X : lX p s m b c D G Ls xs) (hi : i + 5 ≤ Ls) (h : Inv M L n) (hn : n + 1 ≤ 64) (K : ∀ M2 L2, Inv M2 L2 (n + 1) → lA p l e s m b below meth c D G Q 1230 i [] M2 L2) : lA p l e s m b below meth c D G Q 685 i [] M L := by
  obtain ⟨C, hX, hbl, hbA, hLs⟩ := X
  refine at_aload_n C 2 dL_law_685 rfl ?_
  refine at_scr C hX hbl hbA hLs 1 (by omega) 1 rfl dL_law_686 dL_law_687 dL_law_688 dL_law_689 dL_law_690 ?_
  refine at_call_i C (c_X6_order2 l D G ((xs (i + 1)).toInt) (sI_ofR _) h.2.1 (i_ct h)) (As := [.int (sI ((xs (i + 1)).toInt))]) (obj_Sho G) (ci := 6) rfl qw_678 qw_675 qw_1 qw_676 qw_677 ⟨by decide, by decide, show (parseMethodDescriptor yX6_order.desc).map (fun d => d.parameters.length) = some 1 by decide +kernel⟩ ⟨Nat.le_of_ble_eq_true rfl, Nat.le_of_ble_eq_true rfl⟩ ⟨Nat.le_of_ble_eq_true rfl, Nat.le_of_ble_eq_true rfl⟩ (Nat.le_of_ble_eq_true rfl) dL_law_691 rfl (fun r M1 L1 hp => ?_)
  obtain ⟨p1, p2, hT1, rfl⟩ := hp
  refine at_aload_n C 1 dL_law_694 rfl ?_
  refine at_scr C hX hbl hbA hLs 1 (by omega) 1 rfl dL_law_695 dL_law_696 dL_law_697 dL_law_698 dL_law_699 ?_
  have hx : okX M M1 := ox_order h (k := (xs (i + 1)).toInt) (fun z => (p1 z).2) (fun z => (p2 z).imp fun _ q => q.1)
  refine at_call_i C (c_X7_order l D G ((xs (i + 1)).toInt) (sI_ofR _) hT1 (mid_q h hx)) (As := [.int (sI ((xs (i + 1)).toInt))]) (obj_Ref G) (ci := 7) rfl qw_1295 qw_1292 qw_8 qw_1293 qw_1294 ⟨by decide, by decide, show (parseMethodDescriptor yX7_order.desc).map (fun d => d.parameters.length) = some 1 by decide +kernel⟩ ⟨Nat.le_of_ble_eq_true rfl, Nat.le_of_ble_eq_true rfl⟩ ⟨Nat.le_of_ble_eq_true rfl, Nat.le_of_ble_eq_true rfl⟩ (Nat.le_of_ble_eq_true rfl) dL_law_700 rfl (fun r2 M2 L2 hp => ?_)
  obtain ⟨rfl, p3, p4, hT2, rfl⟩ := hp
  obtain ⟨r0, rfl, p1, p2⟩ : ∃ r0, r = sI r0 ∧ ((xs (i + 1)).toInt < -1 → r0 = -10 ∧ M1 = sBad M) ∧ (-1 ≤ (xs (i + 1)).toInt → ∃ K, oRes2 M K M1 ∧ r0 = (if (xs (i + 1)).toInt = -1 then mxV (ordV M) K + bRig M 1 else if (xs (i + 1)).toInt < ordN M then rowN (ordR M) (ordN M) (mxI (ordV M) K) ((xs (i + 1)).toInt).toNat else -5)) := by
    by_cases z : (xs (i + 1)).toInt < -1
    · exact ⟨-10, (p1 z).1, fun _ => ⟨rfl, (p1 z).2⟩, fun y => absurd y (by omega)⟩
    · obtain ⟨K, q1, q2⟩ := p2 (by omega)
      exact ⟨_, q2, fun y => absurd y z, fun _ => ⟨K, q1, rfl⟩⟩
  obtain ⟨ee, hI⟩ := k_order h hn ((xs (i + 1)).toInt) r0 p1 p2 p3 p4 hT1 hT2
  rw [ee]
  exact at_same C 1230 dL_law_703 (by decide) (K _ _ hI)
set_option maxHeartbeats 4000000 in
theorem q_20 (X : lX p s m b c D G Ls xs) (hi : i + 5 ≤ Ls) (h : Inv M L n) (hn : n + 1 ≤ 64) (K : ∀ M2 L2, Inv M2 L2 (n + 1) → lA p l e s m b below meth c D G Q 1230 i [] M2 L2) : lA p l e s m b below meth c D G Q 708 i [] M L := by
  obtain ⟨C, hX, hbl, hbA, hLs⟩ := X
  refine at_aload_n C 2 dL_law_708 rfl ?_
  refine at_call_i C (c_X6_swaps l D G h.2.1 (i_ct h)) (As := []) (obj_Sho G) (ci := 6) rfl qw_716 qw_713 qw_1 qw_714 qw_715 ⟨by decide, by decide, show (parseMethodDescriptor yX6_swaps.desc).map (fun d => d.parameters.length) = some 0 by decide +kernel⟩ ⟨Nat.le_of_ble_eq_true rfl, Nat.le_of_ble_eq_true rfl⟩ ⟨Nat.le_of_ble_eq_true rfl, Nat.le_of_ble_eq_true rfl⟩ (Nat.le_of_ble_eq_true rfl) dL_law_709 rfl (fun r M1 L1 hp => ?_)
  obtain ⟨rfl, hB, hT1, rfl⟩ := hp
  refine at_aload_n C 1 dL_law_712 rfl ?_
  refine at_call_i C (c_X7_swaps l D G hT1) (As := []) (obj_Ref G) (ci := 7) rfl qw_1307 qw_1304 qw_8 qw_1305 qw_1306 ⟨by decide, by decide, show (parseMethodDescriptor yX7_swaps.desc).map (fun d => d.parameters.length) = some 0 by decide +kernel⟩ ⟨Nat.le_of_ble_eq_true rfl, Nat.le_of_ble_eq_true rfl⟩ ⟨Nat.le_of_ble_eq_true rfl, Nat.le_of_ble_eq_true rfl⟩ (Nat.le_of_ble_eq_true rfl) dL_law_713 rfl (fun r2 M2 L2 hp => ?_)
  obtain ⟨rfl, rfl, rfl⟩ := hp
  obtain ⟨ee, hI⟩ := k_swaps h hn hB hT1
  rw [ee]
  exact at_same C 1230 dL_law_716 (by decide) (K _ _ hI)
set_option maxHeartbeats 4000000 in
theorem q_21 (X : lX p s m b c D G Ls xs) (hi : i + 5 ≤ Ls) (h : Inv M L n) (hn : n + 1 ≤ 64) (K : ∀ M2 L2, Inv M2 L2 (n + 1) → lA p l e s m b below meth c D G Q 1230 i [] M2 L2) : lA p l e s m b below meth c D G Q 721 i [] M L := by
  obtain ⟨C, hX, hbl, hbA, hLs⟩ := X
  refine at_aload_n C 2 dL_law_721 rfl ?_
  refine at_scr C hX hbl hbA hLs 1 (by omega) 1 rfl dL_law_722 dL_law_723 dL_law_724 dL_law_725 dL_law_726 ?_
  refine at_scr C hX hbl hbA hLs 2 (by omega) 2 rfl dL_law_727 dL_law_728 dL_law_729 dL_law_730 dL_law_731 ?_
  refine at_call_i C (c_X6_seen l D G ((xs (i + 1)).toInt) ((xs (i + 2)).toInt) (sI_ofR _) (sI_ofR _) h.2.1 (i_ct h)) (As := [.int (sI ((xs (i + 1)).toInt)), .int (sI ((xs (i + 2)).toInt))]) (obj_Sho G) (ci := 6) rfl qw_722 qw_719 qw_1 qw_720 qw_721 ⟨by decide, by decide, show (parseMethodDescriptor yX6_seen.desc).map (fun d => d.parameters.length) = some 2 by decide +kernel⟩ ⟨Nat.le_of_ble_eq_true rfl, Nat.le_of_ble_eq_true rfl⟩ ⟨Nat.le_of_ble_eq_true rfl, Nat.le_of_ble_eq_true rfl⟩ (Nat.le_of_ble_eq_true rfl) dL_law_732 rfl (fun r M1 L1 hp => ?_)
  obtain ⟨rfl, rfl, hT1, rfl⟩ := hp
  refine at_aload_n C 1 dL_law_735 rfl ?_
  refine at_scr C hX hbl hbA hLs 1 (by omega) 1 rfl dL_law_736 dL_law_737 dL_law_738 dL_law_739 dL_law_740 ?_
  refine at_scr C hX hbl hbA hLs 2 (by omega) 2 rfl dL_law_741 dL_law_742 dL_law_743 dL_law_744 dL_law_745 ?_
  refine at_call_i C (c_X7_seen l D G ((xs (i + 1)).toInt) ((xs (i + 2)).toInt) (sI_ofR _) (sI_ofR _) hT1 (mid_q h ox_seen)) (As := [.int (sI ((xs (i + 1)).toInt)), .int (sI ((xs (i + 2)).toInt))]) (obj_Ref G) (ci := 7) rfl qw_1315 qw_1312 qw_8 qw_1313 qw_1314 ⟨by decide, by decide, show (parseMethodDescriptor yX7_seen.desc).map (fun d => d.parameters.length) = some 2 by decide +kernel⟩ ⟨Nat.le_of_ble_eq_true rfl, Nat.le_of_ble_eq_true rfl⟩ ⟨Nat.le_of_ble_eq_true rfl, Nat.le_of_ble_eq_true rfl⟩ (Nat.le_of_ble_eq_true rfl) dL_law_746 rfl (fun r2 M2 L2 hp => ?_)
  obtain ⟨rfl, rfl, hT2, rfl⟩ := hp
  obtain ⟨ee, hI⟩ := k_seen h hn _ _ hT1 hT2
  rw [ee]
  exact at_same C 1230 dL_law_749 (by decide) (K _ _ hI)
set_option maxHeartbeats 4000000 in
theorem q_22 (X : lX p s m b c D G Ls xs) (hi : i + 5 ≤ Ls) (h : Inv M L n) (hn : n + 1 ≤ 64) (K : ∀ M2 L2, Inv M2 L2 (n + 1) → lA p l e s m b below meth c D G Q 1230 i [] M2 L2) : lA p l e s m b below meth c D G Q 754 i [] M L := by
  obtain ⟨C, hX, hbl, hbA, hLs⟩ := X
  refine at_aload_n C 2 dL_law_754 rfl ?_
  refine at_call_i C (c_X6_which l D G h.2.1 (i_ct h)) (As := []) (obj_Sho G) (ci := 6) rfl qw_734 qw_731 qw_1 qw_732 qw_733 ⟨by decide, by decide, show (parseMethodDescriptor yX6_which.desc).map (fun d => d.parameters.length) = some 0 by decide +kernel⟩ ⟨Nat.le_of_ble_eq_true rfl, Nat.le_of_ble_eq_true rfl⟩ ⟨Nat.le_of_ble_eq_true rfl, Nat.le_of_ble_eq_true rfl⟩ (Nat.le_of_ble_eq_true rfl) dL_law_755 rfl (fun r M1 L1 hp => ?_)
  obtain ⟨rfl, rfl, hT1, rfl⟩ := hp
  refine at_aload_n C 1 dL_law_758 rfl ?_
  refine at_call_i C (c_X7_which l D G hT1) (As := []) (obj_Ref G) (ci := 7) rfl qw_1319 qw_1316 qw_8 qw_1317 qw_1318 ⟨by decide, by decide, show (parseMethodDescriptor yX7_which.desc).map (fun d => d.parameters.length) = some 0 by decide +kernel⟩ ⟨Nat.le_of_ble_eq_true rfl, Nat.le_of_ble_eq_true rfl⟩ ⟨Nat.le_of_ble_eq_true rfl, Nat.le_of_ble_eq_true rfl⟩ (Nat.le_of_ble_eq_true rfl) dL_law_759 rfl (fun r2 M2 L2 hp => ?_)
  obtain ⟨rfl, rfl, rfl⟩ := hp
  obtain ⟨ee, hI⟩ := k_which h hn
  rw [ee]
  exact at_same C 1230 dL_law_762 (by decide) (K _ _ hI)
set_option maxHeartbeats 4000000 in
theorem q_23 (X : lX p s m b c D G Ls xs) (hi : i + 5 ≤ Ls) (h : Inv M L n) (hn : n + 1 ≤ 64) (K : ∀ M2 L2, Inv M2 L2 (n + 1) → lA p l e s m b below meth c D G Q 1230 i [] M2 L2) : lA p l e s m b below meth c D G Q 767 i [] M L := by
  obtain ⟨C, hX, hbl, hbA, hLs⟩ := X
  refine at_aload_n C 2 dL_law_767 rfl ?_
  refine at_call_i C (c_X6_tell l D G h.2.1 (i_ct h)) (As := []) (obj_Sho G) (ci := 6) rfl qw_747 qw_744 qw_1 qw_745 qw_746 ⟨by decide, by decide, show (parseMethodDescriptor yX6_tell.desc).map (fun d => d.parameters.length) = some 0 by decide +kernel⟩ ⟨Nat.le_of_ble_eq_true rfl, Nat.le_of_ble_eq_true rfl⟩ ⟨Nat.le_of_ble_eq_true rfl, Nat.le_of_ble_eq_true rfl⟩ (Nat.le_of_ble_eq_true rfl) dL_law_768 rfl (fun r M1 L1 hp => ?_)
  obtain ⟨rfl, hB, hT1, rfl⟩ := hp
  refine at_aload_n C 1 dL_law_771 rfl ?_
  refine at_call_i C (c_X7_tell l D G hT1) (As := []) (obj_Ref G) (ci := 7) rfl qw_1327 qw_1324 qw_8 qw_1325 qw_1326 ⟨by decide, by decide, show (parseMethodDescriptor yX7_tell.desc).map (fun d => d.parameters.length) = some 0 by decide +kernel⟩ ⟨Nat.le_of_ble_eq_true rfl, Nat.le_of_ble_eq_true rfl⟩ ⟨Nat.le_of_ble_eq_true rfl, Nat.le_of_ble_eq_true rfl⟩ (Nat.le_of_ble_eq_true rfl) dL_law_772 rfl (fun r2 M2 L2 hp => ?_)
  obtain ⟨rfl, rfl, rfl⟩ := hp
  obtain ⟨ee, hI⟩ := k_tell h hn hB hT1
  rw [ee]
  exact at_same C 1230 dL_law_775 (by decide) (K _ _ hI)
set_option maxHeartbeats 4000000 in
theorem q_24 (X : lX p s m b c D G Ls xs) (hi : i + 5 ≤ Ls) (h : Inv M L n) (hn : n + 1 ≤ 64) (K : ∀ M2 L2, Inv M2 L2 (n + 1) → lA p l e s m b below meth c D G Q 1230 i [] M2 L2) : lA p l e s m b below meth c D G Q 780 i [] M L := by
  obtain ⟨C, hX, hbl, hbA, hLs⟩ := X
  refine at_aload_n C 2 dL_law_780 rfl ?_
  refine at_scr C hX hbl hbA hLs 1 (by omega) 1 rfl dL_law_781 dL_law_782 dL_law_783 dL_law_784 dL_law_785 ?_
  refine at_scr C hX hbl hbA hLs 2 (by omega) 2 rfl dL_law_786 dL_law_787 dL_law_788 dL_law_789 dL_law_790 ?_
  refine at_scr C hX hbl hbA hLs 3 (by omega) 3 rfl dL_law_791 dL_law_792 dL_law_793 dL_law_794 dL_law_795 ?_
  refine at_scr C hX hbl hbA hLs 4 (by omega) 4 rfl dL_law_796 dL_law_797 dL_law_798 dL_law_799 dL_law_800 ?_
  refine at_call_i C (c_X6_note l D G ((xs (i + 1)).toInt) ((xs (i + 2)).toInt) ((xs (i + 3)).toInt) ((xs (i + 4)).toInt) (sI_ofR _) (sI_ofR _) (sI_ofR _) (sI_ofR _) h.2.1 (i_ct h)) (As := [.int (sI ((xs (i + 1)).toInt)), .int (sI ((xs (i + 2)).toInt)), .int (sI ((xs (i + 3)).toInt)), .int (sI ((xs (i + 4)).toInt))]) (obj_Sho G) (ci := 6) rfl qw_756 qw_753 qw_1 qw_754 qw_755 ⟨by decide, by decide, show (parseMethodDescriptor yX6_note.desc).map (fun d => d.parameters.length) = some 4 by decide +kernel⟩ ⟨Nat.le_of_ble_eq_true rfl, Nat.le_of_ble_eq_true rfl⟩ ⟨Nat.le_of_ble_eq_true rfl, Nat.le_of_ble_eq_true rfl⟩ (Nat.le_of_ble_eq_true rfl) dL_law_801 rfl (fun r M1 L1 hp => ?_)
  obtain ⟨rfl, rfl, hT1, rfl⟩ := hp
  refine at_aload_n C 1 dL_law_804 rfl ?_
  refine at_scr C hX hbl hbA hLs 1 (by omega) 1 rfl dL_law_805 dL_law_806 dL_law_807 dL_law_808 dL_law_809 ?_
  refine at_scr C hX hbl hbA hLs 2 (by omega) 2 rfl dL_law_810 dL_law_811 dL_law_812 dL_law_813 dL_law_814 ?_
  refine at_scr C hX hbl hbA hLs 3 (by omega) 3 rfl dL_law_815 dL_law_816 dL_law_817 dL_law_818 dL_law_819 ?_
  refine at_scr C hX hbl hbA hLs 4 (by omega) 4 rfl dL_law_820 dL_law_821 dL_law_822 dL_law_823 dL_law_824 ?_
  refine at_call_i C (c_X7_note l D G ((xs (i + 1)).toInt) ((xs (i + 2)).toInt) ((xs (i + 3)).toInt) ((xs (i + 4)).toInt) (sI_ofR _) (sI_ofR _) (sI_ofR _) (sI_ofR _) hT1 (mid_q h ox_note)) (As := [.int (sI ((xs (i + 1)).toInt)), .int (sI ((xs (i + 2)).toInt)), .int (sI ((xs (i + 3)).toInt)), .int (sI ((xs (i + 4)).toInt))]) (obj_Ref G) (ci := 7) rfl qw_1332 qw_1329 qw_8 qw_1330 qw_1331 ⟨by decide, by decide, show (parseMethodDescriptor yX7_note.desc).map (fun d => d.parameters.length) = some 4 by decide +kernel⟩ ⟨Nat.le_of_ble_eq_true rfl, Nat.le_of_ble_eq_true rfl⟩ ⟨Nat.le_of_ble_eq_true rfl, Nat.le_of_ble_eq_true rfl⟩ (Nat.le_of_ble_eq_true rfl) dL_law_825 rfl (fun r2 M2 L2 hp => ?_)
  obtain ⟨rfl, rfl, hT2, rfl⟩ := hp
  obtain ⟨ee, hI⟩ := k_note h hn _ _ _ _ hT1 hT2
  rw [ee]
  exact at_same C 1230 dL_law_828 (by decide) (K _ _ hI)
set_option maxHeartbeats 4000000 in
theorem q_25 (X : lX p s m b c D G Ls xs) (hi : i + 5 ≤ Ls) (h : Inv M L n) (hn : n + 1 ≤ 64) (K : ∀ M2 L2, Inv M2 L2 (n + 1) → lA p l e s m b below meth c D G Q 1230 i [] M2 L2) : lA p l e s m b below meth c D G Q 833 i [] M L := by
  obtain ⟨C, hX, hbl, hbA, hLs⟩ := X
  refine at_aload_n C 2 dL_law_833 rfl ?_
  refine at_scr C hX hbl hbA hLs 1 (by omega) 1 rfl dL_law_834 dL_law_835 dL_law_836 dL_law_837 dL_law_838 ?_
  refine at_scr C hX hbl hbA hLs 2 (by omega) 2 rfl dL_law_839 dL_law_840 dL_law_841 dL_law_842 dL_law_843 ?_
  refine at_scr C hX hbl hbA hLs 3 (by omega) 3 rfl dL_law_844 dL_law_845 dL_law_846 dL_law_847 dL_law_848 ?_
  refine at_call_i C (c_X6_mark l D G ((xs (i + 1)).toInt) ((xs (i + 2)).toInt) ((xs (i + 3)).toInt) (sI_ofR _) (sI_ofR _) (sI_ofR _) h.2.1 (i_ct h)) (As := [.int (sI ((xs (i + 1)).toInt)), .int (sI ((xs (i + 2)).toInt)), .int (sI ((xs (i + 3)).toInt))]) (obj_Sho G) (ci := 6) rfl qw_760 qw_757 qw_1 qw_758 qw_759 ⟨by decide, by decide, show (parseMethodDescriptor yX6_mark.desc).map (fun d => d.parameters.length) = some 3 by decide +kernel⟩ ⟨Nat.le_of_ble_eq_true rfl, Nat.le_of_ble_eq_true rfl⟩ ⟨Nat.le_of_ble_eq_true rfl, Nat.le_of_ble_eq_true rfl⟩ (Nat.le_of_ble_eq_true rfl) dL_law_849 rfl (fun r M1 L1 hp => ?_)
  obtain ⟨rfl, rfl, hT1, rfl⟩ := hp
  refine at_aload_n C 1 dL_law_852 rfl ?_
  refine at_scr C hX hbl hbA hLs 1 (by omega) 1 rfl dL_law_853 dL_law_854 dL_law_855 dL_law_856 dL_law_857 ?_
  refine at_scr C hX hbl hbA hLs 2 (by omega) 2 rfl dL_law_858 dL_law_859 dL_law_860 dL_law_861 dL_law_862 ?_
  refine at_scr C hX hbl hbA hLs 3 (by omega) 3 rfl dL_law_863 dL_law_864 dL_law_865 dL_law_866 dL_law_867 ?_
  refine at_call_i C (c_X7_mark l D G ((xs (i + 1)).toInt) ((xs (i + 2)).toInt) ((xs (i + 3)).toInt) (sI_ofR _) (sI_ofR _) (sI_ofR _) hT1 (mid_q h ox_mark)) (As := [.int (sI ((xs (i + 1)).toInt)), .int (sI ((xs (i + 2)).toInt)), .int (sI ((xs (i + 3)).toInt))]) (obj_Ref G) (ci := 7) rfl qw_1336 qw_1333 qw_8 qw_1334 qw_1335 ⟨by decide, by decide, show (parseMethodDescriptor yX7_mark.desc).map (fun d => d.parameters.length) = some 3 by decide +kernel⟩ ⟨Nat.le_of_ble_eq_true rfl, Nat.le_of_ble_eq_true rfl⟩ ⟨Nat.le_of_ble_eq_true rfl, Nat.le_of_ble_eq_true rfl⟩ (Nat.le_of_ble_eq_true rfl) dL_law_868 rfl (fun r2 M2 L2 hp => ?_)
  obtain ⟨rfl, rfl, hT2, rfl⟩ := hp
  obtain ⟨ee, hI⟩ := k_mark h hn _ _ _ hT1 hT2
  rw [ee]
  exact at_same C 1230 dL_law_871 (by decide) (K _ _ hI)
set_option maxHeartbeats 4000000 in
theorem q_26 (X : lX p s m b c D G Ls xs) (hi : i + 5 ≤ Ls) (h : Inv M L n) (hn : n + 1 ≤ 64) (K : ∀ M2 L2, Inv M2 L2 (n + 1) → lA p l e s m b below meth c D G Q 1230 i [] M2 L2) : lA p l e s m b below meth c D G Q 876 i [] M L := by
  obtain ⟨C, hX, hbl, hbA, hLs⟩ := X
  refine at_aload_n C 2 dL_law_876 rfl ?_
  refine at_scr C hX hbl hbA hLs 1 (by omega) 1 rfl dL_law_877 dL_law_878 dL_law_879 dL_law_880 dL_law_881 ?_
  refine at_call_i C (c_X6_forget l D G ((xs (i + 1)).toInt) (sI_ofR _) h.2.1 (i_ct h)) (As := [.int (sI ((xs (i + 1)).toInt))]) (obj_Sho G) (ci := 6) rfl qw_764 qw_761 qw_1 qw_762 qw_763 ⟨by decide, by decide, show (parseMethodDescriptor yX6_forget.desc).map (fun d => d.parameters.length) = some 1 by decide +kernel⟩ ⟨Nat.le_of_ble_eq_true rfl, Nat.le_of_ble_eq_true rfl⟩ ⟨Nat.le_of_ble_eq_true rfl, Nat.le_of_ble_eq_true rfl⟩ (Nat.le_of_ble_eq_true rfl) dL_law_882 rfl (fun r M1 L1 hp => ?_)
  obtain ⟨rfl, rfl, hT1, rfl⟩ := hp
  refine at_aload_n C 1 dL_law_885 rfl ?_
  refine at_scr C hX hbl hbA hLs 1 (by omega) 1 rfl dL_law_886 dL_law_887 dL_law_888 dL_law_889 dL_law_890 ?_
  refine at_call_i C (c_X7_forget l D G ((xs (i + 1)).toInt) (sI_ofR _) hT1 (mid_q h ox_forget)) (As := [.int (sI ((xs (i + 1)).toInt))]) (obj_Ref G) (ci := 7) rfl qw_1340 qw_1337 qw_8 qw_1338 qw_1339 ⟨by decide, by decide, show (parseMethodDescriptor yX7_forget.desc).map (fun d => d.parameters.length) = some 1 by decide +kernel⟩ ⟨Nat.le_of_ble_eq_true rfl, Nat.le_of_ble_eq_true rfl⟩ ⟨Nat.le_of_ble_eq_true rfl, Nat.le_of_ble_eq_true rfl⟩ (Nat.le_of_ble_eq_true rfl) dL_law_891 rfl (fun r2 M2 L2 hp => ?_)
  obtain ⟨rfl, rfl, hT2, rfl⟩ := hp
  obtain ⟨ee, hI⟩ := k_forget h hn _ hT1 hT2
  rw [ee]
  exact at_same C 1230 dL_law_894 (by decide) (K _ _ hI)
end LC
