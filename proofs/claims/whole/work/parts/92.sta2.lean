/-! the law from its entry -/
section WS
set_option maxHeartbeats 4000000 in
set_option maxRecDepth 100000 in
theorem lw_sXt {p : Program} {s : State} {m : MethodId} {meth : Method} {c : Code} {b Ls : Nat} {xs : Nat → Int32} (C0 : lw_At p s m meth c b Ls xs) (a1 a2 : Nat → Nat) (K : Nat → ClassId) : ∃ t : Nat → Nat, (∀ k, k < 280 → s.heap.size ≤ gI a1 a2 t k) → sXt (gI a1 a2 t, K) s.heap.size s s.heap := by
  obtain ⟨hx, hb, hr, hml, hown0, hts, hX, hbl, hlocks, hgv⟩ := id C0
  have hAA : ∀ a : Nat, a < s.heap.size → ¬ (fun q : Nat => s.heap.size ≤ q) a := fun a h1 h2 => absurd h1 (Nat.not_lt.mpr h2)
  obtain ⟨adK, adV, hSt, hEv⟩ := en_S hgv hAA
  have hC := en_C hgv hts hAA
  have hF := en_F hgv hts hAA
  obtain ⟨t, ht⟩ : ∃ t : Nat → Nat, t = fun k => if k < 310 then adK (k - 300) else adV (k - 310) := ⟨_, rfl⟩
  have e1 : ∀ i, i < 6 → gI a1 a2 t (300 + i) = adK i := fun i hi => by
    unfold gI
    rw [if_neg (by omega), if_neg (by omega), ht]
    show (if 300 + i < 310 then adK (300 + i - 300) else adV (300 + i - 310)) = adK i
    rw [if_pos (by omega), Nat.add_sub_cancel_left]
  have e2 : ∀ i, i < 6 → gI a1 a2 t (310 + i) = adV i := fun i hi => by
    unfold gI
    rw [if_neg (by omega), if_neg (by omega), ht]
    show (if 310 + i < 310 then adK (310 + i - 300) else adV (310 + i - 310)) = adV i
    rw [if_neg (by omega), Nat.add_sub_cancel_left]
  refine ⟨t, fun hG => ?_⟩
  have hAs : ∀ q, sA (gI a1 a2 t, K) s.heap.size q → (fun q : Nat => s.heap.size ≤ q) q := fun q z => by
    rcases z with ⟨k, hk, rfl⟩ | z
    · exact hG k hk
    · exact z
  have hS2 := hSt.narrow hAs
  refine ⟨⟨fun i hi => ?_, fun i j hi hj e => ?_⟩, hC.narrow hAs, hF.narrow hAs, fun i hi => ?_, en_Nw hts⟩
  · have z := hS2.1 i hi
    rw [← e1 i hi, ← e2 i hi] at z
    exact z
  · refine hS2.2 i j hi hj ?_
    rw [← e1 i hi, ← e1 j hj]
    exact e
  · refine vk_R.of (en_str hts i hi) ?_
    have z := hEv i hi
    rw [← e1 i hi] at z
    exact z
theorem lw_0 : Inv mI lI 0 := by
  have a := fun j => mI_0 (k := 250) j (by decide) (fun o ho => by unfold isB at ho; omega)
  have b := mI_0 (k := 245) 7 (by decide) (fun o ho => by unfold isB at ho; omega)
  refine ⟨by decide, mI_T, mI_R, fun j => ?_, ?_, by decide, by decide, by decide⟩
  · have := a j
    omega
  · omega
set_option maxHeartbeats 8000000 in
set_option maxRecDepth 100000 in
theorem whole_start {p : Program} {e : Env} {s : State} {m : MethodId} {below : List Frame} {meth : Method} {c : Code} (l : Launch) (hflags : l.flags = flags0) {b L : Nat} {xs : Nat → Int32} (hL : L ≤ 320) (C0 : lw_At p s m meth c b L xs) : W p l e room_1 s m #[Value.ref b] below meth c s.heap [] 0 0 (lw_Z below #[Value.ref b] s) (entryFrame m ([Value.ref b] : List Value).toArray 4) := by
  obtain ⟨hx, hb, hr, hml, hown0, hts, hX, hbl, hlocks, hgv⟩ := id C0
  have hown : s.vm.findClass RL = some m.cls := hown0
  have hs : ∀ w ∈ so_tbl, w.before #[Value.ref b] s = true := fun w hw => hts w (List.mem_filter.mp hw).1
  have hA : ∀ q : Nat, s.heap.size ≤ q → (fun q : Nat => s.heap.size ≤ q) q := fun _ h => h
  obtain ⟨D, hKc⟩ := en_cls hs
  obtain ⟨K, hKa⟩ := en_arr hts
  have hK : va_K D clX (tyK K) s := ⟨hKc, hKa⟩
  have hE : xE s := en_xE hts
  have hS : va_S (fun q : Nat => s.heap.size ≤ q) s.heap s.heap [] := va_S.rf
  have hP : va_P D clX [] s.heap := fun k q h => by simp at h
  have hD : va_D (fun q : Nat => s.heap.size ≤ q) [] := ⟨fun i j p q h => by simp at h, fun k q h => by simp at h⟩
  have hl := lv_entry ([.ref b]) (n := 4) (Nat.le_of_ble_eq_true rfl)
  rw [lg_entry_eq]
  generalize (lg_sl ([.ref b]) ++ List.replicate (4 - (lg_sl ([.ref b])).length) Slot.unset).toArray = ls at hl ⊢
  have hl : lv_has ls 4 [(0, .ref b)] := hl
  refine va_new (ci := 6) (fs := [.null, .null, .null, .null, .null, .null, .null, .null, .int 0, .int 0, .int 0, .int 0, .int 0]) (C := RX6) (T := TX6) (N := 13) hx hb hs inX6 tyX6 tyX6_ok hown (hs (.classLink RL 7 RX6) (so_in qw_15 rfl)) (hs (.instantiable RX6 13) (so_in qw_16 rfl)) (hs (.initialized RX6) (so_in qw_1 rfl)) hK hP hD hS hA rfl (fun j hj => by rcases (show j = 0 ∨ j = 1 ∨ j = 2 ∨ j = 3 ∨ j = 4 ∨ j = 5 ∨ j = 6 ∨ j = 7 ∨ j = 8 ∨ j = 9 ∨ j = 10 ∨ j = 11 ∨ j = 12 by omega) with rfl | rfl | rfl | rfl | rfl | rfl | rfl | rfl | rfl | rfl | rfl | rfl | rfl <;> rfl) (Nat.le_of_ble_eq_true rfl) (Nat.le_of_ble_eq_true rfl) dL_law_0 (fun o1 H hP hD hS => ?_)
  have hP : va_P D clX [(o1, .inr (6, [.null, .null, .null, .null, .null, .null, .null, .null, .int 0, .int 0, .int 0, .int 0, .int 0]))] H := hP
  have hD : va_D (fun q : Nat => s.heap.size ≤ q) [(o1, .inr (6, [.null, .null, .null, .null, .null, .null, .null, .null, .int 0, .int 0, .int 0, .int 0, .int 0]))] := hD
  refine lv_dup hx hb dL_law_3 rfl ?_
  have hPc := hP.sub (ws' := [(o1, .inr (6, [.null, .null, .null, .null, .null, .null, .null, .null, .int 0, .int 0, .int 0, .int 0, .int 0]))]) [0] rfl
  have hDc := hD.sub (ws' := [(o1, .inr (6, [.null, .null, .null, .null, .null, .null, .null, .null, .int 0, .int 0, .int 0, .int 0, .int 0]))]) [0] (by decide) rfl
  have hFc := va_free (wc := [(o1, .inr (6, [.null, .null, .null, .null, .null, .null, .null, .null, .int 0, .int 0, .int 0, .int 0, .int 0]))]) hD hS hA [0] rfl
  refine va_callv (va_runI (As := []) (rest := [.ref o1]) ⟨hx, hb, hml, hown, hs⟩ (c_X6_init l D K o1 H.size) ⟨callB_of 0 hs (so_good qw_19 rfl) rfl rfl rfl (hs (.initialized RX6) (so_in qw_1 rfl)) (hs (.methodLink RL 9 yX6_init) (so_in qw_17 rfl)) ⟨by decide +kernel, by decide +kernel, by decide +kernel⟩ ⟨Nat.le_of_ble_eq_true rfl, Nat.le_of_ble_eq_true rfl⟩, rfl, hs (.instanceMethod yX6_init) (so_in qw_18 rfl)⟩ ⟨fun a U g mk q => by obtain ⟨q0, q1, qP, qK, qD, qE⟩ := q; exact ⟨q0, q1, qP, va_K.moved (u := U) (U := U.calling g mk a) (Vm.Alike.refl U.vm) qK, qD, xE_c (U := U) (V := U.calling g mk a) rfl (Vm.Alike.refl U.vm) qE⟩, fun U hU hW => ⟨rfl, by rw [hU], by rw [hU]; exact hPc, va_K.moved hW.alike hK, hDc.weaken (fun _ _ _ _ => trivial), xE_w hW hE⟩⟩ rfl rfl hl.1 rfl (lv_room (Nat.le_of_ble_eq_true rfl)) dL_law_4 ⟨Nat.le_of_ble_eq_true rfl, Nat.le_of_ble_eq_true rfl⟩) hS (fun q _ h => hFc q h) hFc (fun a1 t H1 locs ht hvm hw hB hz1 hk1 hS => ?_)
  obtain ⟨hP1, hK1, hD1⟩ := hB
  rw [ht] at hP1
  obtain ⟨hP2, hD2⟩ := va_join (wr := []) (w1 := wSh0 a1 K) hP hD [0] [] rfl rfl (by decide) (by decide) hk1 hFc hP1 hD1
  clear hPc hDc hFc hP1 hK1 hD1
  generalize H1 = H at hP2 hS ⊢
  obtain rfl : o1 = a1 0 := hw.symm
  have hP : va_P D clX (wSh0 a1 K) H := hP2
  have hD : va_D (fun q : Nat => s.heap.size ≤ q) (wSh0 a1 K) := hD2
  refine lv_astore_n (lv' := [(1, .ref (a1 0)), (0, .ref b)]) hx hb dL_law_7 rfl hl (by decide) rfl (fun ls hl => ?_)
  refine va_new (ci := 7) (fs := [.null, .int 0, .int 0, .int 0, .int 0, .int 0, .int 0, .int 0, .null, .null, .null, .null, .null, .null, .null, .null, .null, .null, .null, .int 0, .int 0, .int 0, .null, .int 0, .null, .int 0, .null, .null, .null, .null, .null, .long 0, .long 0, .null, .null, .long 0]) (C := RX7) (T := TX7) (N := 36) hx hb hs inX7 tyX7 tyX7_ok hown (hs (.classLink RL 10 RX7) (so_in qw_872 rfl)) (hs (.instantiable RX7 36) (so_in qw_873 rfl)) (hs (.initialized RX7) (so_in qw_8 rfl)) hK hP hD hS hA rfl (fun j hj => by rcases (show j = 0 ∨ j = 1 ∨ j = 2 ∨ j = 3 ∨ j = 4 ∨ j = 5 ∨ j = 6 ∨ j = 7 ∨ j = 8 ∨ j = 9 ∨ j = 10 ∨ j = 11 ∨ j = 12 ∨ j = 13 ∨ j = 14 ∨ j = 15 ∨ j = 16 ∨ j = 17 ∨ j = 18 ∨ j = 19 ∨ j = 20 ∨ j = 21 ∨ j = 22 ∨ j = 23 ∨ j = 24 ∨ j = 25 ∨ j = 26 ∨ j = 27 ∨ j = 28 ∨ j = 29 ∨ j = 30 ∨ j = 31 ∨ j = 32 ∨ j = 33 ∨ j = 34 ∨ j = 35 by omega) with rfl | rfl | rfl | rfl | rfl | rfl | rfl | rfl | rfl | rfl | rfl | rfl | rfl | rfl | rfl | rfl | rfl | rfl | rfl | rfl | rfl | rfl | rfl | rfl | rfl | rfl | rfl | rfl | rfl | rfl | rfl | rfl | rfl | rfl | rfl | rfl <;> rfl) (Nat.le_of_ble_eq_true rfl) (Nat.le_of_ble_eq_true rfl) dL_law_8 (fun o2 H hP hD hS => ?_)
  have hP : va_P D clX (wSh0 a1 K ++ [(o2, .inr (7, [.null, .int 0, .int 0, .int 0, .int 0, .int 0, .int 0, .int 0, .null, .null, .null, .null, .null, .null, .null, .null, .null, .null, .null, .int 0, .int 0, .int 0, .null, .int 0, .null, .int 0, .null, .null, .null, .null, .null, .long 0, .long 0, .null, .null, .long 0]))]) H := hP
  have hD : va_D (fun q : Nat => s.heap.size ≤ q) (wSh0 a1 K ++ [(o2, .inr (7, [.null, .int 0, .int 0, .int 0, .int 0, .int 0, .int 0, .int 0, .null, .null, .null, .null, .null, .null, .null, .null, .null, .null, .null, .int 0, .int 0, .int 0, .null, .int 0, .null, .int 0, .null, .null, .null, .null, .null, .long 0, .long 0, .null, .null, .long 0]))]) := hD
  refine lv_dup hx hb dL_law_11 rfl ?_
  have hPc := hP.sub (ws' := [(o2, .inr (7, [.null, .int 0, .int 0, .int 0, .int 0, .int 0, .int 0, .int 0, .null, .null, .null, .null, .null, .null, .null, .null, .null, .null, .null, .int 0, .int 0, .int 0, .null, .int 0, .null, .int 0, .null, .null, .null, .null, .null, .long 0, .long 0, .null, .null, .long 0]))]) [258] rfl
  have hDc := hD.sub (ws' := [(o2, .inr (7, [.null, .int 0, .int 0, .int 0, .int 0, .int 0, .int 0, .int 0, .null, .null, .null, .null, .null, .null, .null, .null, .null, .null, .null, .int 0, .int 0, .int 0, .null, .int 0, .null, .int 0, .null, .null, .null, .null, .null, .long 0, .long 0, .null, .null, .long 0]))]) [258] (by decide) rfl
  have hFc := va_free (wc := [(o2, .inr (7, [.null, .int 0, .int 0, .int 0, .int 0, .int 0, .int 0, .int 0, .null, .null, .null, .null, .null, .null, .null, .null, .null, .null, .null, .int 0, .int 0, .int 0, .null, .int 0, .null, .int 0, .null, .null, .null, .null, .null, .long 0, .long 0, .null, .null, .long 0]))]) hD hS hA [258] rfl
  refine va_callv (va_runI (As := []) (rest := [.ref o2]) ⟨hx, hb, hml, hown, hs⟩ (c_X7_init l D K o2 H.size) ⟨callB_of 0 hs (so_good qw_876 rfl) rfl rfl rfl (hs (.initialized RX7) (so_in qw_8 rfl)) (hs (.methodLink RL 12 yX7_init) (so_in qw_874 rfl)) ⟨by decide +kernel, by decide +kernel, by decide +kernel⟩ ⟨Nat.le_of_ble_eq_true rfl, Nat.le_of_ble_eq_true rfl⟩, rfl, hs (.instanceMethod yX7_init) (so_in qw_875 rfl)⟩ ⟨fun a U g mk q => by obtain ⟨q0, q1, qP, qK, qD⟩ := q; exact ⟨q0, q1, qP, va_K.moved (u := U) (U := U.calling g mk a) (Vm.Alike.refl U.vm) qK, qD⟩, fun U hU hW => ⟨rfl, by rw [hU], by rw [hU]; exact hPc, va_K.moved hW.alike hK, hDc.weaken (fun _ _ _ _ => trivial)⟩⟩ rfl rfl hl.1 rfl (lv_room (Nat.le_of_ble_eq_true rfl)) dL_law_12 ⟨Nat.le_of_ble_eq_true rfl, Nat.le_of_ble_eq_true rfl⟩) hS (fun q _ h => hFc q h) hFc (fun a2 t H1 locs ht hvm hw hB hz1 hk1 hS => ?_)
  obtain ⟨hP1, hK1, hD1⟩ := hB
  rw [ht] at hP1
  obtain ⟨hP2, hD2⟩ := va_join (wr := wSh0 a1 K) (w1 := wRf a2 K) hP hD [258] [0, 1, 2, 3, 4, 5, 6, 7, 8, 9, 10, 11, 12, 13, 14, 15, 16, 17, 18, 19, 20, 21, 22, 23, 24, 25, 26, 27, 28, 29, 30, 31, 32, 33, 34, 35, 36, 37, 38, 39, 40, 41, 42, 43, 44, 45, 46, 47, 48, 49, 50, 51, 52, 53, 54, 55, 56, 57, 58, 59, 60, 61, 62, 63, 64, 65, 66, 67, 68, 69, 70, 71, 72, 73, 74, 75, 76, 77, 78, 79, 80, 81, 82, 83, 84, 85, 86, 87, 88, 89, 90, 91, 92, 93, 94, 95, 96, 97, 98, 99, 100, 101, 102, 103, 104, 105, 106, 107, 108, 109, 110, 111, 112, 113, 114, 115, 116, 117, 118, 119, 120, 121, 122, 123, 124, 125, 126, 127, 128, 129, 130, 131, 132, 133, 134, 135, 136, 137, 138, 139, 140, 141, 142, 143, 144, 145, 146, 147, 148, 149, 150, 151, 152, 153, 154, 155, 156, 157, 158, 159, 160, 161, 162, 163, 164, 165, 166, 167, 168, 169, 170, 171, 172, 173, 174, 175, 176, 177, 178, 179, 180, 181, 182, 183, 184, 185, 186, 187, 188, 189, 190, 191, 192, 193, 194, 195, 196, 197, 198, 199, 200, 201, 202, 203, 204, 205, 206, 207, 208, 209, 210, 211, 212, 213, 214, 215, 216, 217, 218, 219, 220, 221, 222, 223, 224, 225, 226, 227, 228, 229, 230, 231, 232, 233, 234, 235, 236, 237, 238, 239, 240, 241, 242, 243, 244, 245, 246, 247, 248, 249, 250, 251, 252, 253, 254, 255, 256, 257] rfl rfl (by decide) (by decide) hk1 hFc hP1 hD1
  clear hPc hDc hFc hP1 hK1 hD1
  generalize H1 = H at hP2 hS ⊢
  obtain rfl : o2 = a2 0 := hw.symm
  refine lv_astore_n (lv' := [(2, .ref (a2 0)), (1, .ref (a1 0)), (0, .ref b)]) hx hb dL_law_15 rfl hl (by decide) rfl (fun ls hl => ?_)
  refine lv_iconst (v := sI 0) hx hb dL_law_16 rfl ?_
  refine lv_istore_n (lv' := [(3, .int (sI 0)), (2, .ref (a2 0)), (1, .ref (a1 0)), (0, .ref b)]) hx hb dL_law_17 rfl hl (by decide) rfl (fun ls hl => ?_)
  obtain ⟨t, hXt⟩ := lw_sXt C0 a1 a2 K
  have hP3 : va_P D clX (sWs (gI a1 a2 t, K) mI lI) H := wI_P hP2
  have hD3 : va_D (fun q : Nat => s.heap.size ≤ q) (sWs (gI a1 a2 t, K) mI lI) := wI_D hD2
  have hG : ∀ k, k < 280 → s.heap.size ≤ gI a1 a2 t k := fun k hk => hD3.2 k _ (sWs_get _ mI lI hk)
  have hIn : sIn (gI a1 a2 t, K) := fun i j hi hj ej => hD3.1 i j _ _ (sWs_get _ mI lI hi) (sWs_get _ mI lI hj) ej
  have hAs : ∀ q, sA (gI a1 a2 t, K) s.heap.size q → s.heap.size ≤ q := fun q z => by
    rcases z with ⟨k, hk, rfl⟩ | z
    · exact hG k hk
    · exact z
  have hX0 : lX p s m b c D (gI a1 a2 t, K) L xs := ⟨⟨hx, hb, hml, hown, hs, hK, hIn, hXt hG⟩, hX, hbl, fun z => absurd hbl (Nat.not_lt.mpr (hAs b z)), hL⟩
  have hSs : va_S (sA (gI a1 a2 t, K) s.heap.size) s.heap H locs := ⟨hS.1, fun q h1 h2 => hS.2.1 q h1 (fun z => h2 (Or.inr z)), fun q hq => Or.inr (hS.2.2 q hq)⟩
  exact lw_loop hX0 hG hr hlocks (L + 1) 0 0 mI lI rfl (Nat.zero_le L) (by omega) lw_0 H locs ls hP3 hSs hl
end WS
