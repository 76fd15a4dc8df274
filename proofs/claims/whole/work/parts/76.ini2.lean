/-! the constructors: Table, OrderSearch, WalkSearch -/
def tR (l w : Int) : Nat → Int := fun j => if j = 0 then l else if j = 1 then w else 0
def wTa (a : Nat → Nat) (K : Nat → ClassId) (l w : Nat) : va_W := [(a 0, .inr (4, fTab (a, K) 0 (tR l w) l0)), (a 1, sAI (a, K) (l * w) m0)]
def wOr (a : Nat → Nat) (K : Nat → ClassId) : va_W := [(a 0, .inr (2, [.ref (a 1), .ref (a 2), .ref (a 3), .int 0, .int 0, .int 0, .int 0])), (a 1, sAI (a, K) 6 m0), (a 2, sAI (a, K) 6 m0), (a 3, sAI (a, K) 36 m0)]
def wWa (a : Nat → Nat) (K : Nat → ClassId) : va_W := [(a 0, .inr (5, [.ref (a 1), .ref (a 2), .ref (a 3), .ref (a 4), .ref (a 5), .ref (a 6), .ref (a 7), .int 0, .int 0, .int 0, .long 0])), (a 1, sAI (a, K) 768 m0), (a 2, sAI (a, K) 768 m0), (a 3, sAJ (a, K) 768 l0), (a 4, sAJ (a, K) 768 l0), (a 5, sAI (a, K) 768 m0), (a 6, sAI (a, K) 6 m0), (a 7, sAI (a, K) 12 m0)]
set_option maxHeartbeats 4000000 in
set_option maxRecDepth 100000 in
theorem c_X4_init10 (l : Launch) (D : va_G) (K : Nat → ClassId) (h0 sz : Nat) : Met l yX4_init (.code yX4_init cX4_init 3 none :: so_tbl) { frames := 1, cells := 1, slots := 10, locals := 14 } (va_Pc [.ref h0, .int (sI 5), .int (sI 2)] (fun U => U.heap.size = sz ∧ va_P D clX [(h0, .inr (4, [.int 0, .int 0, .null, .int 0]))] U.heap ∧ va_K D clX (tyK K) U ∧ va_D (fun _ => True) [(h0, .inr (4, [.int 0, .int 0, .null, .int 0]))])) (va_Qv (fun a : Nat → Nat => a 0 = h0) (fun a t => va_P D clX (wTa a K 5 2) t.heap ∧ va_K D clX (tyK K) t ∧ va_D (va_A [(h0, .inr (4, [.int 0, .int 0, .null, .int 0]))] sz) (wTa a K 5 2)) (va_A [(h0, .inr (4, [.int 0, .int 0, .null, .int 0]))] sz)) 1 10 (va_A [(h0, .inr (4, [.int 0, .int 0, .null, .int 0]))] sz) := by
  refine Met.ofW (cc := cX4_init) (maxL := 3) (ret := none) (by decide) rfl ?_
  intro p e s m args below meth c s₁ B hml hv
  obtain ⟨rfl, hsz, hP, hK, hD0⟩ := hv
  have hx := B.exec
  have hb := B.bytes
  have hr := B.returns
  have hts0 := atoms_spec (ws := .code yX4_init cX4_init 3 none :: so_tbl) B.pre
  have hts : ∀ w ∈ so_tbl, w.before _ s = true := fun w hw => hts0 w (List.mem_cons_of_mem _ hw)
  have hown : s.vm.findClass RX4 = some m.cls := findClass_of_methodNamed B.named
  have hin : meth.name = "<init>" := (name_of_methodNamed B.named B.method).1
  subst hsz
  have hD := hD0.self (sz := s.heap.size)
  generalize hAe : va_A [(h0, .inr (4, [.int 0, .int 0, .null, .int 0]))] s.heap.size = A at hD ⊢
  have hA : ∀ q : Nat, s.heap.size ≤ q → A q := fun q h => by rw [← hAe]; exact Or.inr h
  have hS : va_S A s.heap s.heap [] := va_S.rf
  have hP : va_P D clX [(h0, .inr (4, [.int 0, .int 0, .null, .int 0]))] s.heap := hP
  have hl := lv_entry ([.ref h0, .int (sI 5), .int (sI 2)]) (n := 3) (Nat.le_of_ble_eq_true rfl)
  rw [lg_entry_eq]
  generalize (lg_sl ([.ref h0, .int (sI 5), .int (sI 2)]) ++ List.replicate (3 - (lg_sl ([.ref h0, .int (sI 5), .int (sI 2)])).length) Slot.unset).toArray = ls at hl ⊢
  have hl : lv_has ls 3 [(0, .ref h0), (1, .int (sI 5)), (2, .int (sI 2))] := hl
  refine lv_aload_n hx hb dX4_init_0 rfl (lv_at hl 0 rfl) ?_
  refine W.objInit hx hb hown (hts (.methodLink RX4 1 objectInit) (so_in qw_70 rfl)) (hts (.instanceMethod objectInit) (so_in qw_21 rfl)) (hts (.code objectInit object_method_1_code 1 none) (so_in qw_22 rfl)) rfl (by rw [hml]; exact hl.1) rfl dX4_init_1 (Nat.le_of_ble_eq_true rfl) (Nat.le_of_ble_eq_true rfl) ?_
  refine W.eq (g2 := F0 m 4 ls []) rfl ?_
  refine lv_aload_n hx hb dX4_init_4 rfl (lv_at hl 0 rfl) ?_
  refine lv_iload_n hx hb dX4_init_5 rfl (lv_at hl 1 rfl) ?_
  refine va_putF (D := D) (ci := 4) (v := .int (sI 5)) (ty := tyX4 0) (C := RX4) (T := TX4) (N := 4) hx hb hts inX4 tyX4 tyX4_ok nmX4 hown hK hP hD hS 0 rfl rfl 0 (by decide) (hts (.fieldLink RX4 7 RX4 "limit" "I") (so_in qw_71 rfl)) (fun _ h9 => h9) rfl hin rfl (by decide +kernel) rfl rfl (Nat.le_of_ble_eq_true rfl) dX4_init_6 (fun H locs hP hD hS => ?_)
  have hP : va_P D clX [(h0, .inr (4, [.int (sI 5), .int 0, .null, .int 0]))] H := hP
  have hD : va_D A [(h0, .inr (4, [.int (sI 5), .int 0, .null, .int 0]))] := hD
  refine lv_aload_n hx hb dX4_init_9 rfl (lv_at hl 0 rfl) ?_
  refine lv_iload_n hx hb dX4_init_10 rfl (lv_at hl 2 rfl) ?_
  refine va_putF (D := D) (ci := 4) (v := .int (sI 2)) (ty := tyX4 1) (C := RX4) (T := TX4) (N := 4) hx hb hts inX4 tyX4 tyX4_ok nmX4 hown hK hP hD hS 0 rfl rfl 1 (by decide) (hts (.fieldLink RX4 13 RX4 "width" "I") (so_in qw_72 rfl)) (fun _ h9 => h9) rfl hin rfl (by decide +kernel) rfl rfl (Nat.le_of_ble_eq_true rfl) dX4_init_11 (fun H locs hP hD hS => ?_)
  have hP : va_P D clX [(h0, .inr (4, [.int (sI 5), .int (sI 2), .null, .int 0]))] H := hP
  have hD : va_D A [(h0, .inr (4, [.int (sI 5), .int (sI 2), .null, .int 0]))] := hD
  refine lv_aload_n hx hb dX4_init_14 rfl (lv_at hl 0 rfl) ?_
  refine lv_iload_n hx hb dX4_init_15 rfl (lv_at hl 1 rfl) ?_
  refine lv_iload_n hx hb dX4_init_16 rfl (lv_at hl 2 rfl) ?_
  refine lv_imul hx hb dX4_init_17 ?_
  refine va_newa (atype := .int) hx hb (hts (.arrayClass .int) (so_in qw_63 rfl)) (ty := .int) rfl hK hP hD hS hA (N' := 10) (a0 := (10, .inl (fun _ => sI 0))) (fun _ => rfl) (by decide) (by decide) (Nat.le_of_ble_eq_true rfl) (Nat.le_of_ble_eq_true rfl) (Nat.le_of_ble_eq_true rfl) dX4_init_18 (fun q1 cA1 H hK1 hP hD hS => ?_)
  obtain rfl : cA1 = K 0 := ka_0 hK1
  clear hK1
  have hP : va_P D clX [(h0, .inr (4, [.int (sI 5), .int (sI 2), .null, .int 0])), (q1, .inl (K 0, 10, .inl (fun _ => sI 0)))] H := hP
  have hD : va_D A [(h0, .inr (4, [.int (sI 5), .int (sI 2), .null, .int 0])), (q1, .inl (K 0, 10, .inl (fun _ => sI 0)))] := hD
  refine va_putF (D := D) (ci := 4) (v := .ref q1) (ty := tyX4 2) (C := RX4) (T := TX4) (N := 4) hx hb hts inX4 tyX4 tyX4_ok nmX4 hown hK hP hD hS 0 rfl rfl 2 (by decide) (hts (.fieldLink RX4 16 RX4 "numbers" "[I") (so_in qw_73 rfl)) (fun _ h9 => h9) rfl hin rfl (by decide +kernel) rfl rfl (Nat.le_of_ble_eq_true rfl) dX4_init_20 (fun H locs hP hD hS => ?_)
  have hP : va_P D clX [(h0, .inr (4, [.int (sI 5), .int (sI 2), .ref q1, .int 0])), (q1, .inl (K 0, 10, .inl (fun _ => sI 0)))] H := hP
  have hD : va_D A [(h0, .inr (4, [.int (sI 5), .int (sI 2), .ref q1, .int 0])), (q1, .inl (K 0, 10, .inl (fun _ => sI 0)))] := hD
  exact W.vret hx hb hr (fun t ht hW => ⟨⟨fun k => if k = 0 then h0 else q1, rfl, rfl, by rw [ht]; exact hP, va_K.moved hW.alike hK, hD⟩, hS.F ht⟩) hS.2.2 dX4_init_23
set_option maxHeartbeats 4000000 in
set_option maxRecDepth 100000 in
theorem c_X4_init24 (l : Launch) (D : va_G) (K : Nat → ClassId) (h0 sz : Nat) : Met l yX4_init (.code yX4_init cX4_init 3 none :: so_tbl) { frames := 1, cells := 1, slots := 24, locals := 14 } (va_Pc [.ref h0, .int (sI 6), .int (sI 4)] (fun U => U.heap.size = sz ∧ va_P D clX [(h0, .inr (4, [.int 0, .int 0, .null, .int 0]))] U.heap ∧ va_K D clX (tyK K) U ∧ va_D (fun _ => True) [(h0, .inr (4, [.int 0, .int 0, .null, .int 0]))])) (va_Qv (fun a : Nat → Nat => a 0 = h0) (fun a t => va_P D clX (wTa a K 6 4) t.heap ∧ va_K D clX (tyK K) t ∧ va_D (va_A [(h0, .inr (4, [.int 0, .int 0, .null, .int 0]))] sz) (wTa a K 6 4)) (va_A [(h0, .inr (4, [.int 0, .int 0, .null, .int 0]))] sz)) 1 24 (va_A [(h0, .inr (4, [.int 0, .int 0, .null, .int 0]))] sz) := by
  refine Met.ofW (cc := cX4_init) (maxL := 3) (ret := none) (by decide) rfl ?_
  intro p e s m args below meth c s₁ B hml hv
  obtain ⟨rfl, hsz, hP, hK, hD0⟩ := hv
  have hx := B.exec
  have hb := B.bytes
  have hr := B.returns
  have hts0 := atoms_spec (ws := .code yX4_init cX4_init 3 none :: so_tbl) B.pre
  have hts : ∀ w ∈ so_tbl, w.before _ s = true := fun w hw => hts0 w (List.mem_cons_of_mem _ hw)
  have hown : s.vm.findClass RX4 = some m.cls := findClass_of_methodNamed B.named
  have hin : meth.name = "<init>" := (name_of_methodNamed B.named B.method).1
  subst hsz
  have hD := hD0.self (sz := s.heap.size)
  generalize hAe : va_A [(h0, .inr (4, [.int 0, .int 0, .null, .int 0]))] s.heap.size = A at hD ⊢
  have hA : ∀ q : Nat, s.heap.size ≤ q → A q := fun q h => by rw [← hAe]; exact Or.inr h
  have hS : va_S A s.heap s.heap [] := va_S.rf
  have hP : va_P D clX [(h0, .inr (4, [.int 0, .int 0, .null, .int 0]))] s.heap := hP
  have hl := lv_entry ([.ref h0, .int (sI 6), .int (sI 4)]) (n := 3) (Nat.le_of_ble_eq_true rfl)
  rw [lg_entry_eq]
  generalize (lg_sl ([.ref h0, .int (sI 6), .int (sI 4)]) ++ List.replicate (3 - (lg_sl ([.ref h0, .int (sI 6), .int (sI 4)])).length) Slot.unset).toArray = ls at hl ⊢
  have hl : lv_has ls 3 [(0, .ref h0), (1, .int (sI 6)), (2, .int (sI 4))] := hl
  refine lv_aload_n hx hb dX4_init_0 rfl (lv_at hl 0 rfl) ?_
  refine W.objInit hx hb hown (hts (.methodLink RX4 1 objectInit) (so_in qw_70 rfl)) (hts (.instanceMethod objectInit) (so_in qw_21 rfl)) (hts (.code objectInit object_method_1_code 1 none) (so_in qw_22 rfl)) rfl (by rw [hml]; exact hl.1) rfl dX4_init_1 (Nat.le_of_ble_eq_true rfl) (Nat.le_of_ble_eq_true rfl) ?_
  refine W.eq (g2 := F0 m 4 ls []) rfl ?_
  refine lv_aload_n hx hb dX4_init_4 rfl (lv_at hl 0 rfl) ?_
  refine lv_iload_n hx hb dX4_init_5 rfl (lv_at hl 1 rfl) ?_
  refine va_putF (D := D) (ci := 4) (v := .int (sI 6)) (ty := tyX4 0) (C := RX4) (T := TX4) (N := 4) hx hb hts inX4 tyX4 tyX4_ok nmX4 hown hK hP hD hS 0 rfl rfl 0 (by decide) (hts (.fieldLink RX4 7 RX4 "limit" "I") (so_in qw_71 rfl)) (fun _ h9 => h9) rfl hin rfl (by decide +kernel) rfl rfl (Nat.le_of_ble_eq_true rfl) dX4_init_6 (fun H locs hP hD hS => ?_)
  have hP : va_P D clX [(h0, .inr (4, [.int (sI 6), .int 0, .null, .int 0]))] H := hP
  have hD : va_D A [(h0, .inr (4, [.int (sI 6), .int 0, .null, .int 0]))] := hD
  refine lv_aload_n hx hb dX4_init_9 rfl (lv_at hl 0 rfl) ?_
  refine lv_iload_n hx hb dX4_init_10 rfl (lv_at hl 2 rfl) ?_
  refine va_putF (D := D) (ci := 4) (v := .int (sI 4)) (ty := tyX4 1) (C := RX4) (T := TX4) (N := 4) hx hb hts inX4 tyX4 tyX4_ok nmX4 hown hK hP hD hS 0 rfl rfl 1 (by decide) (hts (.fieldLink RX4 13 RX4 "width" "I") (so_in qw_72 rfl)) (fun _ h9 => h9) rfl hin rfl (by decide +kernel) rfl rfl (Nat.le_of_ble_eq_true rfl) dX4_init_11 (fun H locs hP hD hS => ?_)
  have hP : va_P D clX [(h0, .inr (4, [.int (sI 6), .int (sI 4), .null, .int 0]))] H := hP
  have hD : va_D A [(h0, .inr (4, [.int (sI 6), .int (sI 4), .null, .int 0]))] := hD
  refine lv_aload_n hx hb dX4_init_14 rfl (lv_at hl 0 rfl) ?_
  refine lv_iload_n hx hb dX4_init_15 rfl (lv_at hl 1 rfl) ?_
  refine lv_iload_n hx hb dX4_init_16 rfl (lv_at hl 2 rfl) ?_
  refine lv_imul hx hb dX4_init_17 ?_
  refine va_newa (atype := .int) hx hb (hts (.arrayClass .int) (so_in qw_63 rfl)) (ty := .int) rfl hK hP hD hS hA (N' := 24) (a0 := (24, .inl (fun _ => sI 0))) (fun _ => rfl) (by decide) (by decide) (Nat.le_of_ble_eq_true rfl) (Nat.le_of_ble_eq_true rfl) (Nat.le_of_ble_eq_true rfl) dX4_init_18 (fun q1 cA1 H hK1 hP hD hS => ?_)
  obtain rfl : cA1 = K 0 := ka_0 hK1
  clear hK1
  have hP : va_P D clX [(h0, .inr (4, [.int (sI 6), .int (sI 4), .null, .int 0])), (q1, .inl (K 0, 24, .inl (fun _ => sI 0)))] H := hP
  have hD : va_D A [(h0, .inr (4, [.int (sI 6), .int (sI 4), .null, .int 0])), (q1, .inl (K 0, 24, .inl (fun _ => sI 0)))] := hD
  refine va_putF (D := D) (ci := 4) (v := .ref q1) (ty := tyX4 2) (C := RX4) (T := TX4) (N := 4) hx hb hts inX4 tyX4 tyX4_ok nmX4 hown hK hP hD hS 0 rfl rfl 2 (by decide) (hts (.fieldLink RX4 16 RX4 "numbers" "[I") (so_in qw_73 rfl)) (fun _ h9 => h9) rfl hin rfl (by decide +kernel) rfl rfl (Nat.le_of_ble_eq_true rfl) dX4_init_20 (fun H locs hP hD hS => ?_)
  have hP : va_P D clX [(h0, .inr (4, [.int (sI 6), .int (sI 4), .ref q1, .int 0])), (q1, .inl (K 0, 24, .inl (fun _ => sI 0)))] H := hP
  have hD : va_D A [(h0, .inr (4, [.int (sI 6), .int (sI 4), .ref q1, .int 0])), (q1, .inl (K 0, 24, .inl (fun _ => sI 0)))] := hD
  exact W.vret hx hb hr (fun t ht hW => ⟨⟨fun k => if k = 0 then h0 else q1, rfl, rfl, by rw [ht]; exact hP, va_K.moved hW.alike hK, hD⟩, hS.F ht⟩) hS.2.2 dX4_init_23
set_option maxHeartbeats 4000000 in
set_option maxRecDepth 100000 in
theorem c_X4_init18 (l : Launch) (D : va_G) (K : Nat → ClassId) (h0 sz : Nat) : Met l yX4_init (.code yX4_init cX4_init 3 none :: so_tbl) { frames := 1, cells := 1, slots := 18, locals := 14 } (va_Pc [.ref h0, .int (sI 6), .int (sI 3)] (fun U => U.heap.size = sz ∧ va_P D clX [(h0, .inr (4, [.int 0, .int 0, .null, .int 0]))] U.heap ∧ va_K D clX (tyK K) U ∧ va_D (fun _ => True) [(h0, .inr (4, [.int 0, .int 0, .null, .int 0]))])) (va_Qv (fun a : Nat → Nat => a 0 = h0) (fun a t => va_P D clX (wTa a K 6 3) t.heap ∧ va_K D clX (tyK K) t ∧ va_D (va_A [(h0, .inr (4, [.int 0, .int 0, .null, .int 0]))] sz) (wTa a K 6 3)) (va_A [(h0, .inr (4, [.int 0, .int 0, .null, .int 0]))] sz)) 1 18 (va_A [(h0, .inr (4, [.int 0, .int 0, .null, .int 0]))] sz) := by
  refine Met.ofW (cc := cX4_init) (maxL := 3) (ret := none) (by decide) rfl ?_
  intro p e s m args below meth c s₁ B hml hv
  obtain ⟨rfl, hsz, hP, hK, hD0⟩ := hv
  have hx := B.exec
  have hb := B.bytes
  have hr := B.returns
  have hts0 := atoms_spec (ws := .code yX4_init cX4_init 3 none :: so_tbl) B.pre
  have hts : ∀ w ∈ so_tbl, w.before _ s = true := fun w hw => hts0 w (List.mem_cons_of_mem _ hw)
  have hown : s.vm.findClass RX4 = some m.cls := findClass_of_methodNamed B.named
  have hin : meth.name = "<init>" := (name_of_methodNamed B.named B.method).1
  subst hsz
  have hD := hD0.self (sz := s.heap.size)
  generalize hAe : va_A [(h0, .inr (4, [.int 0, .int 0, .null, .int 0]))] s.heap.size = A at hD ⊢
  have hA : ∀ q : Nat, s.heap.size ≤ q → A q := fun q h => by rw [← hAe]; exact Or.inr h
  have hS : va_S A s.heap s.heap [] := va_S.rf
  have hP : va_P D clX [(h0, .inr (4, [.int 0, .int 0, .null, .int 0]))] s.heap := hP
  have hl := lv_entry ([.ref h0, .int (sI 6), .int (sI 3)]) (n := 3) (Nat.le_of_ble_eq_true rfl)
  rw [lg_entry_eq]
  generalize (lg_sl ([.ref h0, .int (sI 6), .int (sI 3)]) ++ List.replicate (3 - (lg_sl ([.ref h0, .int (sI 6), .int (sI 3)])).length) Slot.unset).toArray = ls at hl ⊢
  have hl : lv_has ls 3 [(0, .ref h0), (1, .int (sI 6)), (2, .int (sI 3))] := hl
  refine lv_aload_n hx hb dX4_init_0 rfl (lv_at hl 0 rfl) ?_
  refine W.objInit hx hb hown (hts (.methodLink RX4 1 objectInit) (so_in qw_70 rfl)) (hts (.instanceMethod objectInit) (so_in qw_21 rfl)) (hts (.code objectInit object_method_1_code 1 none) (so_in qw_22 rfl)) rfl (by rw [hml]; exact hl.1) rfl dX4_init_1 (Nat.le_of_ble_eq_true rfl) (Nat.le_of_ble_eq_true rfl) ?_
  refine W.eq (g2 := F0 m 4 ls []) rfl ?_
  refine lv_aload_n hx hb dX4_init_4 rfl (lv_at hl 0 rfl) ?_
  refine lv_iload_n hx hb dX4_init_5 rfl (lv_at hl 1 rfl) ?_
  refine va_putF (D := D) (ci := 4) (v := .int (sI 6)) (ty := tyX4 0) (C := RX4) (T := TX4) (N := 4) hx hb hts inX4 tyX4 tyX4_ok nmX4 hown hK hP hD hS 0 rfl rfl 0 (by decide) (hts (.fieldLink RX4 7 RX4 "limit" "I") (so_in qw_71 rfl)) (fun _ h9 => h9) rfl hin rfl (by decide +kernel) rfl rfl (Nat.le_of_ble_eq_true rfl) dX4_init_6 (fun H locs hP hD hS => ?_)
  have hP : va_P D clX [(h0, .inr (4, [.int (sI 6), .int 0, .null, .int 0]))] H := hP
  have hD : va_D A [(h0, .inr (4, [.int (sI 6), .int 0, .null, .int 0]))] := hD
  refine lv_aload_n hx hb dX4_init_9 rfl (lv_at hl 0 rfl) ?_
  refine lv_iload_n hx hb dX4_init_10 rfl (lv_at hl 2 rfl) ?_
  refine va_putF (D := D) (ci := 4) (v := .int (sI 3)) (ty := tyX4 1) (C := RX4) (T := TX4) (N := 4) hx hb hts inX4 tyX4 tyX4_ok nmX4 hown hK hP hD hS 0 rfl rfl 1 (by decide) (hts (.fieldLink RX4 13 RX4 "width" "I") (so_in qw_72 rfl)) (fun _ h9 => h9) rfl hin rfl (by decide +kernel) rfl rfl (Nat.le_of_ble_eq_true rfl) dX4_init_11 (fun H locs hP hD hS => ?_)
  have hP : va_P D clX [(h0, .inr (4, [.int (sI 6), .int (sI 3), .null, .int 0]))] H := hP
  have hD : va_D A [(h0, .inr (4, [.int (sI 6), .int (sI 3), .null, .int 0]))] := hD
  refine lv_aload_n hx hb dX4_init_14 rfl (lv_at hl 0 rfl) ?_
  refine lv_iload_n hx hb dX4_init_15 rfl (lv_at hl 1 rfl) ?_
  refine lv_iload_n hx hb dX4_init_16 rfl (lv_at hl 2 rfl) ?_
  refine lv_imul hx hb dX4_init_17 ?_
  refine va_newa (atype := .int) hx hb (hts (.arrayClass .int) (so_in qw_63 rfl)) (ty := .int) rfl hK hP hD hS hA (N' := 18) (a0 := (18, .inl (fun _ => sI 0))) (fun _ => rfl) (by decide) (by decide) (Nat.le_of_ble_eq_true rfl) (Nat.le_of_ble_eq_true rfl) (Nat.le_of_ble_eq_true rfl) dX4_init_18 (fun q1 cA1 H hK1 hP hD hS => ?_)
  obtain rfl : cA1 = K 0 := ka_0 hK1
  clear hK1
  have hP : va_P D clX [(h0, .inr (4, [.int (sI 6), .int (sI 3), .null, .int 0])), (q1, .inl (K 0, 18, .inl (fun _ => sI 0)))] H := hP
  have hD : va_D A [(h0, .inr (4, [.int (sI 6), .int (sI 3), .null, .int 0])), (q1, .inl (K 0, 18, .inl (fun _ => sI 0)))] := hD
  refine va_putF (D := D) (ci := 4) (v := .ref q1) (ty := tyX4 2) (C := RX4) (T := TX4) (N := 4) hx hb hts inX4 tyX4 tyX4_ok nmX4 hown hK hP hD hS 0 rfl rfl 2 (by decide) (hts (.fieldLink RX4 16 RX4 "numbers" "[I") (so_in qw_73 rfl)) (fun _ h9 => h9) rfl hin rfl (by decide +kernel) rfl rfl (Nat.le_of_ble_eq_true rfl) dX4_init_20 (fun H locs hP hD hS => ?_)
  have hP : va_P D clX [(h0, .inr (4, [.int (sI 6), .int (sI 3), .ref q1, .int 0])), (q1, .inl (K 0, 18, .inl (fun _ => sI 0)))] H := hP
  have hD : va_D A [(h0, .inr (4, [.int (sI 6), .int (sI 3), .ref q1, .int 0])), (q1, .inl (K 0, 18, .inl (fun _ => sI 0)))] := hD
  exact W.vret hx hb hr (fun t ht hW => ⟨⟨fun k => if k = 0 then h0 else q1, rfl, rfl, by rw [ht]; exact hP, va_K.moved hW.alike hK, hD⟩, hS.F ht⟩) hS.2.2 dX4_init_23
set_option maxHeartbeats 4000000 in
set_option maxRecDepth 100000 in
theorem c_X2_init (l : Launch) (D : va_G) (K : Nat → ClassId) (h0 sz : Nat) : Met l yX2_init (.code yX2_init cX2_init 1 none :: so_tbl) { frames := 1, cells := 3, slots := 48, locals := 12 } (va_Pc [.ref h0] (fun U => U.heap.size = sz ∧ va_P D clX [(h0, .inr (2, [.null, .null, .null, .int 0, .int 0, .int 0, .int 0]))] U.heap ∧ va_K D clX (tyK K) U ∧ va_D (fun _ => True) [(h0, .inr (2, [.null, .null, .null, .int 0, .int 0, .int 0, .int 0]))])) (va_Qv (fun a : Nat → Nat => a 0 = h0) (fun a t => va_P D clX (wOr a K) t.heap ∧ va_K D clX (tyK K) t ∧ va_D (va_A [(h0, .inr (2, [.null, .null, .null, .int 0, .int 0, .int 0, .int 0]))] sz) (wOr a K)) (va_A [(h0, .inr (2, [.null, .null, .null, .int 0, .int 0, .int 0, .int 0]))] sz)) 3 48 (va_A [(h0, .inr (2, [.null, .null, .null, .int 0, .int 0, .int 0, .int 0]))] sz) := by
  refine Met.ofW (cc := cX2_init) (maxL := 1) (ret := none) (by decide) rfl ?_
  intro p e s m args below meth c s₁ B hml hv
  obtain ⟨rfl, hsz, hP, hK, hD0⟩ := hv
  have hx := B.exec
  have hb := B.bytes
  have hr := B.returns
  have hts0 := atoms_spec (ws := .code yX2_init cX2_init 1 none :: so_tbl) B.pre
  have hts : ∀ w ∈ so_tbl, w.before _ s = true := fun w hw => hts0 w (List.mem_cons_of_mem _ hw)
  have hown : s.vm.findClass RX2 = some m.cls := findClass_of_methodNamed B.named
  have hin : meth.name = "<init>" := (name_of_methodNamed B.named B.method).1
  subst hsz
  have hD := hD0.self (sz := s.heap.size)
  generalize hAe : va_A [(h0, .inr (2, [.null, .null, .null, .int 0, .int 0, .int 0, .int 0]))] s.heap.size = A at hD ⊢
  have hA : ∀ q : Nat, s.heap.size ≤ q → A q := fun q h => by rw [← hAe]; exact Or.inr h
  have hS : va_S A s.heap s.heap [] := va_S.rf
  have hP : va_P D clX [(h0, .inr (2, [.null, .null, .null, .int 0, .int 0, .int 0, .int 0]))] s.heap := hP
  have hl := lv_entry ([.ref h0]) (n := 1) (Nat.le_of_ble_eq_true rfl)
  rw [lg_entry_eq]
  generalize (lg_sl ([.ref h0]) ++ List.replicate (1 - (lg_sl ([.ref h0])).length) Slot.unset).toArray = ls at hl ⊢
  have hl : lv_has ls 1 [(0, .ref h0)] := hl
  refine lv_aload_n hx hb dX2_init_0 rfl (lv_at hl 0 rfl) ?_
  refine W.objInit hx hb hown (hts (.methodLink RX2 3 objectInit) (so_in qw_223 rfl)) (hts (.instanceMethod objectInit) (so_in qw_21 rfl)) (hts (.code objectInit object_method_1_code 1 none) (so_in qw_22 rfl)) rfl (by rw [hml]; exact hl.1) rfl dX2_init_1 (Nat.le_of_ble_eq_true rfl) (Nat.le_of_ble_eq_true rfl) ?_
  refine W.eq (g2 := F0 m 4 ls []) rfl ?_
  refine lv_aload_n hx hb dX2_init_4 rfl (lv_at hl 0 rfl) ?_
  refine lv_bipush (v := 6) hx hb dX2_init_5 (by decide) ?_
  refine va_newa (atype := .int) hx hb (hts (.arrayClass .int) (so_in qw_63 rfl)) (ty := .int) rfl hK hP hD hS hA (N' := 6) (a0 := (6, .inl (fun _ => sI 0))) (fun _ => rfl) (by decide) (by decide) (Nat.le_of_ble_eq_true rfl) (Nat.le_of_ble_eq_true rfl) (Nat.le_of_ble_eq_true rfl) dX2_init_7 (fun q1 cA1 H hK1 hP hD hS => ?_)
  obtain rfl : cA1 = K 0 := ka_0 hK1
  clear hK1
  have hP : va_P D clX [(h0, .inr (2, [.null, .null, .null, .int 0, .int 0, .int 0, .int 0])), (q1, .inl (K 0, 6, .inl (fun _ => sI 0)))] H := hP
  have hD : va_D A [(h0, .inr (2, [.null, .null, .null, .int 0, .int 0, .int 0, .int 0])), (q1, .inl (K 0, 6, .inl (fun _ => sI 0)))] := hD
  refine va_putF (D := D) (ci := 2) (v := .ref q1) (ty := tyX2 0) (C := RX2) (T := TX2) (N := 7) hx hb hts inX2 tyX2 tyX2_ok nmX2 hown hK hP hD hS 0 rfl rfl 0 (by decide) (hts (.fieldLink RX2 9 RX2 "row" "[I") (so_in qw_224 rfl)) (fun _ h9 => h9) rfl hin rfl (by decide +kernel) rfl rfl (Nat.le_of_ble_eq_true rfl) dX2_init_9 (fun H locs hP hD hS => ?_)
  have hP : va_P D clX [(h0, .inr (2, [.ref q1, .null, .null, .int 0, .int 0, .int 0, .int 0])), (q1, .inl (K 0, 6, .inl (fun _ => sI 0)))] H := hP
  have hD : va_D A [(h0, .inr (2, [.ref q1, .null, .null, .int 0, .int 0, .int 0, .int 0])), (q1, .inl (K 0, 6, .inl (fun _ => sI 0)))] := hD
  refine lv_aload_n hx hb dX2_init_12 rfl (lv_at hl 0 rfl) ?_
  refine lv_bipush (v := 6) hx hb dX2_init_13 (by decide) ?_
  refine va_newa (atype := .int) hx hb (hts (.arrayClass .int) (so_in qw_63 rfl)) (ty := .int) rfl hK hP hD hS hA (N' := 6) (a0 := (6, .inl (fun _ => sI 0))) (fun _ => rfl) (by decide) (by decide) (Nat.le_of_ble_eq_true rfl) (Nat.le_of_ble_eq_true rfl) (Nat.le_of_ble_eq_true rfl) dX2_init_15 (fun q2 cA2 H hK1 hP hD hS => ?_)
  obtain rfl : cA2 = K 0 := ka_0 hK1
  clear hK1
  have hP : va_P D clX [(h0, .inr (2, [.ref q1, .null, .null, .int 0, .int 0, .int 0, .int 0])), (q1, .inl (K 0, 6, .inl (fun _ => sI 0))), (q2, .inl (K 0, 6, .inl (fun _ => sI 0)))] H := hP
  have hD : va_D A [(h0, .inr (2, [.ref q1, .null, .null, .int 0, .int 0, .int 0, .int 0])), (q1, .inl (K 0, 6, .inl (fun _ => sI 0))), (q2, .inl (K 0, 6, .inl (fun _ => sI 0)))] := hD
  refine va_putF (D := D) (ci := 2) (v := .ref q2) (ty := tyX2 1) (C := RX2) (T := TX2) (N := 7) hx hb hts inX2 tyX2 tyX2_ok nmX2 hown hK hP hD hS 0 rfl rfl 1 (by decide) (hts (.fieldLink RX2 15 RX2 "best" "[I") (so_in qw_225 rfl)) (fun _ h9 => h9) rfl hin rfl (by decide +kernel) rfl rfl (Nat.le_of_ble_eq_true rfl) dX2_init_17 (fun H locs hP hD hS => ?_)
  have hP : va_P D clX [(h0, .inr (2, [.ref q1, .ref q2, .null, .int 0, .int 0, .int 0, .int 0])), (q1, .inl (K 0, 6, .inl (fun _ => sI 0))), (q2, .inl (K 0, 6, .inl (fun _ => sI 0)))] H := hP
  have hD : va_D A [(h0, .inr (2, [.ref q1, .ref q2, .null, .int 0, .int 0, .int 0, .int 0])), (q1, .inl (K 0, 6, .inl (fun _ => sI 0))), (q2, .inl (K 0, 6, .inl (fun _ => sI 0)))] := hD
  refine lv_aload_n hx hb dX2_init_20 rfl (lv_at hl 0 rfl) ?_
  refine lv_bipush (v := 36) hx hb dX2_init_21 (by decide) ?_
  refine va_newa (atype := .int) hx hb (hts (.arrayClass .int) (so_in qw_63 rfl)) (ty := .int) rfl hK hP hD hS hA (N' := 36) (a0 := (36, .inl (fun _ => sI 0))) (fun _ => rfl) (by decide) (by decide) (Nat.le_of_ble_eq_true rfl) (Nat.le_of_ble_eq_true rfl) (Nat.le_of_ble_eq_true rfl) dX2_init_23 (fun q3 cA3 H hK1 hP hD hS => ?_)
  obtain rfl : cA3 = K 0 := ka_0 hK1
  clear hK1
  have hP : va_P D clX [(h0, .inr (2, [.ref q1, .ref q2, .null, .int 0, .int 0, .int 0, .int 0])), (q1, .inl (K 0, 6, .inl (fun _ => sI 0))), (q2, .inl (K 0, 6, .inl (fun _ => sI 0))), (q3, .inl (K 0, 36, .inl (fun _ => sI 0)))] H := hP
  have hD : va_D A [(h0, .inr (2, [.ref q1, .ref q2, .null, .int 0, .int 0, .int 0, .int 0])), (q1, .inl (K 0, 6, .inl (fun _ => sI 0))), (q2, .inl (K 0, 6, .inl (fun _ => sI 0))), (q3, .inl (K 0, 36, .inl (fun _ => sI 0)))] := hD
  refine va_putF (D := D) (ci := 2) (v := .ref q3) (ty := tyX2 2) (C := RX2) (T := TX2) (N := 7) hx hb hts inX2 tyX2 tyX2_ok nmX2 hown hK hP hD hS 0 rfl rfl 2 (by decide) (hts (.fieldLink RX2 18 RX2 "far" "[I") (so_in qw_227 rfl)) (fun _ h9 => h9) rfl hin rfl (by decide +kernel) rfl rfl (Nat.le_of_ble_eq_true rfl) dX2_init_25 (fun H locs hP hD hS => ?_)
  have hP : va_P D clX [(h0, .inr (2, [.ref q1, .ref q2, .ref q3, .int 0, .int 0, .int 0, .int 0])), (q1, .inl (K 0, 6, .inl (fun _ => sI 0))), (q2, .inl (K 0, 6, .inl (fun _ => sI 0))), (q3, .inl (K 0, 36, .inl (fun _ => sI 0)))] H := hP
  have hD : va_D A [(h0, .inr (2, [.ref q1, .ref q2, .ref q3, .int 0, .int 0, .int 0, .int 0])), (q1, .inl (K 0, 6, .inl (fun _ => sI 0))), (q2, .inl (K 0, 6, .inl (fun _ => sI 0))), (q3, .inl (K 0, 36, .inl (fun _ => sI 0)))] := hD
  exact W.vret hx hb hr (fun t ht hW => ⟨⟨fun k => if k = 0 then h0 else if k = 1 then q1 else if k = 2 then q2 else q3, rfl, rfl, by rw [ht]; exact hP, va_K.moved hW.alike hK, hD⟩, hS.F ht⟩) hS.2.2 dX2_init_28
set_option maxHeartbeats 4000000 in
set_option maxRecDepth 100000 in
theorem c_X5_init (l : Launch) (D : va_G) (K : Nat → ClassId) (h0 sz : Nat) : Met l yX5_init (.code yX5_init cX5_init 1 none :: so_tbl) { frames := 1, cells := 7, slots := 3858, locals := 12 } (va_Pc [.ref h0] (fun U => U.heap.size = sz ∧ va_P D clX [(h0, .inr (5, [.null, .null, .null, .null, .null, .null, .null, .int 0, .int 0, .int 0, .long 0]))] U.heap ∧ va_K D clX (tyK K) U ∧ va_D (fun _ => True) [(h0, .inr (5, [.null, .null, .null, .null, .null, .null, .null, .int 0, .int 0, .int 0, .long 0]))])) (va_Qv (fun a : Nat → Nat => a 0 = h0) (fun a t => va_P D clX (wWa a K) t.heap ∧ va_K D clX (tyK K) t ∧ va_D (va_A [(h0, .inr (5, [.null, .null, .null, .null, .null, .null, .null, .int 0, .int 0, .int 0, .long 0]))] sz) (wWa a K)) (va_A [(h0, .inr (5, [.null, .null, .null, .null, .null, .null, .null, .int 0, .int 0, .int 0, .long 0]))] sz)) 7 3858 (va_A [(h0, .inr (5, [.null, .null, .null, .null, .null, .null, .null, .int 0, .int 0, .int 0, .long 0]))] sz) := by
  refine Met.ofW (cc := cX5_init) (maxL := 1) (ret := none) (by decide) rfl ?_
  intro p e s m args below meth c s₁ B hml hv
  obtain ⟨rfl, hsz, hP, hK, hD0⟩ := hv
  have hx := B.exec
  have hb := B.bytes
  have hr := B.returns
  have hts0 := atoms_spec (ws := .code yX5_init cX5_init 1 none :: so_tbl) B.pre
  have hts : ∀ w ∈ so_tbl, w.before _ s = true := fun w hw => hts0 w (List.mem_cons_of_mem _ hw)
  have hown : s.vm.findClass RX5 = some m.cls := findClass_of_methodNamed B.named
  have hin : meth.name = "<init>" := (name_of_methodNamed B.named B.method).1
  subst hsz
  have hD := hD0.self (sz := s.heap.size)
  generalize hAe : va_A [(h0, .inr (5, [.null, .null, .null, .null, .null, .null, .null, .int 0, .int 0, .int 0, .long 0]))] s.heap.size = A at hD ⊢
  have hA : ∀ q : Nat, s.heap.size ≤ q → A q := fun q h => by rw [← hAe]; exact Or.inr h
  have hS : va_S A s.heap s.heap [] := va_S.rf
  have hP : va_P D clX [(h0, .inr (5, [.null, .null, .null, .null, .null, .null, .null, .int 0, .int 0, .int 0, .long 0]))] s.heap := hP
  have hl := lv_entry ([.ref h0]) (n := 1) (Nat.le_of_ble_eq_true rfl)
  rw [lg_entry_eq]
  generalize (lg_sl ([.ref h0]) ++ List.replicate (1 - (lg_sl ([.ref h0])).length) Slot.unset).toArray = ls at hl ⊢
  have hl : lv_has ls 1 [(0, .ref h0)] := hl
  refine lv_aload_n hx hb dX5_init_0 rfl (lv_at hl 0 rfl) ?_
  refine W.objInit hx hb hown (hts (.methodLink RX5 5 objectInit) (so_in qw_181 rfl)) (hts (.instanceMethod objectInit) (so_in qw_21 rfl)) (hts (.code objectInit object_method_1_code 1 none) (so_in qw_22 rfl)) rfl (by rw [hml]; exact hl.1) rfl dX5_init_1 (Nat.le_of_ble_eq_true rfl) (Nat.le_of_ble_eq_true rfl) ?_
  refine W.eq (g2 := F0 m 4 ls []) rfl ?_
  refine lv_aload_n hx hb dX5_init_4 rfl (lv_at hl 0 rfl) ?_
  refine lv_sipush (v := 768) hx hb dX5_init_5 (by decide) ?_
  refine va_newa (atype := .int) hx hb (hts (.arrayClass .int) (so_in qw_63 rfl)) (ty := .int) rfl hK hP hD hS hA (N' := 768) (a0 := (768, .inl (fun _ => sI 0))) (fun _ => rfl) (by decide) (by decide) (Nat.le_of_ble_eq_true rfl) (Nat.le_of_ble_eq_true rfl) (Nat.le_of_ble_eq_true rfl) dX5_init_8 (fun q1 cA1 H hK1 hP hD hS => ?_)
  obtain rfl : cA1 = K 0 := ka_0 hK1
  clear hK1
  have hP : va_P D clX [(h0, .inr (5, [.null, .null, .null, .null, .null, .null, .null, .int 0, .int 0, .int 0, .long 0])), (q1, .inl (K 0, 768, .inl (fun _ => sI 0)))] H := hP
  have hD : va_D A [(h0, .inr (5, [.null, .null, .null, .null, .null, .null, .null, .int 0, .int 0, .int 0, .long 0])), (q1, .inl (K 0, 768, .inl (fun _ => sI 0)))] := hD
  refine va_putF (D := D) (ci := 5) (v := .ref q1) (ty := tyX5 0) (C := RX5) (T := TX5) (N := 11) hx hb hts inX5 tyX5 tyX5_ok nmX5 hown hK hP hD hS 0 rfl rfl 0 (by decide) (hts (.fieldLink RX5 11 RX5 "states" "[I") (so_in qw_182 rfl)) (fun _ h9 => h9) rfl hin rfl (by decide +kernel) rfl rfl (Nat.le_of_ble_eq_true rfl) dX5_init_10 (fun H locs hP hD hS => ?_)
  have hP : va_P D clX [(h0, .inr (5, [.ref q1, .null, .null, .null, .null, .null, .null, .int 0, .int 0, .int 0, .long 0])), (q1, .inl (K 0, 768, .inl (fun _ => sI 0)))] H := hP
  have hD : va_D A [(h0, .inr (5, [.ref q1, .null, .null, .null, .null, .null, .null, .int 0, .int 0, .int 0, .long 0])), (q1, .inl (K 0, 768, .inl (fun _ => sI 0)))] := hD
  refine lv_aload_n hx hb dX5_init_13 rfl (lv_at hl 0 rfl) ?_
  refine lv_sipush (v := 768) hx hb dX5_init_14 (by decide) ?_
  refine va_newa (atype := .int) hx hb (hts (.arrayClass .int) (so_in qw_63 rfl)) (ty := .int) rfl hK hP hD hS hA (N' := 768) (a0 := (768, .inl (fun _ => sI 0))) (fun _ => rfl) (by decide) (by decide) (Nat.le_of_ble_eq_true rfl) (Nat.le_of_ble_eq_true rfl) (Nat.le_of_ble_eq_true rfl) dX5_init_17 (fun q2 cA2 H hK1 hP hD hS => ?_)
  obtain rfl : cA2 = K 0 := ka_0 hK1
  clear hK1
  have hP : va_P D clX [(h0, .inr (5, [.ref q1, .null, .null, .null, .null, .null, .null, .int 0, .int 0, .int 0, .long 0])), (q1, .inl (K 0, 768, .inl (fun _ => sI 0))), (q2, .inl (K 0, 768, .inl (fun _ => sI 0)))] H := hP
  have hD : va_D A [(h0, .inr (5, [.ref q1, .null, .null, .null, .null, .null, .null, .int 0, .int 0, .int 0, .long 0])), (q1, .inl (K 0, 768, .inl (fun _ => sI 0))), (q2, .inl (K 0, 768, .inl (fun _ => sI 0)))] := hD
  refine va_putF (D := D) (ci := 5) (v := .ref q2) (ty := tyX5 1) (C := RX5) (T := TX5) (N := 11) hx hb hts inX5 tyX5 tyX5_ok nmX5 hown hK hP hD hS 0 rfl rfl 1 (by decide) (hts (.fieldLink RX5 15 RX5 "nextStates" "[I") (so_in qw_183 rfl)) (fun _ h9 => h9) rfl hin rfl (by decide +kernel) rfl rfl (Nat.le_of_ble_eq_true rfl) dX5_init_19 (fun H locs hP hD hS => ?_)
  have hP : va_P D clX [(h0, .inr (5, [.ref q1, .ref q2, .null, .null, .null, .null, .null, .int 0, .int 0, .int 0, .long 0])), (q1, .inl (K 0, 768, .inl (fun _ => sI 0))), (q2, .inl (K 0, 768, .inl (fun _ => sI 0)))] H := hP
  have hD : va_D A [(h0, .inr (5, [.ref q1, .ref q2, .null, .null, .null, .null, .null, .int 0, .int 0, .int 0, .long 0])), (q1, .inl (K 0, 768, .inl (fun _ => sI 0))), (q2, .inl (K 0, 768, .inl (fun _ => sI 0)))] := hD
  refine lv_aload_n hx hb dX5_init_22 rfl (lv_at hl 0 rfl) ?_
  refine lv_sipush (v := 768) hx hb dX5_init_23 (by decide) ?_
  refine va_newa (atype := .long) hx hb (hts (.arrayClass .long) (so_in qw_217 rfl)) (ty := .long) rfl hK hP hD hS hA (N' := 768) (a0 := (768, .inr (.inl (fun _ => 0)))) (fun _ => rfl) (by decide) (by decide) (Nat.le_of_ble_eq_true rfl) (Nat.le_of_ble_eq_true rfl) (Nat.le_of_ble_eq_true rfl) dX5_init_26 (fun q3 cA3 H hK1 hP hD hS => ?_)
  obtain rfl : cA3 = K 1 := ka_1 hK1
  clear hK1
  have hP : va_P D clX [(h0, .inr (5, [.ref q1, .ref q2, .null, .null, .null, .null, .null, .int 0, .int 0, .int 0, .long 0])), (q1, .inl (K 0, 768, .inl (fun _ => sI 0))), (q2, .inl (K 0, 768, .inl (fun _ => sI 0))), (q3, .inl (K 1, 768, .inr (.inl (fun _ => 0))))] H := hP
  have hD : va_D A [(h0, .inr (5, [.ref q1, .ref q2, .null, .null, .null, .null, .null, .int 0, .int 0, .int 0, .long 0])), (q1, .inl (K 0, 768, .inl (fun _ => sI 0))), (q2, .inl (K 0, 768, .inl (fun _ => sI 0))), (q3, .inl (K 1, 768, .inr (.inl (fun _ => 0))))] := hD
  refine va_putF (D := D) (ci := 5) (v := .ref q3) (ty := tyX5 2) (C := RX5) (T := TX5) (N := 11) hx hb hts inX5 tyX5 tyX5_ok nmX5 hown hK hP hD hS 0 rfl rfl 2 (by decide) (hts (.fieldLink RX5 18 RX5 "rows" "[J") (so_in qw_184 rfl)) (fun _ h9 => h9) rfl hin rfl (by decide +kernel) rfl rfl (Nat.le_of_ble_eq_true rfl) dX5_init_28 (fun H locs hP hD hS => ?_)
  have hP : va_P D clX [(h0, .inr (5, [.ref q1, .ref q2, .ref q3, .null, .null, .null, .null, .int 0, .int 0, .int 0, .long 0])), (q1, .inl (K 0, 768, .inl (fun _ => sI 0))), (q2, .inl (K 0, 768, .inl (fun _ => sI 0))), (q3, .inl (K 1, 768, .inr (.inl (fun _ => 0))))] H := hP
  have hD : va_D A [(h0, .inr (5, [.ref q1, .ref q2, .ref q3, .null, .null, .null, .null, .int 0, .int 0, .int 0, .long 0])), (q1, .inl (K 0, 768, .inl (fun _ => sI 0))), (q2, .inl (K 0, 768, .inl (fun _ => sI 0))), (q3, .inl (K 1, 768, .inr (.inl (fun _ => 0))))] := hD
  refine lv_aload_n hx hb dX5_init_31 rfl (lv_at hl 0 rfl) ?_
  refine lv_sipush (v := 768) hx hb dX5_init_32 (by decide) ?_
  refine va_newa (atype := .long) hx hb (hts (.arrayClass .long) (so_in qw_217 rfl)) (ty := .long) rfl hK hP hD hS hA (N' := 768) (a0 := (768, .inr (.inl (fun _ => 0)))) (fun _ => rfl) (by decide) (by decide) (Nat.le_of_ble_eq_true rfl) (Nat.le_of_ble_eq_true rfl) (Nat.le_of_ble_eq_true rfl) dX5_init_35 (fun q4 cA4 H hK1 hP hD hS => ?_)
  obtain rfl : cA4 = K 1 := ka_1 hK1
  clear hK1
  have hP : va_P D clX [(h0, .inr (5, [.ref q1, .ref q2, .ref q3, .null, .null, .null, .null, .int 0, .int 0, .int 0, .long 0])), (q1, .inl (K 0, 768, .inl (fun _ => sI 0))), (q2, .inl (K 0, 768, .inl (fun _ => sI 0))), (q3, .inl (K 1, 768, .inr (.inl (fun _ => 0)))), (q4, .inl (K 1, 768, .inr (.inl (fun _ => 0))))] H := hP
  have hD : va_D A [(h0, .inr (5, [.ref q1, .ref q2, .ref q3, .null, .null, .null, .null, .int 0, .int 0, .int 0, .long 0])), (q1, .inl (K 0, 768, .inl (fun _ => sI 0))), (q2, .inl (K 0, 768, .inl (fun _ => sI 0))), (q3, .inl (K 1, 768, .inr (.inl (fun _ => 0)))), (q4, .inl (K 1, 768, .inr (.inl (fun _ => 0))))] := hD
  refine va_putF (D := D) (ci := 5) (v := .ref q4) (ty := tyX5 3) (C := RX5) (T := TX5) (N := 11) hx hb hts inX5 tyX5 tyX5_ok nmX5 hown hK hP hD hS 0 rfl rfl 3 (by decide) (hts (.fieldLink RX5 22 RX5 "nextRows" "[J") (so_in qw_185 rfl)) (fun _ h9 => h9) rfl hin rfl (by decide +kernel) rfl rfl (Nat.le_of_ble_eq_true rfl) dX5_init_37 (fun H locs hP hD hS => ?_)
  have hP : va_P D clX [(h0, .inr (5, [.ref q1, .ref q2, .ref q3, .ref q4, .null, .null, .null, .int 0, .int 0, .int 0, .long 0])), (q1, .inl (K 0, 768, .inl (fun _ => sI 0))), (q2, .inl (K 0, 768, .inl (fun _ => sI 0))), (q3, .inl (K 1, 768, .inr (.inl (fun _ => 0)))), (q4, .inl (K 1, 768, .inr (.inl (fun _ => 0))))] H := hP
  have hD : va_D A [(h0, .inr (5, [.ref q1, .ref q2, .ref q3, .ref q4, .null, .null, .null, .int 0, .int 0, .int 0, .long 0])), (q1, .inl (K 0, 768, .inl (fun _ => sI 0))), (q2, .inl (K 0, 768, .inl (fun _ => sI 0))), (q3, .inl (K 1, 768, .inr (.inl (fun _ => 0)))), (q4, .inl (K 1, 768, .inr (.inl (fun _ => 0))))] := hD
  refine lv_aload_n hx hb dX5_init_40 rfl (lv_at hl 0 rfl) ?_
  refine lv_sipush (v := 768) hx hb dX5_init_41 (by decide) ?_
  refine va_newa (atype := .int) hx hb (hts (.arrayClass .int) (so_in qw_63 rfl)) (ty := .int) rfl hK hP hD hS hA (N' := 768) (a0 := (768, .inl (fun _ => sI 0))) (fun _ => rfl) (by decide) (by decide) (Nat.le_of_ble_eq_true rfl) (Nat.le_of_ble_eq_true rfl) (Nat.le_of_ble_eq_true rfl) dX5_init_44 (fun q5 cA5 H hK1 hP hD hS => ?_)
  obtain rfl : cA5 = K 0 := ka_0 hK1
  clear hK1
  have hP : va_P D clX [(h0, .inr (5, [.ref q1, .ref q2, .ref q3, .ref q4, .null, .null, .null, .int 0, .int 0, .int 0, .long 0])), (q1, .inl (K 0, 768, .inl (fun _ => sI 0))), (q2, .inl (K 0, 768, .inl (fun _ => sI 0))), (q3, .inl (K 1, 768, .inr (.inl (fun _ => 0)))), (q4, .inl (K 1, 768, .inr (.inl (fun _ => 0)))), (q5, .inl (K 0, 768, .inl (fun _ => sI 0)))] H := hP
  have hD : va_D A [(h0, .inr (5, [.ref q1, .ref q2, .ref q3, .ref q4, .null, .null, .null, .int 0, .int 0, .int 0, .long 0])), (q1, .inl (K 0, 768, .inl (fun _ => sI 0))), (q2, .inl (K 0, 768, .inl (fun _ => sI 0))), (q3, .inl (K 1, 768, .inr (.inl (fun _ => 0)))), (q4, .inl (K 1, 768, .inr (.inl (fun _ => 0)))), (q5, .inl (K 0, 768, .inl (fun _ => sI 0)))] := hD
  refine va_putF (D := D) (ci := 5) (v := .ref q5) (ty := tyX5 4) (C := RX5) (T := TX5) (N := 11) hx hb hts inX5 tyX5 tyX5_ok nmX5 hown hK hP hD hS 0 rfl rfl 4 (by decide) (hts (.fieldLink RX5 25 RX5 "stamps" "[I") (so_in qw_186 rfl)) (fun _ h9 => h9) rfl hin rfl (by decide +kernel) rfl rfl (Nat.le_of_ble_eq_true rfl) dX5_init_46 (fun H locs hP hD hS => ?_)
  have hP : va_P D clX [(h0, .inr (5, [.ref q1, .ref q2, .ref q3, .ref q4, .ref q5, .null, .null, .int 0, .int 0, .int 0, .long 0])), (q1, .inl (K 0, 768, .inl (fun _ => sI 0))), (q2, .inl (K 0, 768, .inl (fun _ => sI 0))), (q3, .inl (K 1, 768, .inr (.inl (fun _ => 0)))), (q4, .inl (K 1, 768, .inr (.inl (fun _ => 0)))), (q5, .inl (K 0, 768, .inl (fun _ => sI 0)))] H := hP
  have hD : va_D A [(h0, .inr (5, [.ref q1, .ref q2, .ref q3, .ref q4, .ref q5, .null, .null, .int 0, .int 0, .int 0, .long 0])), (q1, .inl (K 0, 768, .inl (fun _ => sI 0))), (q2, .inl (K 0, 768, .inl (fun _ => sI 0))), (q3, .inl (K 1, 768, .inr (.inl (fun _ => 0)))), (q4, .inl (K 1, 768, .inr (.inl (fun _ => 0)))), (q5, .inl (K 0, 768, .inl (fun _ => sI 0)))] := hD
  refine lv_aload_n hx hb dX5_init_49 rfl (lv_at hl 0 rfl) ?_
  refine lv_bipush (v := 6) hx hb dX5_init_50 (by decide) ?_
  refine va_newa (atype := .int) hx hb (hts (.arrayClass .int) (so_in qw_63 rfl)) (ty := .int) rfl hK hP hD hS hA (N' := 6) (a0 := (6, .inl (fun _ => sI 0))) (fun _ => rfl) (by decide) (by decide) (Nat.le_of_ble_eq_true rfl) (Nat.le_of_ble_eq_true rfl) (Nat.le_of_ble_eq_true rfl) dX5_init_52 (fun q6 cA6 H hK1 hP hD hS => ?_)
  obtain rfl : cA6 = K 0 := ka_0 hK1
  clear hK1
  have hP : va_P D clX [(h0, .inr (5, [.ref q1, .ref q2, .ref q3, .ref q4, .ref q5, .null, .null, .int 0, .int 0, .int 0, .long 0])), (q1, .inl (K 0, 768, .inl (fun _ => sI 0))), (q2, .inl (K 0, 768, .inl (fun _ => sI 0))), (q3, .inl (K 1, 768, .inr (.inl (fun _ => 0)))), (q4, .inl (K 1, 768, .inr (.inl (fun _ => 0)))), (q5, .inl (K 0, 768, .inl (fun _ => sI 0))), (q6, .inl (K 0, 6, .inl (fun _ => sI 0)))] H := hP
  have hD : va_D A [(h0, .inr (5, [.ref q1, .ref q2, .ref q3, .ref q4, .ref q5, .null, .null, .int 0, .int 0, .int 0, .long 0])), (q1, .inl (K 0, 768, .inl (fun _ => sI 0))), (q2, .inl (K 0, 768, .inl (fun _ => sI 0))), (q3, .inl (K 1, 768, .inr (.inl (fun _ => 0)))), (q4, .inl (K 1, 768, .inr (.inl (fun _ => 0)))), (q5, .inl (K 0, 768, .inl (fun _ => sI 0))), (q6, .inl (K 0, 6, .inl (fun _ => sI 0)))] := hD
  refine va_putF (D := D) (ci := 5) (v := .ref q6) (ty := tyX5 5) (C := RX5) (T := TX5) (N := 11) hx hb hts inX5 tyX5 tyX5_ok nmX5 hown hK hP hD hS 0 rfl rfl 5 (by decide) (hts (.fieldLink RX5 28 RX5 "cell" "[I") (so_in qw_187 rfl)) (fun _ h9 => h9) rfl hin rfl (by decide +kernel) rfl rfl (Nat.le_of_ble_eq_true rfl) dX5_init_54 (fun H locs hP hD hS => ?_)
  have hP : va_P D clX [(h0, .inr (5, [.ref q1, .ref q2, .ref q3, .ref q4, .ref q5, .ref q6, .null, .int 0, .int 0, .int 0, .long 0])), (q1, .inl (K 0, 768, .inl (fun _ => sI 0))), (q2, .inl (K 0, 768, .inl (fun _ => sI 0))), (q3, .inl (K 1, 768, .inr (.inl (fun _ => 0)))), (q4, .inl (K 1, 768, .inr (.inl (fun _ => 0)))), (q5, .inl (K 0, 768, .inl (fun _ => sI 0))), (q6, .inl (K 0, 6, .inl (fun _ => sI 0)))] H := hP
  have hD : va_D A [(h0, .inr (5, [.ref q1, .ref q2, .ref q3, .ref q4, .ref q5, .ref q6, .null, .int 0, .int 0, .int 0, .long 0])), (q1, .inl (K 0, 768, .inl (fun _ => sI 0))), (q2, .inl (K 0, 768, .inl (fun _ => sI 0))), (q3, .inl (K 1, 768, .inr (.inl (fun _ => 0)))), (q4, .inl (K 1, 768, .inr (.inl (fun _ => 0)))), (q5, .inl (K 0, 768, .inl (fun _ => sI 0))), (q6, .inl (K 0, 6, .inl (fun _ => sI 0)))] := hD
  refine lv_aload_n hx hb dX5_init_57 rfl (lv_at hl 0 rfl) ?_
  refine lv_bipush (v := 12) hx hb dX5_init_58 (by decide) ?_
  refine va_newa (atype := .int) hx hb (hts (.arrayClass .int) (so_in qw_63 rfl)) (ty := .int) rfl hK hP hD hS hA (N' := 12) (a0 := (12, .inl (fun _ => sI 0))) (fun _ => rfl) (by decide) (by decide) (Nat.le_of_ble_eq_true rfl) (Nat.le_of_ble_eq_true rfl) (Nat.le_of_ble_eq_true rfl) dX5_init_60 (fun q7 cA7 H hK1 hP hD hS => ?_)
  obtain rfl : cA7 = K 0 := ka_0 hK1
  clear hK1
  have hP : va_P D clX [(h0, .inr (5, [.ref q1, .ref q2, .ref q3, .ref q4, .ref q5, .ref q6, .null, .int 0, .int 0, .int 0, .long 0])), (q1, .inl (K 0, 768, .inl (fun _ => sI 0))), (q2, .inl (K 0, 768, .inl (fun _ => sI 0))), (q3, .inl (K 1, 768, .inr (.inl (fun _ => 0)))), (q4, .inl (K 1, 768, .inr (.inl (fun _ => 0)))), (q5, .inl (K 0, 768, .inl (fun _ => sI 0))), (q6, .inl (K 0, 6, .inl (fun _ => sI 0))), (q7, .inl (K 0, 12, .inl (fun _ => sI 0)))] H := hP
  have hD : va_D A [(h0, .inr (5, [.ref q1, .ref q2, .ref q3, .ref q4, .ref q5, .ref q6, .null, .int 0, .int 0, .int 0, .long 0])), (q1, .inl (K 0, 768, .inl (fun _ => sI 0))), (q2, .inl (K 0, 768, .inl (fun _ => sI 0))), (q3, .inl (K 1, 768, .inr (.inl (fun _ => 0)))), (q4, .inl (K 1, 768, .inr (.inl (fun _ => 0)))), (q5, .inl (K 0, 768, .inl (fun _ => sI 0))), (q6, .inl (K 0, 6, .inl (fun _ => sI 0))), (q7, .inl (K 0, 12, .inl (fun _ => sI 0)))] := hD
  refine va_putF (D := D) (ci := 5) (v := .ref q7) (ty := tyX5 6) (C := RX5) (T := TX5) (N := 11) hx hb hts inX5 tyX5 tyX5_ok nmX5 hown hK hP hD hS 0 rfl rfl 6 (by decide) (hts (.fieldLink RX5 31 RX5 "lying" "[I") (so_in qw_188 rfl)) (fun _ h9 => h9) rfl hin rfl (by decide +kernel) rfl rfl (Nat.le_of_ble_eq_true rfl) dX5_init_62 (fun H locs hP hD hS => ?_)
  have hP : va_P D clX [(h0, .inr (5, [.ref q1, .ref q2, .ref q3, .ref q4, .ref q5, .ref q6, .ref q7, .int 0, .int 0, .int 0, .long 0])), (q1, .inl (K 0, 768, .inl (fun _ => sI 0))), (q2, .inl (K 0, 768, .inl (fun _ => sI 0))), (q3, .inl (K 1, 768, .inr (.inl (fun _ => 0)))), (q4, .inl (K 1, 768, .inr (.inl (fun _ => 0)))), (q5, .inl (K 0, 768, .inl (fun _ => sI 0))), (q6, .inl (K 0, 6, .inl (fun _ => sI 0))), (q7, .inl (K 0, 12, .inl (fun _ => sI 0)))] H := hP
  have hD : va_D A [(h0, .inr (5, [.ref q1, .ref q2, .ref q3, .ref q4, .ref q5, .ref q6, .ref q7, .int 0, .int 0, .int 0, .long 0])), (q1, .inl (K 0, 768, .inl (fun _ => sI 0))), (q2, .inl (K 0, 768, .inl (fun _ => sI 0))), (q3, .inl (K 1, 768, .inr (.inl (fun _ => 0)))), (q4, .inl (K 1, 768, .inr (.inl (fun _ => 0)))), (q5, .inl (K 0, 768, .inl (fun _ => sI 0))), (q6, .inl (K 0, 6, .inl (fun _ => sI 0))), (q7, .inl (K 0, 12, .inl (fun _ => sI 0)))] := hD
  exact W.vret hx hb hr (fun t ht hW => ⟨⟨fun k => if k = 0 then h0 else if k = 1 then q1 else if k = 2 then q2 else if k = 3 then q3 else if k = 4 then q4 else if k = 5 then q5 else if k = 6 then q6 else q7, rfl, rfl, by rw [ht]; exact hP, va_K.moved hW.alike hK, hD⟩, hS.F ht⟩) hS.2.2 dX5_init_65
