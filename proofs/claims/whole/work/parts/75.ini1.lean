/-! the constructors -/
abbrev tyK (K : Nat → ClassId) : List (ClassId × FieldType) := [(K 0, .int), (K 1, .long), (K 2, .byte), (K 3, .boolean), (K 4, .object RX1), (K 5, .object RX0)]
theorem ka_0 {D : va_G} {s : State} {K : Nat → ClassId} {cA : ClassId} (h : va_K D clX (tyK K ++ [(cA, .int)]) s) : cA = K 0 := Option.some.inj (((h.2 6 (cA, .int) rfl).2 : s.vm.findClass ("[" ++ FieldType.int.toString) = some cA).symm.trans (h.2 0 (K 0, .int) rfl).2)
theorem ka_1 {D : va_G} {s : State} {K : Nat → ClassId} {cA : ClassId} (h : va_K D clX (tyK K ++ [(cA, .long)]) s) : cA = K 1 := Option.some.inj (((h.2 6 (cA, .long) rfl).2 : s.vm.findClass ("[" ++ FieldType.long.toString) = some cA).symm.trans (h.2 1 (K 1, .long) rfl).2)
theorem ka_2 {D : va_G} {s : State} {K : Nat → ClassId} {cA : ClassId} (h : va_K D clX (tyK K ++ [(cA, .byte)]) s) : cA = K 2 := Option.some.inj (((h.2 6 (cA, .byte) rfl).2 : s.vm.findClass ("[" ++ FieldType.byte.toString) = some cA).symm.trans (h.2 2 (K 2, .byte) rfl).2)
theorem ka_3 {D : va_G} {s : State} {K : Nat → ClassId} {cA : ClassId} (h : va_K D clX (tyK K ++ [(cA, .boolean)]) s) : cA = K 3 := Option.some.inj (((h.2 6 (cA, .boolean) rfl).2 : s.vm.findClass ("[" ++ FieldType.boolean.toString) = some cA).symm.trans (h.2 3 (K 3, .boolean) rfl).2)
/-- a cell as at first -/
abbrev m0 : Nat → Int := fun _ => 0
abbrev l0 : Nat → Int64 := fun _ => 0
def wMo (a : Nat → Nat) (K : Nat → ClassId) : va_W := [(a 0, .inr (1, fMom (a, K) 0 m0 l0)), (a 1, sAI (a, K) 6 m0), (a 2, sAI (a, K) 6 m0), (a 3, sAI (a, K) 6 m0)]
set_option maxHeartbeats 4000000 in
set_option maxRecDepth 100000 in
theorem c_X1_init (l : Launch) (D : va_G) (K : Nat → ClassId) (h0 sz : Nat) : Met l yX1_init (.code yX1_init cX1_init 1 none :: so_tbl) { frames := 1, cells := 3, slots := 18, locals := 12 } (va_Pc [.ref h0] (fun U => U.heap.size = sz ∧ va_P D clX [(h0, .inr (1, [.null, .null, .null, .int 0, .int 0]))] U.heap ∧ va_K D clX (tyK K) U ∧ va_D (fun _ => True) [(h0, .inr (1, [.null, .null, .null, .int 0, .int 0]))])) (va_Qv (fun a : Nat → Nat => a 0 = h0) (fun a t => va_P D clX (wMo a K) t.heap ∧ va_K D clX (tyK K) t ∧ va_D (va_A [(h0, .inr (1, [.null, .null, .null, .int 0, .int 0]))] sz) (wMo a K)) (va_A [(h0, .inr (1, [.null, .null, .null, .int 0, .int 0]))] sz)) 3 18 (va_A [(h0, .inr (1, [.null, .null, .null, .int 0, .int 0]))] sz) := by
  refine Met.ofW (cc := cX1_init) (maxL := 1) (ret := none) (by decide) rfl ?_
  intro p e s m args below meth c s₁ B hml hv
  obtain ⟨rfl, hsz, hP, hK, hD0⟩ := hv
  have hx := B.exec
  have hb := B.bytes
  have hr := B.returns
  have hts0 := atoms_spec (ws := .code yX1_init cX1_init 1 none :: so_tbl) B.pre
  have hts : ∀ w ∈ so_tbl, w.before _ s = true := fun w hw => hts0 w (List.mem_cons_of_mem _ hw)
  have hown : s.vm.findClass RX1 = some m.cls := findClass_of_methodNamed B.named
  have hin : meth.name = "<init>" := (name_of_methodNamed B.named B.method).1
  subst hsz
  have hD := hD0.self (sz := s.heap.size)
  generalize hAe : va_A [(h0, .inr (1, [.null, .null, .null, .int 0, .int 0]))] s.heap.size = A at hD ⊢
  have hA : ∀ q : Nat, s.heap.size ≤ q → A q := fun q h => by rw [← hAe]; exact Or.inr h
  have hS : va_S A s.heap s.heap [] := va_S.rf
  have hP : va_P D clX [(h0, .inr (1, [.null, .null, .null, .int 0, .int 0]))] s.heap := hP
  have hl := lv_entry ([.ref h0]) (n := 1) (Nat.le_of_ble_eq_true rfl)
  rw [lg_entry_eq]
  generalize (lg_sl ([.ref h0]) ++ List.replicate (1 - (lg_sl ([.ref h0])).length) Slot.unset).toArray = ls at hl ⊢
  have hl : lv_has ls 1 [(0, .ref h0)] := hl
  refine lv_aload_n hx hb dX1_init_0 rfl (lv_at hl 0 rfl) ?_
  refine W.objInit hx hb hown (hts (.methodLink RX1 3 objectInit) (so_in qw_34 rfl)) (hts (.instanceMethod objectInit) (so_in qw_21 rfl)) (hts (.code objectInit object_method_1_code 1 none) (so_in qw_22 rfl)) rfl (by rw [hml]; exact hl.1) rfl dX1_init_1 (Nat.le_of_ble_eq_true rfl) (Nat.le_of_ble_eq_true rfl) ?_
  refine W.eq (g2 := F0 m 4 ls []) rfl ?_
  refine lv_aload_n hx hb dX1_init_4 rfl (lv_at hl 0 rfl) ?_
  refine lv_bipush (v := 6) hx hb dX1_init_5 (by decide) ?_
  refine va_newa (atype := .int) hx hb (hts (.arrayClass .int) (so_in qw_63 rfl)) (ty := .int) rfl hK hP hD hS hA (N' := 6) (a0 := (6, .inl (fun _ => sI 0))) (fun _ => rfl) (by decide) (by decide) (Nat.le_of_ble_eq_true rfl) (Nat.le_of_ble_eq_true rfl) (Nat.le_of_ble_eq_true rfl) dX1_init_7 (fun q1 cA1 H hK1 hP hD hS => ?_)
  obtain rfl : cA1 = K 0 := ka_0 hK1
  clear hK1
  have hP : va_P D clX [(h0, .inr (1, [.null, .null, .null, .int 0, .int 0])), (q1, .inl (K 0, 6, .inl (fun _ => sI 0)))] H := hP
  have hD : va_D A [(h0, .inr (1, [.null, .null, .null, .int 0, .int 0])), (q1, .inl (K 0, 6, .inl (fun _ => sI 0)))] := hD
  refine va_putF (D := D) (ci := 1) (v := .ref q1) (ty := tyX1 0) (C := RX1) (T := TX1) (N := 5) hx hb hts inX1 tyX1 tyX1_ok nmX1 hown hK hP hD hS 0 rfl rfl 0 (by decide) (hts (.fieldLink RX1 9 RX1 "cell" "[I") (so_in qw_35 rfl)) (fun _ h9 => h9) rfl hin rfl (by decide +kernel) rfl rfl (Nat.le_of_ble_eq_true rfl) dX1_init_9 (fun H locs hP hD hS => ?_)
  have hP : va_P D clX [(h0, .inr (1, [.ref q1, .null, .null, .int 0, .int 0])), (q1, .inl (K 0, 6, .inl (fun _ => sI 0)))] H := hP
  have hD : va_D A [(h0, .inr (1, [.ref q1, .null, .null, .int 0, .int 0])), (q1, .inl (K 0, 6, .inl (fun _ => sI 0)))] := hD
  refine lv_aload_n hx hb dX1_init_12 rfl (lv_at hl 0 rfl) ?_
  refine lv_bipush (v := 6) hx hb dX1_init_13 (by decide) ?_
  refine va_newa (atype := .int) hx hb (hts (.arrayClass .int) (so_in qw_63 rfl)) (ty := .int) rfl hK hP hD hS hA (N' := 6) (a0 := (6, .inl (fun _ => sI 0))) (fun _ => rfl) (by decide) (by decide) (Nat.le_of_ble_eq_true rfl) (Nat.le_of_ble_eq_true rfl) (Nat.le_of_ble_eq_true rfl) dX1_init_15 (fun q2 cA2 H hK1 hP hD hS => ?_)
  obtain rfl : cA2 = K 0 := ka_0 hK1
  clear hK1
  have hP : va_P D clX [(h0, .inr (1, [.ref q1, .null, .null, .int 0, .int 0])), (q1, .inl (K 0, 6, .inl (fun _ => sI 0))), (q2, .inl (K 0, 6, .inl (fun _ => sI 0)))] H := hP
  have hD : va_D A [(h0, .inr (1, [.ref q1, .null, .null, .int 0, .int 0])), (q1, .inl (K 0, 6, .inl (fun _ => sI 0))), (q2, .inl (K 0, 6, .inl (fun _ => sI 0)))] := hD
  refine va_putF (D := D) (ci := 1) (v := .ref q2) (ty := tyX1 1) (C := RX1) (T := TX1) (N := 5) hx hb hts inX1 tyX1 tyX1_ok nmX1 hown hK hP hD hS 0 rfl rfl 1 (by decide) (hts (.fieldLink RX1 15 RX1 "holder" "[I") (so_in qw_39 rfl)) (fun _ h9 => h9) rfl hin rfl (by decide +kernel) rfl rfl (Nat.le_of_ble_eq_true rfl) dX1_init_17 (fun H locs hP hD hS => ?_)
  have hP : va_P D clX [(h0, .inr (1, [.ref q1, .ref q2, .null, .int 0, .int 0])), (q1, .inl (K 0, 6, .inl (fun _ => sI 0))), (q2, .inl (K 0, 6, .inl (fun _ => sI 0)))] H := hP
  have hD : va_D A [(h0, .inr (1, [.ref q1, .ref q2, .null, .int 0, .int 0])), (q1, .inl (K 0, 6, .inl (fun _ => sI 0))), (q2, .inl (K 0, 6, .inl (fun _ => sI 0)))] := hD
  refine lv_aload_n hx hb dX1_init_20 rfl (lv_at hl 0 rfl) ?_
  refine lv_bipush (v := 6) hx hb dX1_init_21 (by decide) ?_
  refine va_newa (atype := .int) hx hb (hts (.arrayClass .int) (so_in qw_63 rfl)) (ty := .int) rfl hK hP hD hS hA (N' := 6) (a0 := (6, .inl (fun _ => sI 0))) (fun _ => rfl) (by decide) (by decide) (Nat.le_of_ble_eq_true rfl) (Nat.le_of_ble_eq_true rfl) (Nat.le_of_ble_eq_true rfl) dX1_init_23 (fun q3 cA3 H hK1 hP hD hS => ?_)
  obtain rfl : cA3 = K 0 := ka_0 hK1
  clear hK1
  have hP : va_P D clX [(h0, .inr (1, [.ref q1, .ref q2, .null, .int 0, .int 0])), (q1, .inl (K 0, 6, .inl (fun _ => sI 0))), (q2, .inl (K 0, 6, .inl (fun _ => sI 0))), (q3, .inl (K 0, 6, .inl (fun _ => sI 0)))] H := hP
  have hD : va_D A [(h0, .inr (1, [.ref q1, .ref q2, .null, .int 0, .int 0])), (q1, .inl (K 0, 6, .inl (fun _ => sI 0))), (q2, .inl (K 0, 6, .inl (fun _ => sI 0))), (q3, .inl (K 0, 6, .inl (fun _ => sI 0)))] := hD
  refine va_putF (D := D) (ci := 1) (v := .ref q3) (ty := tyX1 2) (C := RX1) (T := TX1) (N := 5) hx hb hts inX1 tyX1 tyX1_ok nmX1 hown hK hP hD hS 0 rfl rfl 2 (by decide) (hts (.fieldLink RX1 18 RX1 "dry" "[I") (so_in qw_43 rfl)) (fun _ h9 => h9) rfl hin rfl (by decide +kernel) rfl rfl (Nat.le_of_ble_eq_true rfl) dX1_init_25 (fun H locs hP hD hS => ?_)
  have hP : va_P D clX [(h0, .inr (1, [.ref q1, .ref q2, .ref q3, .int 0, .int 0])), (q1, .inl (K 0, 6, .inl (fun _ => sI 0))), (q2, .inl (K 0, 6, .inl (fun _ => sI 0))), (q3, .inl (K 0, 6, .inl (fun _ => sI 0)))] H := hP
  have hD : va_D A [(h0, .inr (1, [.ref q1, .ref q2, .ref q3, .int 0, .int 0])), (q1, .inl (K 0, 6, .inl (fun _ => sI 0))), (q2, .inl (K 0, 6, .inl (fun _ => sI 0))), (q3, .inl (K 0, 6, .inl (fun _ => sI 0)))] := hD
  exact W.vret hx hb hr (fun t ht hW => ⟨⟨fun k => if k = 0 then h0 else if k = 1 then q1 else if k = 2 then q2 else q3, rfl, rfl, by rw [ht]; exact hP, va_K.moved hW.alike hK, hD⟩, hS.F ht⟩) hS.2.2 dX1_init_28
