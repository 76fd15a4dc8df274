/-! the law's start: what the Statement gives of it -/
def tmS (i : Nat) : Term := .string RX3 (indS i)
abbrev fC : List Cond := flatC (Jvm.Cond.and given_1 narrow_1)
theorem en_ex : ∀ i, i < 6 → Cond.exactly (tmS i) "java/lang/String" ∈ fC := by decide +kernel
theorem en_co : ∀ i, i < 6 → Cond.eq (.field (tmS i) "java/lang/String" "coder" "B") (.int 0) ∈ fC := by decide +kernel
theorem en_ar : ∀ i, i < 6 → Cond.arrayOf (.field (tmS i) "java/lang/String" "value" "[B") .byte ∈ fC := by decide +kernel
theorem en_le : ∀ i, i < 6 → Cond.eq (.length (.field (tmS i) "java/lang/String" "value" "[B")) (.int (Int32.ofNat (lenS.getD i 0))) ∈ fC := by decide +kernel
theorem en_el : ∀ i, i < 6 → ∀ j, j < lenS.getD i 0 → Cond.eq (.elem (.field (tmS i) "java/lang/String" "value" "[B") (.int (Int32.ofNat j))) (.int ((bytS.getD i []).getD j 0)) ∈ fC := by decide +kernel
theorem en_ne : ∀ i, i < 6 → ∀ j, j < 6 → i ≠ j → Cond.not (Cond.eq (tmS i) (tmS j)) ∈ fC ∨ Cond.not (Cond.eq (tmS j) (tmS i)) ∈ fC := by decide +kernel
theorem en_cs : Cond.eq (.static "java/lang/String" "COMPACT_STRINGS" "Z") (.int 1) ∈ fC := by decide +kernel
theorem en_sf : Cond.isRef (.static "jdk/internal/util/Preconditions" "SIOOBE_FORMATTER" "Ljava/util/function/BiFunction;") ∈ fC := by decide +kernel
theorem en_nest : ∀ q ∈ nestS, Cond.methodLinkNest q.1 q.2.1 q.2.2.1 q.2.2.2 ∈ lw_tbl := by
  unfold nestS
  exact List.forall_mem_cons.mpr ⟨qw_31, List.forall_mem_cons.mpr ⟨qw_143, List.forall_mem_cons.mpr ⟨qw_178, List.forall_mem_cons.mpr ⟨qw_220, List.forall_mem_cons.mpr ⟨qw_445, List.forall_mem_cons.mpr ⟨qw_510, List.forall_mem_cons.mpr ⟨qw_513, List.forall_mem_cons.mpr ⟨qw_580, List.forall_mem_cons.mpr ⟨qw_642, List.forall_mem_cons.mpr ⟨qw_693, fun _ h => absurd h List.not_mem_nil⟩⟩⟩⟩⟩⟩⟩⟩⟩⟩
theorem en_a1 : Cond.arrayOver (.object RX1) ∈ lw_tbl := by decide +kernel
theorem en_a0 : Cond.arrayOver (.object RX0) ∈ lw_tbl := by decide +kernel
section ES
variable {args : Array Value} {s : State} {A : Nat → Prop}
theorem en_S (h : (Jvm.Cond.and given_1 narrow_1).before args s = true) (hA : ∀ a : Nat, a < s.heap.size → ¬ A a) : ∃ adK adV : Nat → Nat, vk_S 6 lenS bytS adK adV A s s.heap ∧ ∀ i : Nat, i < 6 → (tmS i).eval args s none [] s = some (.ref (adK i)) := by
  have hs := flat_of_before _ h
  exact vk_Sof (tm := tmS) (fun i hi => by have := lenS_r i hi; omega) (fun i hi => hs _ (en_ex i hi)) (fun i hi => hs _ (en_co i hi)) (fun i hi => hs _ (en_ar i hi)) (fun i hi => hs _ (en_le i hi)) (fun i hi j hj => hs _ (en_el i hi j hj)) (fun i j hi hj hij => (en_ne i hi j hj hij).imp (hs _) (hs _)) hA
theorem en_C (h : (Jvm.Cond.and given_1 narrow_1).before args s = true) (hts : ∀ w ∈ lw_tbl, w.before args s = true) (hA : ∀ a : Nat, a < s.heap.size → ¬ A a) : va_Z "java/lang/String" "COMPACT_STRINGS" "Z" (.int 1) A s s.heap :=
  va_Zof (hts (.laysStatic "java/lang/String" "COMPACT_STRINGS" "Z") (so_T 389 (by decide +kernel))) (hts _ qw_9) (va_eqi (flat_of_before _ h _ en_cs)) hA
theorem en_F (h : (Jvm.Cond.and given_1 narrow_1).before args s = true) (hts : ∀ w ∈ lw_tbl, w.before args s = true) (hA : ∀ a : Nat, a < s.heap.size → ¬ A a) : va_Zq "jdk/internal/util/Preconditions" "SIOOBE_FORMATTER" "Ljava/util/function/BiFunction;" A s s.heap :=
  va_Zqof (hts (.laysStatic "jdk/internal/util/Preconditions" "SIOOBE_FORMATTER" "Ljava/util/function/BiFunction;") (so_T 405 (by decide +kernel))) (hts _ qw_11) (flat_of_before _ h _ en_sf) hA
theorem en_str (hts : ∀ w ∈ lw_tbl, w.before args s = true) : ∀ i, i < 6 → (Cond.stringRef RX3 (indS i) (txtS i)).before args s = true
  | 0, _ => hts _ qw_375
  | 1, _ => hts _ qw_428
  | 2, _ => hts _ qw_429
  | 3, _ => hts _ qw_430
  | 4, _ => hts _ qw_431
  | 5, _ => hts _ qw_432
  | k + 6, h => absurd h (by omega)
theorem en_Nw (hts : ∀ w ∈ lw_tbl, w.before args s = true) : sNw s := fun q hq => va_Nw.of rfl (hts _ (en_nest q hq))
theorem en_xE (hts : ∀ w ∈ lw_tbl, w.before args s = true) : xE s := ⟨en_Nw hts, va_AO.of (hts _ en_a1), va_AO.of (hts _ en_a0)⟩
theorem en_cls (hs : ∀ w ∈ so_tbl, w.before args s = true) : ∃ D : va_G, ∀ (k : Nat) (q : vw_C), clX[k]? = some q → u_Kn s q.1 q.2.1 q.2.2 (D.1 k) (D.2 k) := by
  obtain ⟨c0, i0, h0⟩ := u_known (C := RX0) (T := TX0) (N := 12) (n := 12) hs inX0 (hs (.instantiable RX0 12) (so_in qw_24 rfl))
  obtain ⟨c1, i1, h1⟩ := u_known (C := RX1) (T := TX1) (N := 5) (n := 5) hs inX1 (hs (.instantiable RX1 5) (so_in qw_30 rfl))
  obtain ⟨c2, i2, h2⟩ := u_known (C := RX2) (T := TX2) (N := 7) (n := 7) hs inX2 (hs (.instantiable RX2 7) (so_in qw_219 rfl))
  obtain ⟨c3, i3, h3⟩ := u_known (C := RX3) (T := TX3) (N := 7) (n := 7) hs inX3 (hs (.instantiable RX3 7) (so_in qw_142 rfl))
  obtain ⟨c4, i4, h4⟩ := u_known (C := RX4) (T := TX4) (N := 4) (n := 4) hs inX4 (hs (.instantiable RX4 4) (so_in qw_66 rfl))
  obtain ⟨c5, i5, h5⟩ := u_known (C := RX5) (T := TX5) (N := 11) (n := 11) hs inX5 (hs (.instantiable RX5 11) (so_in qw_177 rfl))
  obtain ⟨c6, i6, h6⟩ := u_known (C := RX6) (T := TX6) (N := 13) (n := 13) hs inX6 (hs (.instantiable RX6 13) (so_in qw_16 rfl))
  obtain ⟨c7, i7, h7⟩ := u_known (C := RX7) (T := TX7) (N := 36) (n := 36) hs inX7 (hs (.instantiable RX7 36) (so_in qw_873 rfl))
  refine ⟨(fun k => if k = 0 then c0 else if k = 1 then c1 else if k = 2 then c2 else if k = 3 then c3 else if k = 4 then c4 else if k = 5 then c5 else if k = 6 then c6 else c7, fun k => if k = 0 then i0 else if k = 1 then i1 else if k = 2 then i2 else if k = 3 then i3 else if k = 4 then i4 else if k = 5 then i5 else if k = 6 then i6 else i7), ?_⟩
  intro k q hq
  match k, hq with
  | 0, hq => obtain rfl := Option.some.inj hq; exact h0
  | 1, hq => obtain rfl := Option.some.inj hq; exact h1
  | 2, hq => obtain rfl := Option.some.inj hq; exact h2
  | 3, hq => obtain rfl := Option.some.inj hq; exact h3
  | 4, hq => obtain rfl := Option.some.inj hq; exact h4
  | 5, hq => obtain rfl := Option.some.inj hq; exact h5
  | 6, hq => obtain rfl := Option.some.inj hq; exact h6
  | 7, hq => obtain rfl := Option.some.inj hq; exact h7
  | k + 8, hq => exact absurd (List.getElem?_eq_some_iff.mp hq).1 (fun z => absurd z (by show ¬ k + 8 < 8; omega))
theorem st_arr {ty : FieldType} (h : (Cond.arrayClass ty).before args s = true) : ∃ cA : ClassId, ArrOfT s cA ty ∧ s.vm.findClass ("[" ++ ty.toString) = some cA := by
  obtain ⟨cA, kA, comp, h1, h2, h3⟩ := Cond.arrayClass_spec h
  exact ⟨cA, fun n z => ⟨fun k h => (by cases h), kA, h2, comp, h3⟩, h1⟩
theorem st_arq {C : String} (h : (Cond.arrayOver (.object C)).before args s = true) : ∃ cA : ClassId, ArrOfT s cA (.object C) ∧ va_RA s cA (.object C) := by
  obtain ⟨comp, cA, kA, f4, _, f2, f3, f1⟩ := Cond.arrayOver_spec h
  exact ⟨cA, fun n z => ⟨fun k h => (by cases h), kA, f2, comp, f3⟩, kA, comp, f2, f3, f4, f1⟩
theorem en_arr (hts : ∀ w ∈ lw_tbl, w.before args s = true) : ∃ K : Nat → ClassId, ∀ (k : Nat) (q : ClassId × FieldType), (tyK K)[k]? = some q → ArrOfT s q.1 q.2 ∧ va_RA s q.1 q.2 := by
  obtain ⟨k0, a0, r0⟩ := st_arr (hts _ qw_63)
  obtain ⟨k1, a1, r1⟩ := st_arr (hts _ qw_217)
  obtain ⟨k2, a2, r2⟩ := st_arr (hts _ qw_175)
  obtain ⟨k3, a3, r3⟩ := st_arr (hts _ qw_174)
  obtain ⟨k4, a4, r4⟩ := st_arq (hts _ en_a1)
  obtain ⟨k5, a5, r5⟩ := st_arq (hts _ en_a0)
  refine ⟨fun k => if k = 0 then k0 else if k = 1 then k1 else if k = 2 then k2 else if k = 3 then k3 else if k = 4 then k4 else k5, ?_⟩
  intro k q hq
  match k, hq with
  | 0, hq => obtain rfl := Option.some.inj hq; exact ⟨a0, r0⟩
  | 1, hq => obtain rfl := Option.some.inj hq; exact ⟨a1, r1⟩
  | 2, hq => obtain rfl := Option.some.inj hq; exact ⟨a2, r2⟩
  | 3, hq => obtain rfl := Option.some.inj hq; exact ⟨a3, r3⟩
  | 4, hq => obtain rfl := Option.some.inj hq; exact ⟨a4, r4⟩
  | 5, hq => obtain rfl := Option.some.inj hq; exact ⟨a5, r5⟩
  | k + 6, hq => exact absurd (List.getElem?_eq_some_iff.mp hq).1 (fun z => absurd z (by show ¬ k + 6 < 6; omega))
end ES
