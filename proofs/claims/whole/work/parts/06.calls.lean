section R2
variable {p : Program} {l : Launch} {e : Env} {R : Room} {s : State} {m : MethodId} {args : Array Value} {below : List Frame} {meth : Method} {c : Code} {D : va_G} {G : sG} {nL cs sl : Nat} {Q : State → Prop} {cc : ByteArray} {own : String}
variable {pc : Nat} {lv : List (Nat × Value)} {st : List Value} {M : sM} {L : sL}
/-! ends -/
theorem at_iret {f k : Nat} {post : Int32 → sM → sL → Prop} (C : sCx p s m args c cc own nL D G) (hr : meth.sig.returnType = some .int) (hlocks : meth.locks = false) {a : Int} (hd : decode cc pc = .ok (.ireturn, 1)) (h : post (sI a) M L) : sAt p l e (sRm f k) s m args below meth c D G nL 0 0 (MQ below (sQi D G post s.heap.size) args s 0 0 (sA G s.heap.size)) pc lv [.int (sI a)] M L := fun H locs ls hP hS hl =>
  W.iret C.1 C.2.1 hr (fun t ht hW => ⟨⟨sI a, (M, L), rfl, h, by rw [ht]; exact hP, va_K.moved hW.alike C.2.2.2.2.2.1⟩, hS.F ht⟩) hS.2.2 hd hlocks
theorem at_iretx {f k : Nat} {post : Int32 → sM → sL → Prop} (C : sCx p s m args c cc own nL D G) (hr : meth.sig.returnType = some .int) (hlocks : meth.locks = false) {a : Int32} (hd : decode cc pc = .ok (.ireturn, 1)) (h : post a M L) : sAt p l e (sRm f k) s m args below meth c D G nL 0 0 (MQ below (sQi D G post s.heap.size) args s 0 0 (sA G s.heap.size)) pc lv [.int a] M L := fun H locs ls hP hS hl =>
  W.iret C.1 C.2.1 hr (fun t ht hW => ⟨⟨a, (M, L), rfl, h, by rw [ht]; exact hP, va_K.moved hW.alike C.2.2.2.2.2.1⟩, hS.F ht⟩) hS.2.2 hd hlocks
theorem sB_nar (P : Prop) [Decidable P] : narrow .boolean (.int (sB P)) = .int (sB P) := by
  unfold sB
  by_cases h : P
  · rw [if_pos h]; decide +kernel
  · rw [if_neg h]; decide +kernel
/-- a boolean's end: the value 0 or 1 is the proposition's -/
theorem at_zret {f k : Nat} {post : Int32 → sM → sL → Prop} (C : sCx p s m args c cc own nL D G) (hr : meth.sig.returnType = some .boolean) (hlocks : meth.locks = false) {a : Int32} (P : Prop) [Decidable P] (ha : a = sB P) (hd : decode cc pc = .ok (.ireturn, 1)) (h : post (sB P) M L) : sAt p l e (sRm f k) s m args below meth c D G nL 0 0 (MQ below (sQi D G post s.heap.size) args s 0 0 (sA G s.heap.size)) pc lv [.int a] M L := fun H locs ls hP hS hl => by
  subst ha
  exact W.zret C.1 C.2.1 hr (sB_nar P) (fun t ht hW => ⟨⟨sB P, (M, L), rfl, h, by rw [ht]; exact hP, va_K.moved hW.alike C.2.2.2.2.2.1⟩, hS.F ht⟩) hS.2.2 hd hlocks
theorem at_vret {f k : Nat} {post : sM → sL → Prop} (C : sCx p s m args c cc own nL D G) (hr : meth.sig.returnType = none) (hlocks : meth.locks = false) (hd : decode cc pc = .ok (.return_, 1)) (h : post M L) : sAt p l e (sRm f k) s m args below meth c D G nL 0 0 (MQ below (sQv D G post s.heap.size) args s 0 0 (sA G s.heap.size)) pc lv [] M L := fun H locs ls hP hS hl =>
  W.vret C.1 C.2.1 hr (fun t ht hW => ⟨⟨(M, L), rfl, h, by rw [ht]; exact hP, va_K.moved hW.alike C.2.2.2.2.2.1⟩, hS.F ht⟩) hS.2.2 hd hlocks
theorem at_lret {f k : Nat} {post : Int64 → sM → sL → Prop} (C : sCx p s m args c cc own nL D G) (hr : meth.sig.returnType = some .long) (hlocks : meth.locks = false) {x : Int64} (hd : decode cc pc = .ok (.lreturn, 1)) (h : post x M L) : sAt p l e (sRm f k) s m args below meth c D G nL 0 0 (MQ below (sQl D G post s.heap.size) args s 0 0 (sA G s.heap.size)) pc lv [.long x] M L := fun H locs ls hP hS hl =>
  W.lret C.1 C.2.1 hr (fun t ht hW => ⟨⟨x, (M, L), rfl, h, by rw [ht]; exact hP, va_K.moved hW.alike C.2.2.2.2.2.1⟩, hS.F ht⟩) hS.2.2 hd hlocks
/-! calls: the whole world goes down, and comes back -/
abbrev sNm (y : MethodName) (n : Nat) : Prop := y.cls ≠ "java/lang/invoke/MethodHandle" ∧ y.cls ≠ "java/lang/invoke/VarHandle" ∧ (parseMethodDescriptor y.desc).map (fun d => d.parameters.length) = some n
theorem sCw (C : sCx p s m args c cc own nL D G) {y : MethodName} {b : ByteArray} {n f k na index : Nat} {ret : Option FieldType} (qc : Cond.code y b n ret ∈ lw_tbl) (ql : Cond.methodLink own index y ∈ lw_tbl) (qi : Cond.initialized y.cls ∈ lw_tbl) (hn : sNm y na) (hR : f + 1 ≤ R.frames ∧ 8 + (n + 11) + k ≤ R.locals) : CallB R s args own index y b n ret (.code y b n ret :: so_tbl) (sRm f k) 0 0 na :=
  callB_of na C.2.2.2.2.1 (so_good qc rfl) rfl rfl rfl (C.2.2.2.2.1 _ (so_in qi rfl)) (C.2.2.2.2.1 _ (so_in ql rfl)) hn hR
theorem sFree {H : Heap} {locs : List Loc} (hS : va_S (sA G s.heap.size) s.heap H locs) : ∀ q, sA G H.size q → sA G s.heap.size q := fun q h => by
  rcases h with h | h
  · exact Or.inl h
  · exact Or.inr (Nat.le_trans hS.1 h)
theorem sPreU (C : sCx p s m args c cc own nL D G) {H : Heap} {locs : List Loc} (hP : va_P D clX (sWs G M L) H) (hS : va_S (sA G s.heap.size) s.heap H locs) (U : State) (hU : U.heap = H) (hW : s.WarmedH U.vm) : sPre D G M L H.size U :=
  ⟨by rw [hU], by rw [hU]; exact hP, va_K.moved hW.alike C.2.2.2.2.2.1, C.2.2.2.2.2.2.1, by rw [hU]; exact ((C.2.2.2.2.2.2.2.kept (fun a h1 h2 => hS.2.1 a h1 h2)).narrow (sFree hS)).warm hW⟩
theorem sPreS (C : sCx p s m args c cc own nL D G) {H : Heap} {locs : List Loc} (hP : va_P D clX (sWs G M L) H) (hS : va_S (sA G s.heap.size) s.heap H locs) (As : List Value) : PreS s H (va_Pc As (sPre D G M L H.size)) As :=
  ⟨sBlind D G M L H.size As, fun U hU hW => ⟨rfl, sPreU C hP hS U hU hW⟩⟩
theorem sPreV (C : sCx p s m args c cc own nL D G) {H : Heap} {locs : List Loc} {Cn : String} {T : u_T} {N ci a : Nat} {F : (Nat → Int) → (Nat → Int64) → List Value} (ho : obj G a ci F) (hc : clX[ci]? = some (Cn, T, N)) (hP : va_P D clX (sWs G M L) H) (hS : va_S (sA G s.heap.size) s.heap H locs) (As : List Value) : PreV s H Cn (G.1 a) (va_Pc (.ref (G.1 a) :: As) (sPre D G M L H.size)) As :=
  ⟨sBlind D G M L H.size _, va_recv C.2.2.2.2.2.1 hP (ci := ci) (q0 := a) hc (by rw [sWs_get G M L ho.1, ho.2]), fun U hU hW => ⟨rfl, sPreU C hP hS U hU hW⟩⟩
abbrev sRoom (R : Room) (cs sl : Nat) : Prop := cs ≤ R.cells ∧ sl ≤ R.slots
theorem at_call_i (C : sCx p s m args c cc own nL D G) {y : MethodName} {b : ByteArray} {n f k index a ci N : Nat} {rt : FieldType} {T : u_T} {F : (Nat → Int) → (Nat → Int64) → List Value} {As : List Value} {post : Int32 → sM → sL → Prop} (hK : sKi l D G y b n rt f k (.ref (G.1 a) :: As) M L post) (ho : obj G a ci F) (hc : clX[ci]? = some (y.cls, T, N)) (qc : Cond.code y b n (some rt) ∈ lw_tbl) (ql : Cond.methodLink own index y ∈ lw_tbl) (qi : Cond.initialized y.cls ∈ lw_tbl) (qn : Cond.instanceMethod y ∈ lw_tbl) (qs : Cond.selects y.cls y y ∈ lw_tbl) (hn : sNm y As.length) (hR : f + 1 ≤ R.frames ∧ 8 + (n + 11) + k ≤ R.locals) (hR2 : sRoom R cs sl) (hst : (st.map fun v => v.category).sum ≤ 8) (hd : decode cc pc = .ok (.invokevirtual index, 3)) {stk : List Value} (hstk : stk = As.reverse ++ .ref (G.1 a) :: st) (kk : ∀ r M' L', post r M' L' → sAt p l e R s m args below meth c D G nL cs sl Q (pc + 3) lv (.int r :: st) M' L') : sAt p l e R s m args below meth c D G nL cs sl Q pc lv stk M L := fun H locs ls hP hS hl => by
  subst hstk
  refine va_calli (va_runV (As := As) (rest := st) ⟨C.1, C.2.1, C.2.2.1, C.2.2.2.1, C.2.2.2.2.1⟩ (hK H.size) ⟨sCw C qc ql qi hn hR, C.2.2.2.2.1 _ (so_in qn rfl), C.2.2.2.2.1 _ (so_in qs rfl)⟩ (sPreV C ho hc hP hS As) rfl rfl hl.1 rfl (lv_room hst) hd hR2) hS (fun q _ h => sFree hS q h) (sFree hS) (fun r u t H1 locs1 ht hvm hw hB hz hk hS1 => ?_)
  obtain ⟨hP1, hK1⟩ := hB
  rw [ht] at hP1
  exact kk r u.1 u.2 hw H1 locs1 ls hP1 hS1 hl
theorem at_stat_i (C : sCx p s m args c cc own nL D G) {y : MethodName} {b : ByteArray} {n f k index : Nat} {rt : FieldType} {As : List Value} {post : Int32 → sM → sL → Prop} (hK : sKi l D G y b n rt f k As M L post) (qc : Cond.code y b n (some rt) ∈ lw_tbl) (ql : Cond.methodLink own index y ∈ lw_tbl) (qi : Cond.initialized y.cls ∈ lw_tbl) (qs : Cond.static y ∈ lw_tbl) (hn : sNm y As.length) (hR : f + 1 ≤ R.frames ∧ 8 + (n + 11) + k ≤ R.locals) (hR2 : sRoom R cs sl) (hst : (st.map fun v => v.category).sum ≤ 8) (hd : decode cc pc = .ok (.invokestatic index, 3)) {stk : List Value} (hstk : stk = As.reverse ++ st) (kk : ∀ r M' L', post r M' L' → sAt p l e R s m args below meth c D G nL cs sl Q (pc + 3) lv (.int r :: st) M' L') : sAt p l e R s m args below meth c D G nL cs sl Q pc lv stk M L := fun H locs ls hP hS hl => by
  subst hstk
  refine va_calli (va_runS (As := As) (rest := st) ⟨C.1, C.2.1, C.2.2.1, C.2.2.2.1, C.2.2.2.2.1⟩ (hK H.size) ⟨sCw C qc ql qi hn hR, C.2.2.2.2.1 _ (so_in qs rfl)⟩ (sPreS C hP hS As) rfl rfl hl.1 rfl (lv_room hst) hd hR2) hS (fun q _ h => sFree hS q h) (sFree hS) (fun r u t H1 locs1 ht hvm hw hB hz hk hS1 => ?_)
  obtain ⟨hP1, hK1⟩ := hB
  rw [ht] at hP1
  exact kk r u.1 u.2 hw H1 locs1 ls hP1 hS1 hl
theorem at_nest_i (C : sCx p s m args c cc own nL D G) {y : MethodName} {b : ByteArray} {n f k index : Nat} {rt : FieldType} {As : List Value} {post : Int32 → sM → sL → Prop} (hK : sKi l D G y b n rt f k As M L post) (qc : Cond.code y b n (some rt) ∈ lw_tbl) {host : String} (ql : (own, index, y, host) ∈ nestS) (qi : Cond.initialized y.cls ∈ lw_tbl) (qs : Cond.static y ∈ lw_tbl) (hn : sNm y As.length) (hR : f + 1 ≤ R.frames ∧ 8 + (n + 11) + k ≤ R.locals) (hR2 : sRoom R cs sl) (hst : (st.map fun v => v.category).sum ≤ 8) (hd : decode cc pc = .ok (.invokestatic index, 3)) {stk : List Value} (hstk : stk = As.reverse ++ st) (kk : ∀ r M' L', post r M' L' → sAt p l e R s m args below meth c D G nL cs sl Q (pc + 3) lv (.int r :: st) M' L') : sAt p l e R s m args below meth c D G nL cs sl Q pc lv stk M L := fun H locs ls hP hS hl => by
  subst hstk
  refine va_calli (va_runSN (As := As) (rest := st) ⟨C.1, C.2.1, C.2.2.1, C.2.2.2.1, C.2.2.2.2.1⟩ (hK H.size) ⟨va_cnB As.length C.2.2.2.2.1 (so_good qc rfl) rfl rfl rfl (C.2.2.2.2.2.2.2.2.2.2.2 _ ql) (C.2.2.2.2.1 _ (so_in qi rfl)) hn hR, C.2.2.2.2.1 _ (so_in qs rfl), trivial⟩ (sPreS C hP hS As) rfl rfl hl.1 rfl (lv_room hst) hd hR2) hS (fun q _ h => sFree hS q h) (sFree hS) (fun r u t H1 locs1 ht hvm hw hB hz hk hS1 => ?_)
  obtain ⟨hP1, hK1⟩ := hB
  rw [ht] at hP1
  exact kk r u.1 u.2 hw H1 locs1 ls hP1 hS1 hl
theorem at_call_l (C : sCx p s m args c cc own nL D G) {y : MethodName} {b : ByteArray} {n f k index a ci N : Nat} {T : u_T} {F : (Nat → Int) → (Nat → Int64) → List Value} {As : List Value} {post : Int64 → sM → sL → Prop} (hK : sKl l D G y b n f k (.ref (G.1 a) :: As) M L post) (ho : obj G a ci F) (hc : clX[ci]? = some (y.cls, T, N)) (qc : Cond.code y b n (some .long) ∈ lw_tbl) (ql : Cond.methodLink own index y ∈ lw_tbl) (qi : Cond.initialized y.cls ∈ lw_tbl) (qn : Cond.instanceMethod y ∈ lw_tbl) (qs : Cond.selects y.cls y y ∈ lw_tbl) (hn : sNm y As.length) (hR : f + 1 ≤ R.frames ∧ 8 + (n + 11) + k ≤ R.locals) (hR2 : sRoom R cs sl) (hst : (st.map fun v => v.category).sum ≤ 8) (hd : decode cc pc = .ok (.invokevirtual index, 3)) {stk : List Value} (hstk : stk = As.reverse ++ .ref (G.1 a) :: st) (kk : ∀ r M' L', post r M' L' → sAt p l e R s m args below meth c D G nL cs sl Q (pc + 3) lv (.long r :: st) M' L') : sAt p l e R s m args below meth c D G nL cs sl Q pc lv stk M L := fun H locs ls hP hS hl => by
  subst hstk
  refine va_calll (va_runV (As := As) (rest := st) ⟨C.1, C.2.1, C.2.2.1, C.2.2.2.1, C.2.2.2.2.1⟩ (hK H.size) ⟨sCw C qc ql qi hn hR, C.2.2.2.2.1 _ (so_in qn rfl), C.2.2.2.2.1 _ (so_in qs rfl)⟩ (sPreV C ho hc hP hS As) rfl rfl hl.1 rfl (lv_room hst) hd hR2) hS (fun q _ h => sFree hS q h) (sFree hS) (fun r u t H1 locs1 ht hvm hw hB hz hk hS1 => ?_)
  obtain ⟨hP1, hK1⟩ := hB
  rw [ht] at hP1
  exact kk r u.1 u.2 hw H1 locs1 ls hP1 hS1 hl
theorem at_call_v (C : sCx p s m args c cc own nL D G) {y : MethodName} {b : ByteArray} {n f k index a ci N : Nat} {T : u_T} {F : (Nat → Int) → (Nat → Int64) → List Value} {As : List Value} {post : sM → sL → Prop} (hK : sKv l D G y b n f k (.ref (G.1 a) :: As) M L post) (ho : obj G a ci F) (hc : clX[ci]? = some (y.cls, T, N)) (qc : Cond.code y b n none ∈ lw_tbl) (ql : Cond.methodLink own index y ∈ lw_tbl) (qi : Cond.initialized y.cls ∈ lw_tbl) (qn : Cond.instanceMethod y ∈ lw_tbl) (qs : Cond.selects y.cls y y ∈ lw_tbl) (hn : sNm y As.length) (hR : f + 1 ≤ R.frames ∧ 8 + (n + 11) + k ≤ R.locals) (hR2 : sRoom R cs sl) (hst : (st.map fun v => v.category).sum ≤ 8) (hd : decode cc pc = .ok (.invokevirtual index, 3)) {stk : List Value} (hstk : stk = As.reverse ++ .ref (G.1 a) :: st) (kk : ∀ M' L', post M' L' → sAt p l e R s m args below meth c D G nL cs sl Q (pc + 3) lv st M' L') : sAt p l e R s m args below meth c D G nL cs sl Q pc lv stk M L := fun H locs ls hP hS hl => by
  subst hstk
  refine va_callv (va_runV (As := As) (rest := st) ⟨C.1, C.2.1, C.2.2.1, C.2.2.2.1, C.2.2.2.2.1⟩ (hK H.size) ⟨sCw C qc ql qi hn hR, C.2.2.2.2.1 _ (so_in qn rfl), C.2.2.2.2.1 _ (so_in qs rfl)⟩ (sPreV C ho hc hP hS As) rfl rfl hl.1 rfl (lv_room hst) hd hR2) hS (fun q _ h => sFree hS q h) (sFree hS) (fun u t H1 locs1 ht hvm hw hB hz hk hS1 => ?_)
  obtain ⟨hP1, hK1⟩ := hB
  rw [ht] at hP1
  exact kk u.1 u.2 hw H1 locs1 ls hP1 hS1 hl
theorem at_stat_v (C : sCx p s m args c cc own nL D G) {y : MethodName} {b : ByteArray} {n f k index : Nat} {As : List Value} {post : sM → sL → Prop} (hK : sKv l D G y b n f k As M L post) (qc : Cond.code y b n none ∈ lw_tbl) (ql : Cond.methodLink own index y ∈ lw_tbl) (qi : Cond.initialized y.cls ∈ lw_tbl) (qs : Cond.static y ∈ lw_tbl) (hn : sNm y As.length) (hR : f + 1 ≤ R.frames ∧ 8 + (n + 11) + k ≤ R.locals) (hR2 : sRoom R cs sl) (hst : (st.map fun v => v.category).sum ≤ 8) (hd : decode cc pc = .ok (.invokestatic index, 3)) {stk : List Value} (hstk : stk = As.reverse ++ st) (kk : ∀ M' L', post M' L' → sAt p l e R s m args below meth c D G nL cs sl Q (pc + 3) lv st M' L') : sAt p l e R s m args below meth c D G nL cs sl Q pc lv stk M L := fun H locs ls hP hS hl => by
  subst hstk
  refine va_callv (va_runS (As := As) (rest := st) ⟨C.1, C.2.1, C.2.2.1, C.2.2.2.1, C.2.2.2.2.1⟩ (hK H.size) ⟨sCw C qc ql qi hn hR, C.2.2.2.2.1 _ (so_in qs rfl)⟩ (sPreS C hP hS As) rfl rfl hl.1 rfl (lv_room hst) hd hR2) hS (fun q _ h => sFree hS q h) (sFree hS) (fun u t H1 locs1 ht hvm hw hB hz hk hS1 => ?_)
  obtain ⟨hP1, hK1⟩ := hB
  rw [ht] at hP1
  exact kk u.1 u.2 hw H1 locs1 ls hP1 hS1 hl
/-! the JDK's own -/
theorem at_mmax (C : sCx p s m args c cc own nL D G) {index : Nat} {a b : Int} (ql : Cond.methodLink own index yJ9_max_7cf53 ∈ lw_tbl) (ha : InR a) (hb : InR b) (hR : 1 ≤ R.frames ∧ (st.map fun v => v.category).sum + 13 ≤ R.locals) (hR2 : sRoom R cs sl) (hd : decode cc pc = .ok (.invokestatic index, 3)) (k : sAt p l e R s m args below meth c D G nL cs sl Q (pc + 3) lv (.int (sI (max a b)) :: st) M L) : sAt p l e R s m args below meth c D G nL cs sl Q pc lv (.int (sI b) :: .int (sI a) :: st) M L := fun H locs ls hP hS hl => by
  refine va_mmax C.1 C.2.1 (by rw [C.2.2.1]; exact hl.1.symm) C.2.2.2.1 (C.2.2.2.2.1 _ (so_in ql rfl)) (C.2.2.2.2.1 _ (so_in (by decide +kernel) rfl)) (C.2.2.2.2.1 _ (so_in (by decide +kernel) rfl)) (C.2.2.2.2.1 _ (so_in (by decide +kernel) rfl)) hR.1 hR.2 hR2.1 hR2.2 hd ?_
  have e : (if sI a < sI b then sI b else sI a) = sI (max a b) := by
    by_cases h : a < b
    · rw [if_pos ((sI_lt ha hb).mpr h), show max a b = b by omega]
    · rw [if_neg (fun z => h ((sI_lt ha hb).mp z)), show max a b = a by omega]
  rw [e]
  exact k H locs ls hP hS hl
theorem at_mmin (C : sCx p s m args c cc own nL D G) {index : Nat} {a b : Int} (ql : Cond.methodLink own index yJ9_min_7cf53 ∈ lw_tbl) (ha : InR a) (hb : InR b) (hR : 1 ≤ R.frames ∧ (st.map fun v => v.category).sum + 13 ≤ R.locals) (hR2 : sRoom R cs sl) (hd : decode cc pc = .ok (.invokestatic index, 3)) (k : sAt p l e R s m args below meth c D G nL cs sl Q (pc + 3) lv (.int (sI (min a b)) :: st) M L) : sAt p l e R s m args below meth c D G nL cs sl Q pc lv (.int (sI b) :: .int (sI a) :: st) M L := fun H locs ls hP hS hl => by
  refine va_mmin C.1 C.2.1 (by rw [C.2.2.1]; exact hl.1.symm) C.2.2.2.1 (C.2.2.2.2.1 _ (so_in ql rfl)) (C.2.2.2.2.1 _ (so_in (by decide +kernel) rfl)) (C.2.2.2.2.1 _ (so_in (by decide +kernel) rfl)) (C.2.2.2.2.1 _ (so_in (by decide +kernel) rfl)) hR.1 hR.2 hR2.1 hR2.2 hd ?_
  have e : (if sI b < sI a then sI b else sI a) = sI (min a b) := by
    by_cases h : b < a
    · rw [if_pos ((sI_lt hb ha).mpr h), show min a b = b by omega]
    · rw [if_neg (fun z => h ((sI_lt hb ha).mp z)), show min a b = a by omega]
  rw [e]
  exact k H locs ls hP hS hl
theorem at_mabs (C : sCx p s m args c cc own nL D G) {index : Nat} {a : Int} (ql : Cond.methodLink own index yJ9_abs_0f7a4 ∈ lw_tbl) (ha : InR a) (hR : 1 ≤ R.frames ∧ (st.map fun v => v.category).sum + 13 ≤ R.locals) (hR2 : sRoom R cs sl) (hd : decode cc pc = .ok (.invokestatic index, 3)) (k : sAt p l e R s m args below meth c D G nL cs sl Q (pc + 3) lv (.int (sI (if 0 ≤ a then a else -a)) :: st) M L) : sAt p l e R s m args below meth c D G nL cs sl Q pc lv (.int (sI a) :: st) M L := fun H locs ls hP hS hl => by
  refine va_mabs C.1 C.2.1 (by rw [C.2.2.1]; exact hl.1.symm) C.2.2.2.1 (C.2.2.2.2.1 _ (so_in ql rfl)) (C.2.2.2.2.1 _ (so_in (by decide +kernel) rfl)) (C.2.2.2.2.1 _ (so_in (by decide +kernel) rfl)) (C.2.2.2.2.1 _ (so_in (by decide +kernel) rfl)) hR.1 hR.2 hR2.1 hR2.2 hd ?_
  have hz : InR 0 := ⟨by omega, by omega⟩
  have e : (if 0 ≤ sI a then sI a else 0 - sI a) = sI (if 0 ≤ a then a else -a) := by
    rw [sI_0]
    by_cases h : 0 ≤ a
    · rw [if_pos ((sI_le hz ha).mpr h), if_pos h]
    · rw [if_neg (fun z => h ((sI_le hz ha).mp z)), if_neg h, sI_sub, Int.zero_sub]
  rw [e]
  exact k H locs ls hP hS hl
/-- System.arraycopy over ints: whole rows, or parts of them -/
def sCpy (M : sM) (a b : Nat) (sp dp n : Nat) : sM := sSr M b (fun k => if dp ≤ k ∧ k < dp + n then M a (sp + (k - dp)) else M b k)
theorem at_copyI (C : sCx p s m args c cc own nL D G) {index a b na nb : Nat} {spi dpi ni : Int} (sp dp n : Nat) (ql : Cond.methodLink own index arraycopyName ∈ lw_tbl) (ha : arI G a na) (hb : arI G b nb) (h1 : spi = (sp : Int)) (h2 : dpi = (dp : Int)) (h3 : ni = (n : Int)) (h4 : sp + n ≤ na) (h5 : dp + n ≤ nb) (hR : 1 ≤ R.frames ∧ (st.map fun v => v.category).sum + (nativeFrameWords "java/lang/System" "arraycopy" 5 + 11) ≤ R.locals) (hd : decode cc pc = .ok (.invokestatic index, 3)) (k : sAt p l e R s m args below meth c D G nL cs sl Q (pc + 3) lv st (sCpy M a b sp dp n) L) : sAt p l e R s m args below meth c D G nL cs sl Q pc lv (.int (sI ni) :: .int (sI dpi) :: .ref (G.1 b) :: .int (sI spi) :: .ref (G.1 a) :: st) M L := fun H locs ls hP hS hl => by
  subst h1 h2 h3
  have g1 := ha.2.1
  have g2 := hb.2.1
  have nz : ∀ z : Nat, z < 2 ^ 31 → ¬ sI (z : Int) < 0 := fun z hz => by
    rw [sI_0, sI_lt ⟨by omega, by omega⟩ ⟨by omega, by omega⟩]
    omega
  refine va_copyi C.1 C.2.1 (by rw [C.2.2.1]; exact hl.1.symm) C.2.2.2.1 (C.2.2.2.2.1 _ (so_in ql rfl)) (C.2.2.2.2.1 _ (so_in (by decide +kernel) rfl)) (C.2.2.2.2.1 _ (so_in (by decide +kernel) rfl)) (C.2.2.2.2.1 _ (so_in (by decide +kernel) rfl)) C.2.2.2.2.2.1 hP (sWs_D C.2.2.2.2.2.2.1 _ M L) hS a b 0 0 (n0 := na) (n1 := nb) (f := fun j => sI (M a j)) (g := fun j => sI (M b j)) (ty := .int) (by rw [sWs_get G M L ha.1, ha.2.2]) (by rw [sWs_get G M L hb.1, hb.2.2]) rfl rfl rfl (nz _ (by omega)) (nz _ (by omega)) (nz _ (by omega)) (by rw [sI_idx (by omega), sI_idx (by omega)]; exact h4) (by rw [sI_idx (by omega), sI_idx (by omega)]; exact h5) (fun i _ => rfl) hR.1 hR.2 hd (fun H1 locs1 hP1 _ hS1 => ?_)
  rw [sI_idx (by omega), sI_idx (by omega), sI_idx (by omega)] at hP1
  have e : va_cpy (fun j => sI (M a j)) (fun j => sI (M b j)) sp dp n = fun j => sI (if dp ≤ j ∧ j < dp + n then M a (sp + (j - dp)) else M b j) := by
    funext j
    unfold va_cpy
    by_cases hj : dp ≤ j ∧ j < dp + n
    · rw [if_pos hj, if_pos hj]
    · rw [if_neg hj, if_neg hj]
  rw [e] at hP1
  have hP2 : va_P D clX ((sWs G M L).set b (G.1 b, shp G b (fun j => if dp ≤ j ∧ j < dp + n then M a (sp + (j - dp)) else M b j) (L b))) H1 := by rw [hb.2.2]; exact hP1
  rw [sWs_setM G M L hb.1] at hP2
  exact k H1 locs1 ls hP2 hS1 hl
def sCpl (L : sL) (a b : Nat) (sp dp n : Nat) : sL := sSq L b (fun k => if dp ≤ k ∧ k < dp + n then L a (sp + (k - dp)) else L b k)
theorem at_copyL (C : sCx p s m args c cc own nL D G) {index a b na nb : Nat} {spi dpi ni : Int} (sp dp n : Nat) (ql : Cond.methodLink own index arraycopyName ∈ lw_tbl) (ha : arJ G a na) (hb : arJ G b nb) (h1 : spi = (sp : Int)) (h2 : dpi = (dp : Int)) (h3 : ni = (n : Int)) (h4 : sp + n ≤ na) (h5 : dp + n ≤ nb) (hR : 1 ≤ R.frames ∧ (st.map fun v => v.category).sum + (nativeFrameWords "java/lang/System" "arraycopy" 5 + 11) ≤ R.locals) (hd : decode cc pc = .ok (.invokestatic index, 3)) (k : sAt p l e R s m args below meth c D G nL cs sl Q (pc + 3) lv st M (sCpl L a b sp dp n)) : sAt p l e R s m args below meth c D G nL cs sl Q pc lv (.int (sI ni) :: .int (sI dpi) :: .ref (G.1 b) :: .int (sI spi) :: .ref (G.1 a) :: st) M L := fun H locs ls hP hS hl => by
  subst h1 h2 h3
  have g1 := ha.2.1
  have g2 := hb.2.1
  have nz : ∀ z : Nat, z < 2 ^ 31 → ¬ sI (z : Int) < 0 := fun z hz => by
    rw [sI_0, sI_lt ⟨by omega, by omega⟩ ⟨by omega, by omega⟩]
    omega
  refine va_copyl C.1 C.2.1 (by rw [C.2.2.1]; exact hl.1.symm) C.2.2.2.1 (C.2.2.2.2.1 _ (so_in ql rfl)) (C.2.2.2.2.1 _ (so_in (by decide +kernel) rfl)) (C.2.2.2.2.1 _ (so_in (by decide +kernel) rfl)) (C.2.2.2.2.1 _ (so_in (by decide +kernel) rfl)) C.2.2.2.2.2.1 hP (sWs_D C.2.2.2.2.2.2.1 _ M L) hS a b 1 1 (n0 := na) (n1 := nb) (f := L a) (g := L b) (ty := .long) (by rw [sWs_get G M L ha.1, ha.2.2]) (by rw [sWs_get G M L hb.1, hb.2.2]) rfl rfl rfl (nz _ (by omega)) (nz _ (by omega)) (nz _ (by omega)) (by rw [sI_idx (by omega), sI_idx (by omega)]; exact h4) (by rw [sI_idx (by omega), sI_idx (by omega)]; exact h5) (fun i _ => rfl) hR.1 hR.2 hd (fun H1 locs1 hP1 _ hS1 => ?_)
  rw [sI_idx (by omega), sI_idx (by omega), sI_idx (by omega)] at hP1
  have hP2 : va_P D clX ((sWs G M L).set b (G.1 b, shp G b (M b) (fun j => if dp ≤ j ∧ j < dp + n then L a (sp + (j - dp)) else L b j))) H1 := by rw [hb.2.2]; exact hP1
  rw [sWs_setL G M L hb.1] at hP2
  exact k H1 locs1 ls hP2 hS1 hl
/-! switches -/
theorem at_tsw (C : sCx p s m args c cc own nL D G) {dflt lo hi : Int} {offs : Array Int} {len : Nat} {a : Int} (hd : decode cc pc = .ok (.tableswitch dflt lo hi offs, len)) (ha : InR a) (tgt : Nat) (h : ((a < lo ∨ hi < a) ∧ (pc : Int) + dflt = (tgt : Int)) ∨ (lo ≤ a ∧ a ≤ hi ∧ ∃ off, offs[(a - lo).toNat]? = some off ∧ (pc : Int) + off = (tgt : Int))) (k : sAt p l e R s m args below meth c D G nL cs sl Q tgt lv st M L) : sAt p l e R s m args below meth c D G nL cs sl Q pc lv (.int (sI a) :: st) M L := fun H locs ls hP hS hl => by
  rcases h with ⟨h1, h2⟩ | ⟨h1, h2, off, h3, h4⟩
  · exact lv_tableOut C.1 C.2.1 hd (by rw [sI_t ha]; exact h1) h2 (k H locs ls hP hS hl)
  · exact lv_tableIn C.1 C.2.1 hd (by rw [sI_t ha]; omega) (by rw [sI_t ha]; omega) (by rw [sI_t ha]; exact h3) h4 (k H locs ls hP hS hl)
end R2
/-! a method from its entry: Q, and the ends that come to it -/
theorem sKi_go {l : Launch} {D : va_G} {G : sG} {y : MethodName} {b : ByteArray} {n : Nat} {f k : Nat} {As : List Value} {M : sM} {L : sL} {post : Int32 → sM → sL → Prop} (hy : plainName y.cls = true) (hlen : (lg_sl As).length ≤ n)
    (body : ∀ (p : Program) (e : Env) (s : State) (m : MethodId) (args : Array Value) (below : List Frame) (meth : Method) (c : Code) (Q : State → Prop), sCx p s m args c b y.cls n D G →
      (∀ pc lv a M' L', decode b pc = .ok (.ireturn, 1) → post a M' L' → sAt p l e (sRm f k) s m args below meth c D G n 0 0 Q pc lv [.int a] M' L') →
      sAt p l e (sRm f k) s m args below meth c D G n 0 0 Q 0 (lv_args 0 As) [] M L) : sKi l D G y b n .int f k As M L post :=
  sKi_of hy hlen (fun p e s m args below meth c C hr hk => body p e s m args below meth c _ C (fun pc lv a M' L' hd h => at_iretx C hr hk hd h))
theorem sKz_go {l : Launch} {D : va_G} {G : sG} {y : MethodName} {b : ByteArray} {n : Nat} {f k : Nat} {As : List Value} {M : sM} {L : sL} {P : Prop} [Decidable P] {post : sM → sL → Prop} (hy : plainName y.cls = true) (hlen : (lg_sl As).length ≤ n)
    (body : ∀ (p : Program) (e : Env) (s : State) (m : MethodId) (args : Array Value) (below : List Frame) (meth : Method) (c : Code) (Q : State → Prop), sCx p s m args c b y.cls n D G →
      (∀ pc lv a M' L', decode b pc = .ok (.ireturn, 1) → a = sB P → post M' L' → sAt p l e (sRm f k) s m args below meth c D G n 0 0 Q pc lv [.int a] M' L') →
      sAt p l e (sRm f k) s m args below meth c D G n 0 0 Q 0 (lv_args 0 As) [] M L) : sKi l D G y b n .boolean f k As M L (fun r M' L' => r = sB P ∧ post M' L') :=
  sKi_of hy hlen (fun p e s m args below meth c C hr hk => body p e s m args below meth c _ C (fun pc lv a M' L' hd ha h => at_zret C hr hk P ha hd ⟨rfl, h⟩))
theorem sKv_go {l : Launch} {D : va_G} {G : sG} {y : MethodName} {b : ByteArray} {n : Nat} {f k : Nat} {As : List Value} {M : sM} {L : sL} {post : sM → sL → Prop} (hy : plainName y.cls = true) (hlen : (lg_sl As).length ≤ n)
    (body : ∀ (p : Program) (e : Env) (s : State) (m : MethodId) (args : Array Value) (below : List Frame) (meth : Method) (c : Code) (Q : State → Prop), sCx p s m args c b y.cls n D G →
      (∀ pc lv M' L', decode b pc = .ok (.return_, 1) → post M' L' → sAt p l e (sRm f k) s m args below meth c D G n 0 0 Q pc lv [] M' L') →
      sAt p l e (sRm f k) s m args below meth c D G n 0 0 Q 0 (lv_args 0 As) [] M L) : sKv l D G y b n f k As M L post :=
  sKv_of hy hlen (fun p e s m args below meth c C hr hk => body p e s m args below meth c _ C (fun pc lv M' L' hd h => at_vret C hr hk hd h))
theorem sKl_go {l : Launch} {D : va_G} {G : sG} {y : MethodName} {b : ByteArray} {n : Nat} {f k : Nat} {As : List Value} {M : sM} {L : sL} {post : Int64 → sM → sL → Prop} (hy : plainName y.cls = true) (hlen : (lg_sl As).length ≤ n)
    (body : ∀ (p : Program) (e : Env) (s : State) (m : MethodId) (args : Array Value) (below : List Frame) (meth : Method) (c : Code) (Q : State → Prop), sCx p s m args c b y.cls n D G →
      (∀ pc lv a M' L', decode b pc = .ok (.lreturn, 1) → post a M' L' → sAt p l e (sRm f k) s m args below meth c D G n 0 0 Q pc lv [.long a] M' L') →
      sAt p l e (sRm f k) s m args below meth c D G n 0 0 Q 0 (lv_args 0 As) [] M L) : sKl l D G y b n f k As M L post :=
  sKl_of hy hlen (fun p e s m args below meth c C hr hk => body p e s m args below meth c _ C (fun pc lv a M' L' hd h => at_lret C hr hk hd h))
theorem lvc_s {x : Nat × Value} {t t' : List (Nat × Value)} (h : t = t') : x :: t = x :: t' := by rw [h]
theorem lvc_i {i : Nat} {a b : Int} {t t' : List (Nat × Value)} (h : a = b) (ht : t = t') : (i, Value.int (sI a)) :: t = (i, Value.int (sI b)) :: t' := by rw [h, ht]
theorem lvc_l {i : Nat} {a b : Int64} {t t' : List (Nat × Value)} (h : a = b) (ht : t = t') : (i, Value.long a) :: t = (i, Value.long b) :: t' := by rw [h, ht]
theorem sB_c {P P' : Prop} [Decidable P] [Decidable P'] (h : P ↔ P') : sB P = sB P' := by
  unfold sB
  by_cases hp : P
  · rw [if_pos hp, if_pos (h.mp hp)]
  · rw [if_neg hp, if_neg (fun z => hp (h.mpr z))]
theorem lvc_b {i : Nat} {P P' : Prop} [Decidable P] [Decidable P'] {t t' : List (Nat × Value)} (h : P ↔ P') (ht : t = t') : (i, Value.int (sB P)) :: t = (i, Value.int (sB P')) :: t' := by
  rw [ht, sB_c h]
