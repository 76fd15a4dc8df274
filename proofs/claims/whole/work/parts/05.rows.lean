/-- what lies outside our cells: the six words of the reader, two statics of the JDK, the links to private members of nest mates -/
def lenS : List Nat := [5, 4, 6, 4, 4, 5]
def bytS : List (List Int32) := [[115, 104, 111, 114, 101], [115, 111, 117, 108], [99, 97, 108, 108, 101, 114], [119, 97, 108, 107], [99, 97, 108, 108], [116, 105, 100, 101, 115]]
def txtS (i : Nat) : String := ["shore", "soul", "caller", "walk", "call", "tides"].getD i ""
def indS (i : Nat) : Nat := [132, 138, 140, 142, 144, 146].getD i 0
def nestS : List (String × Nat × MethodName × String) := [(RX0, 26, yX1_init, RX6), (RX6, 29, yX3_init, RX6), (RX6, 36, yX5_init, RX6), (RX6, 43, yX2_init, RX6), (RX3, 112, yX6_within, RX6), (RX0, 107, yX6_weighed, RX6), (RX0, 111, yX6_heaviness, RX6), (RX0, 92, yX6_within, RX6), (RX5, 47, yX6_contains, RX6), (RX2, 74, yX6_contains, RX6)]
def sNw (U : State) : Prop := ∀ q ∈ nestS, va_Nw (.methodLinkNest q.1 q.2.1 q.2.2.1 q.2.2.2) U
def sXt (G : sG) (sz : Nat) (U : State) (H : Heap) : Prop :=
  vk_S 6 lenS bytS (fun i => G.1 (300 + i)) (fun i => G.1 (310 + i)) (sA G sz) U H ∧ va_Z "java/lang/String" "COMPACT_STRINGS" "Z" (.int 1) (sA G sz) U H ∧ va_Zq "jdk/internal/util/Preconditions" "SIOOBE_FORMATTER" "Ljava/util/function/BiFunction;" (sA G sz) U H ∧ (∀ i, i < 6 → vk_R RX3 (indS i) (txtS i) (G.1 (300 + i)) U) ∧ sNw U
theorem sXt.kept {G : sG} {sz : Nat} {U : State} {H H1 : Heap} (h : sXt G sz U H) (hq : ∀ a : Nat, a < H.size → ¬ sA G sz a → H1[a]? = H[a]?) : sXt G sz U H1 :=
  ⟨h.1.kept hq, h.2.1.kept hq, h.2.2.1.kept hq, h.2.2.2⟩
theorem sXt.narrow {G : sG} {sz sz1 : Nat} {U : State} {H : Heap} (h : sXt G sz U H) (hz : ∀ q, sA G sz1 q → sA G sz q) : sXt G sz1 U H :=
  ⟨h.1.narrow hz, h.2.1.narrow hz, h.2.2.1.narrow hz, h.2.2.2⟩
theorem sXt.warm {G : sG} {sz : Nat} {s U : State} {H : Heap} (hW : s.WarmedH U.vm) (h : sXt G sz s H) : sXt G sz U H :=
  ⟨vk_S.moved hW.alike h.1, va_Z.moved hW.alike h.2.1, va_Zq.moved hW.alike h.2.2.1, fun i hi => (h.2.2.2.1 i hi).warm hW, fun q hq => va_Nw.warmM hW (h.2.2.2.2 q hq)⟩
theorem sXt.same {G : sG} {sz : Nat} {s U : State} {H : Heap} (hv : U.vm = s.vm) (ha : s.vm.Alike U.vm) (h : sXt G sz s H) : sXt G sz U H :=
  ⟨vk_S.moved ha h.1, va_Z.moved ha h.2.1, va_Zq.moved ha h.2.2.1, fun i hi => (h.2.2.2.1 i hi).same hv, fun q hq => va_Nw.same rfl hv.symm (h.2.2.2.2 q hq)⟩
/-- what holds all through a method: the machine, its code, the tables' words, the classes, the addresses -/
def sCx (p : Program) (s : State) (m : MethodId) (args : Array Value) (c : Code) (cc : ByteArray) (own : String) (nL : Nat) (D : va_G) (G : sG) : Prop :=
  p.tables.exec = Jvm.exec ∧ c.code = cc ∧ c.maxLocals = nL ∧ s.vm.findClass own = some m.cls ∧ (∀ w ∈ so_tbl, w.before args s = true) ∧ va_K D clX (sTy G) s ∧ sIn G ∧ sXt G s.heap.size s s.heap
/-- from here (pc, the locals, the stack, the memory) the machine comes to Q -/
def sAt (p : Program) (l : Launch) (e : Env) (R : Room) (s : State) (m : MethodId) (args : Array Value) (below : List Frame) (meth : Method) (c : Code) (D : va_G) (G : sG) (nL cs sl : Nat) (Q : State → Prop) (pc : Nat) (lv : List (Nat × Value)) (st : List Value) (M : sM) (L : sL) : Prop :=
  ∀ (H : Heap) (locs : List Loc) (ls : Array Slot), va_P D clX (sWs G M L) H → va_S (sA G s.heap.size) s.heap H locs → lv_has ls nL lv → W p l e R s m args below meth c H locs cs sl Q (F0 m pc ls st)
/-- contracts: int (and boolean, byte), long, nothing -/
def sPre (D : va_G) (G : sG) (M : sM) (L : sL) (sz : Nat) : State → Prop := fun U => U.heap.size = sz ∧ va_P D clX (sWs G M L) U.heap ∧ va_K D clX (sTy G) U ∧ sIn G ∧ sXt G sz U U.heap
def sAf (D : va_G) (G : sG) : sM × sL → State → Prop := fun u t => va_P D clX (sWs G u.1 u.2) t.heap ∧ va_K D clX (sTy G) t
def sQi (D : va_G) (G : sG) (post : Int32 → sM → sL → Prop) (sz : Nat) : Array Value → State → Outcome → State → Prop := va_Qi (fun r u => post r u.1 u.2) (sAf D G) (sA G sz)
def sQl (D : va_G) (G : sG) (post : Int64 → sM → sL → Prop) (sz : Nat) : Array Value → State → Outcome → State → Prop := va_Ql (fun r u => post r u.1 u.2) (sAf D G) (sA G sz)
def sQv (D : va_G) (G : sG) (post : sM → sL → Prop) (sz : Nat) : Array Value → State → Outcome → State → Prop := va_Qv (fun u => post u.1 u.2) (sAf D G) (sA G sz)
abbrev sRm (f k : Nat) : Room := { frames := f, cells := 0, slots := 0, locals := k }
def sKi (l : Launch) (D : va_G) (G : sG) (y : MethodName) (b : ByteArray) (n : Nat) (rt : FieldType) (f k : Nat) (As : List Value) (M : sM) (L : sL) (post : Int32 → sM → sL → Prop) : Prop :=
  ∀ sz : Nat, Met l y (.code y b n (some rt) :: so_tbl) (sRm f k) (va_Pc As (sPre D G M L sz)) (sQi D G post sz) 0 0 (sA G sz)
def sKl (l : Launch) (D : va_G) (G : sG) (y : MethodName) (b : ByteArray) (n : Nat) (f k : Nat) (As : List Value) (M : sM) (L : sL) (post : Int64 → sM → sL → Prop) : Prop :=
  ∀ sz : Nat, Met l y (.code y b n (some .long) :: so_tbl) (sRm f k) (va_Pc As (sPre D G M L sz)) (sQl D G post sz) 0 0 (sA G sz)
def sKv (l : Launch) (D : va_G) (G : sG) (y : MethodName) (b : ByteArray) (n : Nat) (f k : Nat) (As : List Value) (M : sM) (L : sL) (post : sM → sL → Prop) : Prop :=
  ∀ sz : Nat, Met l y (.code y b n none :: so_tbl) (sRm f k) (va_Pc As (sPre D G M L sz)) (sQv D G post sz) 0 0 (sA G sz)
theorem sBlind (D : va_G) (G : sG) (M : sM) (L : sL) (sz : Nat) (As : List Value) : FrameBlind (va_Pc As (sPre D G M L sz)) := fun a U g mk q => by
  obtain ⟨q0, q1, qP, qK, qD, qX⟩ := q
  exact ⟨q0, q1, qP, va_K.moved (u := U) (U := U.calling g mk a) (Vm.Alike.refl U.vm) qK, qD, sXt.same (s := U) (U := U.calling g mk a) rfl (Vm.Alike.refl U.vm) qX⟩
theorem sKi_of {l : Launch} {D : va_G} {G : sG} {y : MethodName} {b : ByteArray} {n : Nat} {rt : FieldType} {f k : Nat} {As : List Value} {M : sM} {L : sL} {post : Int32 → sM → sL → Prop} (hy : plainName y.cls = true) (hlen : (lg_sl As).length ≤ n)
    (body : ∀ (p : Program) (e : Env) (s : State) (m : MethodId) (args : Array Value) (below : List Frame) (meth : Method) (c : Code), sCx p s m args c b y.cls n D G → meth.sig.returnType = some rt → meth.locks = false →
      sAt p l e (sRm f k) s m args below meth c D G n 0 0 (MQ below (sQi D G post s.heap.size) args s 0 0 (sA G s.heap.size)) 0 (lv_args 0 As) [] M L) : sKi l D G y b n rt f k As M L post := by
  intro sz
  refine Met.ofW (cc := b) (maxL := n) (ret := some rt) hy rfl ?_
  intro p e s m args below meth c s₁ B hml hv
  obtain ⟨rfl, hsz, hP, hK, hD, hX⟩ := hv
  subst hsz
  have hown : s.vm.findClass y.cls = some m.cls := findClass_of_methodNamed B.named
  have h := body p e s m As.toArray below meth c ⟨B.exec, B.bytes, hml, hown, fun w hw => atoms_spec (ws := .code y b n (some rt) :: so_tbl) B.pre w (List.mem_cons_of_mem _ hw), hK, hD, hX⟩ B.returns B.notSynchronized
  rw [lg_entry_eq]
  exact h s.heap [] _ hP va_S.rf (lv_entry As hlen)
theorem sKl_of {l : Launch} {D : va_G} {G : sG} {y : MethodName} {b : ByteArray} {n : Nat} {f k : Nat} {As : List Value} {M : sM} {L : sL} {post : Int64 → sM → sL → Prop} (hy : plainName y.cls = true) (hlen : (lg_sl As).length ≤ n)
    (body : ∀ (p : Program) (e : Env) (s : State) (m : MethodId) (args : Array Value) (below : List Frame) (meth : Method) (c : Code), sCx p s m args c b y.cls n D G → meth.sig.returnType = some .long → meth.locks = false →
      sAt p l e (sRm f k) s m args below meth c D G n 0 0 (MQ below (sQl D G post s.heap.size) args s 0 0 (sA G s.heap.size)) 0 (lv_args 0 As) [] M L) : sKl l D G y b n f k As M L post := by
  intro sz
  refine Met.ofW (cc := b) (maxL := n) (ret := some .long) hy rfl ?_
  intro p e s m args below meth c s₁ B hml hv
  obtain ⟨rfl, hsz, hP, hK, hD, hX⟩ := hv
  subst hsz
  have hown : s.vm.findClass y.cls = some m.cls := findClass_of_methodNamed B.named
  have h := body p e s m As.toArray below meth c ⟨B.exec, B.bytes, hml, hown, fun w hw => atoms_spec (ws := .code y b n (some .long) :: so_tbl) B.pre w (List.mem_cons_of_mem _ hw), hK, hD, hX⟩ B.returns B.notSynchronized
  rw [lg_entry_eq]
  exact h s.heap [] _ hP va_S.rf (lv_entry As hlen)
theorem sKv_of {l : Launch} {D : va_G} {G : sG} {y : MethodName} {b : ByteArray} {n : Nat} {f k : Nat} {As : List Value} {M : sM} {L : sL} {post : sM → sL → Prop} (hy : plainName y.cls = true) (hlen : (lg_sl As).length ≤ n)
    (body : ∀ (p : Program) (e : Env) (s : State) (m : MethodId) (args : Array Value) (below : List Frame) (meth : Method) (c : Code), sCx p s m args c b y.cls n D G → meth.sig.returnType = none → meth.locks = false →
      sAt p l e (sRm f k) s m args below meth c D G n 0 0 (MQ below (sQv D G post s.heap.size) args s 0 0 (sA G s.heap.size)) 0 (lv_args 0 As) [] M L) : sKv l D G y b n f k As M L post := by
  intro sz
  refine Met.ofW (cc := b) (maxL := n) (ret := none) hy rfl ?_
  intro p e s m args below meth c s₁ B hml hv
  obtain ⟨rfl, hsz, hP, hK, hD, hX⟩ := hv
  subst hsz
  have hown : s.vm.findClass y.cls = some m.cls := findClass_of_methodNamed B.named
  have h := body p e s m As.toArray below meth c ⟨B.exec, B.bytes, hml, hown, fun w hw => atoms_spec (ws := .code y b n none :: so_tbl) B.pre w (List.mem_cons_of_mem _ hw), hK, hD, hX⟩ B.returns B.notSynchronized
  rw [lg_entry_eq]
  exact h s.heap [] _ hP va_S.rf (lv_entry As hlen)
section R
variable {p : Program} {l : Launch} {e : Env} {R : Room} {s : State} {m : MethodId} {args : Array Value} {below : List Frame} {meth : Method} {c : Code} {D : va_G} {G : sG} {nL cs sl : Nat} {Q : State → Prop} {cc : ByteArray} {own : String}
variable {pc : Nat} {lv : List (Nat × Value)} {st : List Value} {M : sM} {L : sL}
theorem at_iconst (C : sCx p s m args c cc own nL D G) {n : Int} (hd : decode cc pc = .ok (.iconst n, 1)) (k : sAt p l e R s m args below meth c D G nL cs sl Q (pc + 1) lv (.int (sI n) :: st) M L) : sAt p l e R s m args below meth c D G nL cs sl Q pc lv st M L := fun H locs ls hP hS hl => lv_iconst C.1 C.2.1 hd rfl (k H locs ls hP hS hl)
theorem at_bipush (C : sCx p s m args c cc own nL D G) {n : Int} (hd : decode cc pc = .ok (.bipush n, 2)) (h1 : -128 ≤ n) (h2 : n < 128) (k : sAt p l e R s m args below meth c D G nL cs sl Q (pc + 2) lv (.int (sI n) :: st) M L) : sAt p l e R s m args below meth c D G nL cs sl Q pc lv st M L := fun H locs ls hP hS hl => lv_bipush C.1 C.2.1 hd (sI_bip h1 h2) (k H locs ls hP hS hl)
theorem at_sipush (C : sCx p s m args c cc own nL D G) {n : Int} (hd : decode cc pc = .ok (.sipush n, 3)) (h1 : -32768 ≤ n) (h2 : n < 32768) (k : sAt p l e R s m args below meth c D G nL cs sl Q (pc + 3) lv (.int (sI n) :: st) M L) : sAt p l e R s m args below meth c D G nL cs sl Q pc lv st M L := fun H locs ls hP hS hl => lv_sipush C.1 C.2.1 hd (sI_sip h1 h2) (k H locs ls hP hS hl)
theorem at_lconst (C : sCx p s m args c cc own nL D G) {n : Fin 2} {v : Int64} (hd : decode cc pc = .ok (.lconst n, 1)) (hv : Int64.ofNat (n : Nat) = v) (k : sAt p l e R s m args below meth c D G nL cs sl Q (pc + 1) lv (.long v :: st) M L) : sAt p l e R s m args below meth c D G nL cs sl Q pc lv st M L := fun H locs ls hP hS hl => lv_lconst C.1 C.2.1 hd hv (k H locs ls hP hS hl)
theorem at_ldc (C : sCx p s m args c cc own nL D G) {index : Nat} {v : Int32} {n : Int} (hq : Cond.constant own index v ∈ lw_tbl) (hd : decode cc pc = .ok (.ldc index, 2)) (hv : v = sI n) (k : sAt p l e R s m args below meth c D G nL cs sl Q (pc + 2) lv (.int (sI n) :: st) M L) : sAt p l e R s m args below meth c D G nL cs sl Q pc lv st M L := fun H locs ls hP hS hl => by
  subst hv
  exact lv_ldc C.1 C.2.1 C.2.2.2.1 (C.2.2.2.2.1 _ (so_in hq rfl)) hd (k H locs ls hP hS hl)
theorem at_ldcw (C : sCx p s m args c cc own nL D G) {index : Nat} {v : Int32} {n : Int} (hq : Cond.constant own index v ∈ lw_tbl) (hd : decode cc pc = .ok (.ldc_w index, 3)) (hv : v = sI n) (k : sAt p l e R s m args below meth c D G nL cs sl Q (pc + 3) lv (.int (sI n) :: st) M L) : sAt p l e R s m args below meth c D G nL cs sl Q pc lv st M L := fun H locs ls hP hS hl => by
  subst hv
  exact lv_ldcw C.1 C.2.1 C.2.2.2.1 (C.2.2.2.2.1 _ (so_in hq rfl)) hd (k H locs ls hP hS hl)
theorem at_ldc2 (C : sCx p s m args c cc own nL D G) {index : Nat} {v : Int64} (hq : Cond.constantLong own index v ∈ lw_tbl) (hd : decode cc pc = .ok (.ldc2_w index, 3)) (k : sAt p l e R s m args below meth c D G nL cs sl Q (pc + 3) lv (.long v :: st) M L) : sAt p l e R s m args below meth c D G nL cs sl Q pc lv st M L := fun H locs ls hP hS hl => lv_ldc2 C.1 C.2.1 C.2.2.2.1 (C.2.2.2.2.1 _ (so_in hq rfl)) hd (k H locs ls hP hS hl)
/-! locals: j is the place in the list -/
theorem at_iload_n (C : sCx p s m args c cc own nL D G) {i : Fin 4} {x : Int32} (j : Nat) (hd : decode cc pc = .ok (.iload_n i, 1)) (h : lv[j]? = some ((i : Nat), .int x)) (k : sAt p l e R s m args below meth c D G nL cs sl Q (pc + 1) lv (.int x :: st) M L) : sAt p l e R s m args below meth c D G nL cs sl Q pc lv st M L := fun H locs ls hP hS hl => lv_iload_n C.1 C.2.1 hd rfl (lv_at hl j h) (k H locs ls hP hS hl)
theorem at_iload (C : sCx p s m args c cc own nL D G) {i : Nat} {x : Int32} (j : Nat) (hd : decode cc pc = .ok (.iload i, 2)) (h : lv[j]? = some (i, .int x)) (k : sAt p l e R s m args below meth c D G nL cs sl Q (pc + 2) lv (.int x :: st) M L) : sAt p l e R s m args below meth c D G nL cs sl Q pc lv st M L := fun H locs ls hP hS hl => lv_iload C.1 C.2.1 hd (lv_at hl j h) (k H locs ls hP hS hl)
theorem at_lload_n (C : sCx p s m args c cc own nL D G) {i : Fin 4} {x : Int64} (j : Nat) (hd : decode cc pc = .ok (.lload_n i, 1)) (h : lv[j]? = some ((i : Nat), .long x)) (k : sAt p l e R s m args below meth c D G nL cs sl Q (pc + 1) lv (.long x :: st) M L) : sAt p l e R s m args below meth c D G nL cs sl Q pc lv st M L := fun H locs ls hP hS hl => lv_lload_n C.1 C.2.1 hd rfl (lv_at hl j h) (k H locs ls hP hS hl)
theorem at_lload (C : sCx p s m args c cc own nL D G) {i : Nat} {x : Int64} (j : Nat) (hd : decode cc pc = .ok (.lload i, 2)) (h : lv[j]? = some (i, .long x)) (k : sAt p l e R s m args below meth c D G nL cs sl Q (pc + 2) lv (.long x :: st) M L) : sAt p l e R s m args below meth c D G nL cs sl Q pc lv st M L := fun H locs ls hP hS hl => lv_lload C.1 C.2.1 hd (lv_at hl j h) (k H locs ls hP hS hl)
theorem at_aload_n (C : sCx p s m args c cc own nL D G) {i : Fin 4} {x : Nat} (j : Nat) (hd : decode cc pc = .ok (.aload_n i, 1)) (h : lv[j]? = some ((i : Nat), .ref x)) (k : sAt p l e R s m args below meth c D G nL cs sl Q (pc + 1) lv (.ref x :: st) M L) : sAt p l e R s m args below meth c D G nL cs sl Q pc lv st M L := fun H locs ls hP hS hl => lv_aload_n C.1 C.2.1 hd rfl (lv_at hl j h) (k H locs ls hP hS hl)
theorem at_aload (C : sCx p s m args c cc own nL D G) {i : Nat} {x : Nat} (j : Nat) (hd : decode cc pc = .ok (.aload i, 2)) (h : lv[j]? = some (i, .ref x)) (k : sAt p l e R s m args below meth c D G nL cs sl Q (pc + 2) lv (.ref x :: st) M L) : sAt p l e R s m args below meth c D G nL cs sl Q pc lv st M L := fun H locs ls hP hS hl => lv_aload C.1 C.2.1 hd (lv_at hl j h) (k H locs ls hP hS hl)
theorem at_istore_n (C : sCx p s m args c cc own nL D G) {i : Fin 4} {x : Int32} (lv' : List (Nat × Value)) (hd : decode cc pc = .ok (.istore_n i, 1)) (hn : (i : Nat) < nL) (h : ((i : Nat), Value.int x) :: lv.filter (fun q => !(q.1 == (i : Nat)) && !(q.1 + 1 == (i : Nat) && q.2.category == 2)) = lv') (k : sAt p l e R s m args below meth c D G nL cs sl Q (pc + 1) lv' st M L) : sAt p l e R s m args below meth c D G nL cs sl Q pc lv (.int x :: st) M L := fun H locs ls hP hS hl => lv_istore_n (lv' := lv') C.1 C.2.1 hd rfl hl hn h (fun ls' hl' => k H locs ls' hP hS hl')
theorem at_istore (C : sCx p s m args c cc own nL D G) {i : Nat} {x : Int32} (lv' : List (Nat × Value)) (hd : decode cc pc = .ok (.istore i, 2)) (hn : i < nL) (h : (i, Value.int x) :: lv.filter (fun q => !(q.1 == i) && !(q.1 + 1 == i && q.2.category == 2)) = lv') (k : sAt p l e R s m args below meth c D G nL cs sl Q (pc + 2) lv' st M L) : sAt p l e R s m args below meth c D G nL cs sl Q pc lv (.int x :: st) M L := fun H locs ls hP hS hl => lv_istore (lv' := lv') C.1 C.2.1 hd hl hn h (fun ls' hl' => k H locs ls' hP hS hl')
theorem at_lstore_n (C : sCx p s m args c cc own nL D G) {i : Fin 4} {x : Int64} (lv' : List (Nat × Value)) (hd : decode cc pc = .ok (.lstore_n i, 1)) (hn : (i : Nat) + 1 < nL) (h : ((i : Nat), Value.long x) :: lv.filter (fun q => !(q.1 == (i : Nat)) && (!(q.1 == (i : Nat) + 1) && !(q.1 + 1 == (i : Nat) && q.2.category == 2))) = lv') (k : sAt p l e R s m args below meth c D G nL cs sl Q (pc + 1) lv' st M L) : sAt p l e R s m args below meth c D G nL cs sl Q pc lv (.long x :: st) M L := fun H locs ls hP hS hl => lv_lstore_n (lv' := lv') C.1 C.2.1 hd rfl hl hn h (fun ls' hl' => k H locs ls' hP hS hl')
theorem at_lstore (C : sCx p s m args c cc own nL D G) {i : Nat} {x : Int64} (lv' : List (Nat × Value)) (hd : decode cc pc = .ok (.lstore i, 2)) (hn : i + 1 < nL) (h : (i, Value.long x) :: lv.filter (fun q => !(q.1 == i) && (!(q.1 == i + 1) && !(q.1 + 1 == i && q.2.category == 2))) = lv') (k : sAt p l e R s m args below meth c D G nL cs sl Q (pc + 2) lv' st M L) : sAt p l e R s m args below meth c D G nL cs sl Q pc lv (.long x :: st) M L := fun H locs ls hP hS hl => lv_lstore (lv' := lv') C.1 C.2.1 hd hl hn h (fun ls' hl' => k H locs ls' hP hS hl')
theorem at_astore_n (C : sCx p s m args c cc own nL D G) {i : Fin 4} {x : Nat} (lv' : List (Nat × Value)) (hd : decode cc pc = .ok (.astore_n i, 1)) (hn : (i : Nat) < nL) (h : ((i : Nat), Value.ref x) :: lv.filter (fun q => !(q.1 == (i : Nat)) && !(q.1 + 1 == (i : Nat) && q.2.category == 2)) = lv') (k : sAt p l e R s m args below meth c D G nL cs sl Q (pc + 1) lv' st M L) : sAt p l e R s m args below meth c D G nL cs sl Q pc lv (.ref x :: st) M L := fun H locs ls hP hS hl => lv_astore_n (lv' := lv') C.1 C.2.1 hd rfl hl hn h (fun ls' hl' => k H locs ls' hP hS hl')
theorem at_iinc (C : sCx p s m args c cc own nL D G) {i : Nat} {n a : Int} (j : Nat) (lv' : List (Nat × Value)) (hd : decode cc pc = .ok (.iinc i n, 3)) (hj : lv[j]? = some (i, .int (sI a))) (hn : i < nL) (h : (i, Value.int (sI (a + n))) :: lv.filter (fun q => !(q.1 == i) && !(q.1 + 1 == i && q.2.category == 2)) = lv') (k : sAt p l e R s m args below meth c D G nL cs sl Q (pc + 3) lv' st M L) : sAt p l e R s m args below meth c D G nL cs sl Q pc lv st M L := fun H locs ls hP hS hl => lv_iinc (v := sI (a + n)) (lv' := lv') C.1 C.2.1 hd hl hj (sI_add a n) hn h (fun ls' hl' => k H locs ls' hP hS hl')
/-- fewer locals, in another order -/
theorem at_lv (ks : List Nat) {lv' : List (Nat × Value)} (h : lv_pick lv ks = lv') (k : sAt p l e R s m args below meth c D G nL cs sl Q pc lv' st M L) : sAt p l e R s m args below meth c D G nL cs sl Q pc lv st M L := fun H locs ls hP hS hl => k H locs ls hP hS (lv_sub hl ks h)
/-- the same by equations -/
theorem at_eq {lv' : List (Nat × Value)} {st' : List Value} {M' : sM} {L' : sL} (k : sAt p l e R s m args below meth c D G nL cs sl Q pc lv' st' M' L') (h1 : lv = lv') (h2 : st = st') (h3 : M = M') (h4 : L = L') : sAt p l e R s m args below meth c D G nL cs sl Q pc lv st M L := by subst h1 h2 h3 h4; exact k
/-! arithmetic -/
theorem at_iadd (C : sCx p s m args c cc own nL D G) {a b : Int} (hd : decode cc pc = .ok (.iadd, 1)) (k : sAt p l e R s m args below meth c D G nL cs sl Q (pc + 1) lv (.int (sI (a + b)) :: st) M L) : sAt p l e R s m args below meth c D G nL cs sl Q pc lv (.int (sI b) :: .int (sI a) :: st) M L := fun H locs ls hP hS hl => lv_iadd C.1 C.2.1 hd (by rw [sI_add]; exact k H locs ls hP hS hl)
theorem at_isub (C : sCx p s m args c cc own nL D G) {a b : Int} (hd : decode cc pc = .ok (.isub, 1)) (k : sAt p l e R s m args below meth c D G nL cs sl Q (pc + 1) lv (.int (sI (a - b)) :: st) M L) : sAt p l e R s m args below meth c D G nL cs sl Q pc lv (.int (sI b) :: .int (sI a) :: st) M L := fun H locs ls hP hS hl => lv_isub C.1 C.2.1 hd (by rw [sI_sub]; exact k H locs ls hP hS hl)
theorem at_imul (C : sCx p s m args c cc own nL D G) {a b : Int} (hd : decode cc pc = .ok (.imul, 1)) (k : sAt p l e R s m args below meth c D G nL cs sl Q (pc + 1) lv (.int (sI (a * b)) :: st) M L) : sAt p l e R s m args below meth c D G nL cs sl Q pc lv (.int (sI b) :: .int (sI a) :: st) M L := fun H locs ls hP hS hl => lv_imul C.1 C.2.1 hd (by rw [sI_mul]; exact k H locs ls hP hS hl)
theorem at_ineg (C : sCx p s m args c cc own nL D G) {a : Int} (hd : decode cc pc = .ok (.ineg, 1)) (k : sAt p l e R s m args below meth c D G nL cs sl Q (pc + 1) lv (.int (sI (-a)) :: st) M L) : sAt p l e R s m args below meth c D G nL cs sl Q pc lv (.int (sI a) :: st) M L := fun H locs ls hP hS hl => lv_ineg C.1 C.2.1 hd (by rw [sI_neg]; exact k H locs ls hP hS hl)
theorem sI_div {a b : Int} (ha : 0 ≤ a) (ha2 : a < 2147483648) (hb : 0 < b) (hb2 : b < 2147483648) : sI a / sI b = sI (a / b) := by
  rw [show a = ((a.toNat : Nat) : Int) by omega, show b = ((b.toNat : Nat) : Int) by omega]
  have h := pk_div (a := a.toNat) (d := b.toNat) (by omega) (by omega) (by omega)
  have e : ∀ n : Nat, sI (n : Int) = nI n := fun n => Int32.ofInt_eq_ofNat
  rw [← Int.natCast_ediv, e, e, e]
  exact h
theorem sI_rem {a b : Int} (ha : 0 ≤ a) (ha2 : a < 2147483648) (hb : 0 < b) (hb2 : b < 2147483648) : sI a - sI a / sI b * sI b = sI (a % b) := by
  rw [sI_div ha ha2 hb hb2, sI_mul, sI_sub]
  congr 1
  rw [Int.emod_def, Int.mul_comm]
theorem sI_ne0 {a : Int} (ha : InR a) (h : a ≠ 0) : ¬ sI a = 0 := by
  rw [sI_0, sI_inj ha ⟨by omega, by omega⟩]
  exact h
theorem at_idiv (C : sCx p s m args c cc own nL D G) {a b : Int} (hd : decode cc pc = .ok (.idiv, 1)) (ha : 0 ≤ a) (ha2 : a < 2147483648) (hb : 0 < b) (hb2 : b < 2147483648) (k : sAt p l e R s m args below meth c D G nL cs sl Q (pc + 1) lv (.int (sI (a / b)) :: st) M L) : sAt p l e R s m args below meth c D G nL cs sl Q pc lv (.int (sI b) :: .int (sI a) :: st) M L := fun H locs ls hP hS hl => lv_idiv C.1 C.2.1 hd (sI_ne0 ⟨by omega, hb2⟩ (by omega)) (by rw [sI_div ha ha2 hb hb2]; exact k H locs ls hP hS hl)
theorem at_irem (C : sCx p s m args c cc own nL D G) {a b : Int} (hd : decode cc pc = .ok (.irem, 1)) (ha : 0 ≤ a) (ha2 : a < 2147483648) (hb : 0 < b) (hb2 : b < 2147483648) (k : sAt p l e R s m args below meth c D G nL cs sl Q (pc + 1) lv (.int (sI (a % b)) :: st) M L) : sAt p l e R s m args below meth c D G nL cs sl Q pc lv (.int (sI b) :: .int (sI a) :: st) M L := fun H locs ls hP hS hl => lv_irem C.1 C.2.1 hd (sI_ne0 ⟨by omega, hb2⟩ (by omega)) (by rw [sI_rem ha ha2 hb hb2]; exact k H locs ls hP hS hl)
/-! bits: the value is told -/
theorem at_iand (C : sCx p s m args c cc own nL D G) {x y : Int32} (v : Int) (hd : decode cc pc = .ok (.iand, 1)) (hv : x &&& y = sI v) (k : sAt p l e R s m args below meth c D G nL cs sl Q (pc + 1) lv (.int (sI v) :: st) M L) : sAt p l e R s m args below meth c D G nL cs sl Q pc lv (.int y :: .int x :: st) M L := fun H locs ls hP hS hl => lv_iand C.1 C.2.1 hd (by rw [hv]; exact k H locs ls hP hS hl)
theorem at_ior (C : sCx p s m args c cc own nL D G) {x y : Int32} (v : Int) (hd : decode cc pc = .ok (.ior, 1)) (hv : x ||| y = sI v) (k : sAt p l e R s m args below meth c D G nL cs sl Q (pc + 1) lv (.int (sI v) :: st) M L) : sAt p l e R s m args below meth c D G nL cs sl Q pc lv (.int y :: .int x :: st) M L := fun H locs ls hP hS hl => lv_ior C.1 C.2.1 hd (by rw [hv]; exact k H locs ls hP hS hl)
theorem at_ixor (C : sCx p s m args c cc own nL D G) {x y : Int32} (v : Int) (hd : decode cc pc = .ok (.ixor, 1)) (hv : x ^^^ y = sI v) (k : sAt p l e R s m args below meth c D G nL cs sl Q (pc + 1) lv (.int (sI v) :: st) M L) : sAt p l e R s m args below meth c D G nL cs sl Q pc lv (.int y :: .int x :: st) M L := fun H locs ls hP hS hl => lv_ixor C.1 C.2.1 hd (by rw [hv]; exact k H locs ls hP hS hl)
theorem at_ishl (C : sCx p s m args c cc own nL D G) {x y : Int32} (v : Int) (hd : decode cc pc = .ok (.ishl, 1)) (hv : x <<< (y &&& 31) = sI v) (k : sAt p l e R s m args below meth c D G nL cs sl Q (pc + 1) lv (.int (sI v) :: st) M L) : sAt p l e R s m args below meth c D G nL cs sl Q pc lv (.int y :: .int x :: st) M L := fun H locs ls hP hS hl => lv_ishl C.1 C.2.1 hd (by rw [hv]; exact k H locs ls hP hS hl)
theorem at_ishr (C : sCx p s m args c cc own nL D G) {x y : Int32} (v : Int) (hd : decode cc pc = .ok (.ishr, 1)) (hv : x >>> (y &&& 31) = sI v) (k : sAt p l e R s m args below meth c D G nL cs sl Q (pc + 1) lv (.int (sI v) :: st) M L) : sAt p l e R s m args below meth c D G nL cs sl Q pc lv (.int y :: .int x :: st) M L := fun H locs ls hP hS hl => lv_ishr C.1 C.2.1 hd (by rw [hv]; exact k H locs ls hP hS hl)
theorem at_i2b (C : sCx p s m args c cc own nL D G) {a : Int} (hd : decode cc pc = .ok (.i2b, 1)) (h1 : -128 ≤ a) (h2 : a < 128) (k : sAt p l e R s m args below meth c D G nL cs sl Q (pc + 1) lv (.int (sI a) :: st) M L) : sAt p l e R s m args below meth c D G nL cs sl Q pc lv (.int (sI a) :: st) M L := fun H locs ls hP hS hl => lv_i2b C.1 C.2.1 hd (by
    show (Int32.ofInt a).toInt8.toInt32 = sI a
    rw [← Int32.toInt_inj, Int8.toInt_toInt32, Int32.toInt_toInt8, sI_t ⟨by omega, by omega⟩, show (Int32.ofInt a).toInt = a from sI_t ⟨by omega, by omega⟩]
    exact Int.bmod_eq_of_le (by omega) (by omega)) (k H locs ls hP hS hl)
/-! longs as they are -/
theorem at_i2l (C : sCx p s m args c cc own nL D G) {x : Int32} (hd : decode cc pc = .ok (.i2l, 1)) (k : sAt p l e R s m args below meth c D G nL cs sl Q (pc + 1) lv (.long x.toInt64 :: st) M L) : sAt p l e R s m args below meth c D G nL cs sl Q pc lv (.int x :: st) M L := fun H locs ls hP hS hl => lv_i2l C.1 C.2.1 hd rfl (k H locs ls hP hS hl)
theorem at_l2i (C : sCx p s m args c cc own nL D G) {x : Int64} (v : Int) (hd : decode cc pc = .ok (.l2i, 1)) (hv : x.toInt32 = sI v) (k : sAt p l e R s m args below meth c D G nL cs sl Q (pc + 1) lv (.int (sI v) :: st) M L) : sAt p l e R s m args below meth c D G nL cs sl Q pc lv (.long x :: st) M L := fun H locs ls hP hS hl => lv_l2i C.1 C.2.1 hd hv (k H locs ls hP hS hl)
theorem at_ladd (C : sCx p s m args c cc own nL D G) {x y : Int64} (hd : decode cc pc = .ok (.ladd, 1)) (k : sAt p l e R s m args below meth c D G nL cs sl Q (pc + 1) lv (.long (x + y) :: st) M L) : sAt p l e R s m args below meth c D G nL cs sl Q pc lv (.long y :: .long x :: st) M L := fun H locs ls hP hS hl => lv_ladd C.1 C.2.1 hd (k H locs ls hP hS hl)
theorem at_lmul (C : sCx p s m args c cc own nL D G) {x y : Int64} (hd : decode cc pc = .ok (.lmul, 1)) (k : sAt p l e R s m args below meth c D G nL cs sl Q (pc + 1) lv (.long (x * y) :: st) M L) : sAt p l e R s m args below meth c D G nL cs sl Q pc lv (.long y :: .long x :: st) M L := fun H locs ls hP hS hl => lv_lmul C.1 C.2.1 hd (k H locs ls hP hS hl)
theorem at_land (C : sCx p s m args c cc own nL D G) {x y : Int64} (hd : decode cc pc = .ok (.land, 1)) (k : sAt p l e R s m args below meth c D G nL cs sl Q (pc + 1) lv (.long (x &&& y) :: st) M L) : sAt p l e R s m args below meth c D G nL cs sl Q pc lv (.long y :: .long x :: st) M L := fun H locs ls hP hS hl => lv_land C.1 C.2.1 hd (k H locs ls hP hS hl)
theorem at_lor (C : sCx p s m args c cc own nL D G) {x y : Int64} (hd : decode cc pc = .ok (.lor, 1)) (k : sAt p l e R s m args below meth c D G nL cs sl Q (pc + 1) lv (.long (x ||| y) :: st) M L) : sAt p l e R s m args below meth c D G nL cs sl Q pc lv (.long y :: .long x :: st) M L := fun H locs ls hP hS hl => lv_lor C.1 C.2.1 hd (k H locs ls hP hS hl)
theorem at_ldiv (C : sCx p s m args c cc own nL D G) {x y : Int64} (hd : decode cc pc = .ok (.ldiv, 1)) (h : ¬ y = 0) (k : sAt p l e R s m args below meth c D G nL cs sl Q (pc + 1) lv (.long (x / y) :: st) M L) : sAt p l e R s m args below meth c D G nL cs sl Q pc lv (.long y :: .long x :: st) M L := fun H locs ls hP hS hl => lv_ldiv C.1 C.2.1 hd h (k H locs ls hP hS hl)
theorem at_lrem (C : sCx p s m args c cc own nL D G) {x y : Int64} (hd : decode cc pc = .ok (.lrem, 1)) (h : ¬ y = 0) (k : sAt p l e R s m args below meth c D G nL cs sl Q (pc + 1) lv (.long (x - x / y * y) :: st) M L) : sAt p l e R s m args below meth c D G nL cs sl Q pc lv (.long y :: .long x :: st) M L := fun H locs ls hP hS hl => lv_lrem C.1 C.2.1 hd h (k H locs ls hP hS hl)
theorem at_lshl (C : sCx p s m args c cc own nL D G) {x : Int64} {y : Int32} (hd : decode cc pc = .ok (.lshl, 1)) (k : sAt p l e R s m args below meth c D G nL cs sl Q (pc + 1) lv (.long (x <<< (y.toInt64 &&& 63)) :: st) M L) : sAt p l e R s m args below meth c D G nL cs sl Q pc lv (.int y :: .long x :: st) M L := fun H locs ls hP hS hl => lv_lshl C.1 C.2.1 hd rfl (k H locs ls hP hS hl)
theorem at_lshr (C : sCx p s m args c cc own nL D G) {x : Int64} {y : Int32} (hd : decode cc pc = .ok (.lshr, 1)) (k : sAt p l e R s m args below meth c D G nL cs sl Q (pc + 1) lv (.long (x >>> (y.toInt64 &&& 63)) :: st) M L) : sAt p l e R s m args below meth c D G nL cs sl Q pc lv (.int y :: .long x :: st) M L := fun H locs ls hP hS hl => lv_lshr C.1 C.2.1 hd rfl (k H locs ls hP hS hl)
/-- a value by another name -/
theorem at_vl {x y : Int64} (h : x = y) (k : sAt p l e R s m args below meth c D G nL cs sl Q pc lv (.long y :: st) M L) : sAt p l e R s m args below meth c D G nL cs sl Q pc lv (.long x :: st) M L := by rw [h]; exact k
theorem at_vi {x y : Int32} (h : x = y) (k : sAt p l e R s m args below meth c D G nL cs sl Q pc lv (.int y :: st) M L) : sAt p l e R s m args below meth c D G nL cs sl Q pc lv (.int x :: st) M L := by rw [h]; exact k
theorem at_ve {a b : Int} (h : a = b) (k : sAt p l e R s m args below meth c D G nL cs sl Q pc lv (.int (sI b) :: st) M L) : sAt p l e R s m args below meth c D G nL cs sl Q pc lv (.int (sI a) :: st) M L := by rw [h]; exact k
theorem at_m {M' : sM} (h : M = M') (k : sAt p l e R s m args below meth c D G nL cs sl Q pc lv st M' L) : sAt p l e R s m args below meth c D G nL cs sl Q pc lv st M L := by rw [h]; exact k
/-! the stack -/
theorem at_dup (C : sCx p s m args c cc own nL D G) {v : Value} (hd : decode cc pc = .ok (.dup, 1)) (hv : v.category = 1) (k : sAt p l e R s m args below meth c D G nL cs sl Q (pc + 1) lv (v :: v :: st) M L) : sAt p l e R s m args below meth c D G nL cs sl Q pc lv (v :: st) M L := fun H locs ls hP hS hl => lv_dup C.1 C.2.1 hd hv (k H locs ls hP hS hl)
theorem at_pop (C : sCx p s m args c cc own nL D G) {v : Value} (hd : decode cc pc = .ok (.pop, 1)) (hv : v.category = 1) (k : sAt p l e R s m args below meth c D G nL cs sl Q (pc + 1) lv st M L) : sAt p l e R s m args below meth c D G nL cs sl Q pc lv (v :: st) M L := fun H locs ls hP hS hl => lv_pop C.1 C.2.1 hd hv (k H locs ls hP hS hl)
theorem at_dup2 (C : sCx p s m args c cc own nL D G) {v w : Value} (hd : decode cc pc = .ok (.dup2, 1)) (hv : v.category = 1) (hw : w.category = 1) (k : sAt p l e R s m args below meth c D G nL cs sl Q (pc + 1) lv (v :: w :: v :: w :: st) M L) : sAt p l e R s m args below meth c D G nL cs sl Q pc lv (v :: w :: st) M L := fun H locs ls hP hS hl => lv_dup2_11 C.1 C.2.1 hd hv hw (k H locs ls hP hS hl)
/-! branches -/
theorem at_goto (C : sCx p s m args c cc own nL D G) {off : Int} (tgt : Nat) (hd : decode cc pc = .ok (.goto off, 3)) (ht : (pc : Int) + off = (tgt : Int)) (k : sAt p l e R s m args below meth c D G nL cs sl Q tgt lv st M L) : sAt p l e R s m args below meth c D G nL cs sl Q pc lv st M L := fun H locs ls hP hS hl => lv_goto C.1 C.2.1 hd ht (k H locs ls hP hS hl)
theorem at_icmp_eq (C : sCx p s m args c cc own nL D G) {a b : Int} {off : Int} (tgt : Nat) (hd : decode cc pc = .ok (.if_icmp .eq off, 3)) (ht : (pc : Int) + off = (tgt : Int)) (ha : InR a) (hb : InR b) (kt : a = b → sAt p l e R s m args below meth c D G nL cs sl Q tgt lv st M L) (kf : a ≠ b → sAt p l e R s m args below meth c D G nL cs sl Q (pc + 3) lv st M L) : sAt p l e R s m args below meth c D G nL cs sl Q pc lv (.int (sI b) :: .int (sI a) :: st) M L := fun H locs ls hP hS hl => lv_icmp_eq C.1 C.2.1 hd ht (fun h => kt ((sI_inj ha hb).mp h) H locs ls hP hS hl) (fun h => kf (fun z => h ((sI_inj ha hb).mpr z)) H locs ls hP hS hl)
theorem at_if_eq (C : sCx p s m args c cc own nL D G) {a : Int} {off : Int} (tgt : Nat) (hd : decode cc pc = .ok (.ifCond .eq off, 3)) (ht : (pc : Int) + off = (tgt : Int)) (ha : InR a) (kt : a = 0 → sAt p l e R s m args below meth c D G nL cs sl Q tgt lv st M L) (kf : a ≠ 0 → sAt p l e R s m args below meth c D G nL cs sl Q (pc + 3) lv st M L) : sAt p l e R s m args below meth c D G nL cs sl Q pc lv (.int (sI a) :: st) M L := fun H locs ls hP hS hl => by
  have hz : InR 0 := ⟨by omega, by omega⟩
  refine lv_if_eq C.1 C.2.1 hd ht (fun h => kt ?_ H locs ls hP hS hl) (fun h => kf ?_ H locs ls hP hS hl)
  · rw [sI_0] at h; exact (sI_inj ha hz).mp h
  · rw [sI_0] at h; exact fun z => h ((sI_inj ha hz).mpr z)
theorem at_icmp_ne (C : sCx p s m args c cc own nL D G) {a b : Int} {off : Int} (tgt : Nat) (hd : decode cc pc = .ok (.if_icmp .ne off, 3)) (ht : (pc : Int) + off = (tgt : Int)) (ha : InR a) (hb : InR b) (kt : a ≠ b → sAt p l e R s m args below meth c D G nL cs sl Q tgt lv st M L) (kf : a = b → sAt p l e R s m args below meth c D G nL cs sl Q (pc + 3) lv st M L) : sAt p l e R s m args below meth c D G nL cs sl Q pc lv (.int (sI b) :: .int (sI a) :: st) M L := fun H locs ls hP hS hl => lv_icmp_ne C.1 C.2.1 hd ht (fun h => kt (fun z => h ((sI_inj ha hb).mpr z)) H locs ls hP hS hl) (fun h => kf ((sI_inj ha hb).mp h) H locs ls hP hS hl)
theorem at_if_ne (C : sCx p s m args c cc own nL D G) {a : Int} {off : Int} (tgt : Nat) (hd : decode cc pc = .ok (.ifCond .ne off, 3)) (ht : (pc : Int) + off = (tgt : Int)) (ha : InR a) (kt : a ≠ 0 → sAt p l e R s m args below meth c D G nL cs sl Q tgt lv st M L) (kf : a = 0 → sAt p l e R s m args below meth c D G nL cs sl Q (pc + 3) lv st M L) : sAt p l e R s m args below meth c D G nL cs sl Q pc lv (.int (sI a) :: st) M L := fun H locs ls hP hS hl => by
  have hz : InR 0 := ⟨by omega, by omega⟩
  refine lv_if_ne C.1 C.2.1 hd ht (fun h => kt ?_ H locs ls hP hS hl) (fun h => kf ?_ H locs ls hP hS hl)
  · rw [sI_0] at h; exact fun z => h ((sI_inj ha hz).mpr z)
  · rw [sI_0] at h; exact (sI_inj ha hz).mp h
theorem at_icmp_lt (C : sCx p s m args c cc own nL D G) {a b : Int} {off : Int} (tgt : Nat) (hd : decode cc pc = .ok (.if_icmp .lt off, 3)) (ht : (pc : Int) + off = (tgt : Int)) (ha : InR a) (hb : InR b) (kt : a < b → sAt p l e R s m args below meth c D G nL cs sl Q tgt lv st M L) (kf : b ≤ a → sAt p l e R s m args below meth c D G nL cs sl Q (pc + 3) lv st M L) : sAt p l e R s m args below meth c D G nL cs sl Q pc lv (.int (sI b) :: .int (sI a) :: st) M L := fun H locs ls hP hS hl => lv_icmp_lt C.1 C.2.1 hd ht (fun h => kt ((sI_lt ha hb).mp h) H locs ls hP hS hl) (fun h => kf (Int.not_lt.mp (fun z => h ((sI_lt ha hb).mpr z))) H locs ls hP hS hl)
theorem at_if_lt (C : sCx p s m args c cc own nL D G) {a : Int} {off : Int} (tgt : Nat) (hd : decode cc pc = .ok (.ifCond .lt off, 3)) (ht : (pc : Int) + off = (tgt : Int)) (ha : InR a) (kt : a < 0 → sAt p l e R s m args below meth c D G nL cs sl Q tgt lv st M L) (kf : 0 ≤ a → sAt p l e R s m args below meth c D G nL cs sl Q (pc + 3) lv st M L) : sAt p l e R s m args below meth c D G nL cs sl Q pc lv (.int (sI a) :: st) M L := fun H locs ls hP hS hl => by
  have hz : InR 0 := ⟨by omega, by omega⟩
  refine lv_if_lt C.1 C.2.1 hd ht (fun h => kt ?_ H locs ls hP hS hl) (fun h => kf ?_ H locs ls hP hS hl)
  · rw [sI_0] at h; exact (sI_lt ha hz).mp h
  · rw [sI_0] at h; exact Int.not_lt.mp (fun z => h ((sI_lt ha hz).mpr z))
theorem at_icmp_ge (C : sCx p s m args c cc own nL D G) {a b : Int} {off : Int} (tgt : Nat) (hd : decode cc pc = .ok (.if_icmp .ge off, 3)) (ht : (pc : Int) + off = (tgt : Int)) (ha : InR a) (hb : InR b) (kt : b ≤ a → sAt p l e R s m args below meth c D G nL cs sl Q tgt lv st M L) (kf : a < b → sAt p l e R s m args below meth c D G nL cs sl Q (pc + 3) lv st M L) : sAt p l e R s m args below meth c D G nL cs sl Q pc lv (.int (sI b) :: .int (sI a) :: st) M L := fun H locs ls hP hS hl => lv_icmp_ge C.1 C.2.1 hd ht (fun h => kt ((sI_le hb ha).mp h) H locs ls hP hS hl) (fun h => kf (Int.not_le.mp (fun z => h ((sI_le hb ha).mpr z))) H locs ls hP hS hl)
theorem at_if_ge (C : sCx p s m args c cc own nL D G) {a : Int} {off : Int} (tgt : Nat) (hd : decode cc pc = .ok (.ifCond .ge off, 3)) (ht : (pc : Int) + off = (tgt : Int)) (ha : InR a) (kt : 0 ≤ a → sAt p l e R s m args below meth c D G nL cs sl Q tgt lv st M L) (kf : a < 0 → sAt p l e R s m args below meth c D G nL cs sl Q (pc + 3) lv st M L) : sAt p l e R s m args below meth c D G nL cs sl Q pc lv (.int (sI a) :: st) M L := fun H locs ls hP hS hl => by
  have hz : InR 0 := ⟨by omega, by omega⟩
  refine lv_if_ge C.1 C.2.1 hd ht (fun h => kt ?_ H locs ls hP hS hl) (fun h => kf ?_ H locs ls hP hS hl)
  · rw [sI_0] at h; exact (sI_le hz ha).mp h
  · rw [sI_0] at h; exact Int.not_le.mp (fun z => h ((sI_le hz ha).mpr z))
theorem at_icmp_gt (C : sCx p s m args c cc own nL D G) {a b : Int} {off : Int} (tgt : Nat) (hd : decode cc pc = .ok (.if_icmp .gt off, 3)) (ht : (pc : Int) + off = (tgt : Int)) (ha : InR a) (hb : InR b) (kt : b < a → sAt p l e R s m args below meth c D G nL cs sl Q tgt lv st M L) (kf : a ≤ b → sAt p l e R s m args below meth c D G nL cs sl Q (pc + 3) lv st M L) : sAt p l e R s m args below meth c D G nL cs sl Q pc lv (.int (sI b) :: .int (sI a) :: st) M L := fun H locs ls hP hS hl => lv_icmp_gt C.1 C.2.1 hd ht (fun h => kt ((sI_lt hb ha).mp h) H locs ls hP hS hl) (fun h => kf (Int.not_lt.mp (fun z => h ((sI_lt hb ha).mpr z))) H locs ls hP hS hl)
theorem at_if_gt (C : sCx p s m args c cc own nL D G) {a : Int} {off : Int} (tgt : Nat) (hd : decode cc pc = .ok (.ifCond .gt off, 3)) (ht : (pc : Int) + off = (tgt : Int)) (ha : InR a) (kt : 0 < a → sAt p l e R s m args below meth c D G nL cs sl Q tgt lv st M L) (kf : a ≤ 0 → sAt p l e R s m args below meth c D G nL cs sl Q (pc + 3) lv st M L) : sAt p l e R s m args below meth c D G nL cs sl Q pc lv (.int (sI a) :: st) M L := fun H locs ls hP hS hl => by
  have hz : InR 0 := ⟨by omega, by omega⟩
  refine lv_if_gt C.1 C.2.1 hd ht (fun h => kt ?_ H locs ls hP hS hl) (fun h => kf ?_ H locs ls hP hS hl)
  · rw [sI_0] at h; exact (sI_lt hz ha).mp h
  · rw [sI_0] at h; exact Int.not_lt.mp (fun z => h ((sI_lt hz ha).mpr z))
theorem at_icmp_le (C : sCx p s m args c cc own nL D G) {a b : Int} {off : Int} (tgt : Nat) (hd : decode cc pc = .ok (.if_icmp .le off, 3)) (ht : (pc : Int) + off = (tgt : Int)) (ha : InR a) (hb : InR b) (kt : a ≤ b → sAt p l e R s m args below meth c D G nL cs sl Q tgt lv st M L) (kf : b < a → sAt p l e R s m args below meth c D G nL cs sl Q (pc + 3) lv st M L) : sAt p l e R s m args below meth c D G nL cs sl Q pc lv (.int (sI b) :: .int (sI a) :: st) M L := fun H locs ls hP hS hl => lv_icmp_le C.1 C.2.1 hd ht (fun h => kt ((sI_le ha hb).mp h) H locs ls hP hS hl) (fun h => kf (Int.not_le.mp (fun z => h ((sI_le ha hb).mpr z))) H locs ls hP hS hl)
theorem at_if_le (C : sCx p s m args c cc own nL D G) {a : Int} {off : Int} (tgt : Nat) (hd : decode cc pc = .ok (.ifCond .le off, 3)) (ht : (pc : Int) + off = (tgt : Int)) (ha : InR a) (kt : a ≤ 0 → sAt p l e R s m args below meth c D G nL cs sl Q tgt lv st M L) (kf : 0 < a → sAt p l e R s m args below meth c D G nL cs sl Q (pc + 3) lv st M L) : sAt p l e R s m args below meth c D G nL cs sl Q pc lv (.int (sI a) :: st) M L := fun H locs ls hP hS hl => by
  have hz : InR 0 := ⟨by omega, by omega⟩
  refine lv_if_le C.1 C.2.1 hd ht (fun h => kt ?_ H locs ls hP hS hl) (fun h => kf ?_ H locs ls hP hS hl)
  · rw [sI_0] at h; exact (sI_le ha hz).mp h
  · rw [sI_0] at h; exact Int.not_le.mp (fun z => h ((sI_le ha hz).mpr z))
theorem at_if_eqB (C : sCx p s m args c cc own nL D G) {P : Prop} [Decidable P] {off : Int} (tgt : Nat) (hd : decode cc pc = .ok (.ifCond .eq off, 3)) (ht : (pc : Int) + off = (tgt : Int)) (kt : ¬ P → sAt p l e R s m args below meth c D G nL cs sl Q tgt lv st M L) (kf : P → sAt p l e R s m args below meth c D G nL cs sl Q (pc + 3) lv st M L) : sAt p l e R s m args below meth c D G nL cs sl Q pc lv (.int (sB P) :: st) M L := fun H locs ls hP hS hl => lv_if_eq C.1 C.2.1 hd ht (fun h => kt (sB_0.mp h) H locs ls hP hS hl) (fun h => kf (Decidable.of_not_not (fun z => h (sB_0.mpr z))) H locs ls hP hS hl)
theorem at_if_neB (C : sCx p s m args c cc own nL D G) {P : Prop} [Decidable P] {off : Int} (tgt : Nat) (hd : decode cc pc = .ok (.ifCond .ne off, 3)) (ht : (pc : Int) + off = (tgt : Int)) (kt : P → sAt p l e R s m args below meth c D G nL cs sl Q tgt lv st M L) (kf : ¬ P → sAt p l e R s m args below meth c D G nL cs sl Q (pc + 3) lv st M L) : sAt p l e R s m args below meth c D G nL cs sl Q pc lv (.int (sB P) :: st) M L := fun H locs ls hP hS hl => lv_if_ne C.1 C.2.1 hd ht (fun h => kt (Decidable.of_not_not (fun z => h (sB_0.mpr z))) H locs ls hP hS hl) (fun h => kf (sB_0.mp h) H locs ls hP hS hl)
/-! the heap -/
theorem at_getf (C : sCx p s m args c cc own nL D G) {Cn : String} {T : u_T} {N ci index slot a : Nat} {F : (Nat → Int) → (Nat → Int64) → List Value} {v : Value} (ho : obj G a ci F) (hc : clX[ci]? = some (Cn, T, N)) (hin : ∀ w ∈ u_ws Cn T N, w ∈ so_tbl) (hs : slot < N) (hq : Cond.fieldLink own index Cn (T slot).2.1 (T slot).2.2.1 ∈ lw_tbl) (hT : (T slot).1 = Cn) (hv : (F (M a) (L a))[slot]? = some v) (hd : decode cc pc = .ok (.getfield index, 3)) (k : sAt p l e R s m args below meth c D G nL cs sl Q (pc + 3) lv (v :: st) M L) : sAt p l e R s m args below meth c D G nL cs sl Q pc lv (.ref (G.1 a) :: st) M L := fun H locs ls hP hS hl =>
  va_get C.1 C.2.1 C.2.2.2.2.1 hin C.2.2.2.1 C.2.2.2.2.2.1 hP a (by rw [sWs_get G M L ho.1, ho.2]) hc slot hs (C.2.2.2.2.1 _ (so_in hq rfl)) (fun _ h => by rw [hT] at h; exact h) hv hd (k H locs ls hP hS hl)
theorem at_putM (C : sCx p s m args c cc own nL D G) {Cn : String} {T : u_T} {N ci index slot a : Nat} {F : (Nat → Int) → (Nat → Int64) → List Value} {x : Int} {ty : FieldType} (tyT : Nat → FieldType) (ho : obj G a ci F) (hc : clX[ci]? = some (Cn, T, N)) (hin : ∀ w ∈ u_ws Cn T N, w ∈ so_tbl) (hty : ∀ k, k < N → parseFieldDescriptor (T k).2.2.1 = some (tyT k)) (hnm : ∀ a, a < N → ∀ b, b < N → a ≠ b → (T a).2.1 ≠ (T b).2.1) (hs : slot < N) (hq : Cond.fieldLink own index Cn (T slot).2.1 (T slot).2.2.1 ∈ lw_tbl) (hT : (T slot).1 = Cn) (hfin : (T slot).2.2.2 = false) (hpd : parseFieldDescriptor (T slot).2.2.1 = some ty) (hn : narrow ty (.int (sI x)) = .int (sI x)) (hfit : fits ty (.int (sI x)) = true) (hlen : slot < (F (M a) (L a)).length) (hset : (F (M a) (L a)).set slot (.int (sI x)) = F (fun b => if b = slot then x else M a b) (L a)) (hd : decode cc pc = .ok (.putfield index, 3)) (k : sAt p l e R s m args below meth c D G nL cs sl Q (pc + 3) lv st (sSt M a slot x) L) : sAt p l e R s m args below meth c D G nL cs sl Q pc lv (.int (sI x) :: .ref (G.1 a) :: st) M L := fun H locs ls hP hS hl =>
  va_put C.1 C.2.1 C.2.2.2.2.1 hin tyT hty hnm C.2.2.2.1 C.2.2.2.2.2.1 hP (sWs_D C.2.2.2.2.2.2.1 _ M L) hS a (fs := F (M a) (L a)) (by rw [sWs_get G M L ho.1, ho.2]) hc slot hs (C.2.2.2.2.1 _ (so_in hq rfl)) (fun _ h => by rw [hT] at h; exact h) hfin hpd hn hfit hlen hd (fun H1 locs1 hP1 _ hS1 => by
    rw [hset, ← ho.2, sWs_setM G M L ho.1, ← sSt_is] at hP1
    exact k H1 locs1 ls hP1 hS1 hl)
theorem at_putL (C : sCx p s m args c cc own nL D G) {Cn : String} {T : u_T} {N ci index slot a : Nat} {F : (Nat → Int) → (Nat → Int64) → List Value} {x : Int64} {ty : FieldType} (tyT : Nat → FieldType) (ho : obj G a ci F) (hc : clX[ci]? = some (Cn, T, N)) (hin : ∀ w ∈ u_ws Cn T N, w ∈ so_tbl) (hty : ∀ k, k < N → parseFieldDescriptor (T k).2.2.1 = some (tyT k)) (hnm : ∀ a, a < N → ∀ b, b < N → a ≠ b → (T a).2.1 ≠ (T b).2.1) (hs : slot < N) (hq : Cond.fieldLink own index Cn (T slot).2.1 (T slot).2.2.1 ∈ lw_tbl) (hT : (T slot).1 = Cn) (hfin : (T slot).2.2.2 = false) (hpd : parseFieldDescriptor (T slot).2.2.1 = some ty) (hn : narrow ty (.long x) = .long x) (hfit : fits ty (.long x) = true) (hlen : slot < (F (M a) (L a)).length) (hset : (F (M a) (L a)).set slot (.long x) = F (M a) (fun b => if b = slot then x else L a b)) (hd : decode cc pc = .ok (.putfield index, 3)) (k : sAt p l e R s m args below meth c D G nL cs sl Q (pc + 3) lv st M (sSl L a slot x)) : sAt p l e R s m args below meth c D G nL cs sl Q pc lv (.long x :: .ref (G.1 a) :: st) M L := fun H locs ls hP hS hl =>
  va_put C.1 C.2.1 C.2.2.2.2.1 hin tyT hty hnm C.2.2.2.1 C.2.2.2.2.2.1 hP (sWs_D C.2.2.2.2.2.2.1 _ M L) hS a (fs := F (M a) (L a)) (by rw [sWs_get G M L ho.1, ho.2]) hc slot hs (C.2.2.2.2.1 _ (so_in hq rfl)) (fun _ h => by rw [hT] at h; exact h) hfin hpd hn hfit hlen hd (fun H1 locs1 hP1 _ hS1 => by
    rw [hset, ← ho.2, sWs_setL G M L ho.1, ← sSl_is] at hP1
    exact k H1 locs1 ls hP1 hS1 hl)
theorem at_iald (C : sCx p s m args c cc own nL D G) {a n : Nat} {i : Int} (j : Nat) (ha : arI G a n) (hi : i = (j : Int)) (hj : j < n) (hd : decode cc pc = .ok (.iaload, 1)) (k : sAt p l e R s m args below meth c D G nL cs sl Q (pc + 1) lv (.int (sI (M a j)) :: st) M L) : sAt p l e R s m args below meth c D G nL cs sl Q pc lv (.int (sI i) :: .ref (G.1 a) :: st) M L := fun H locs ls hP hS hl => by
  subst hi
  refine va_iald C.1 C.2.1 C.2.2.2.2.2.1 hP a 0 (n := n) (f := fun j => sI (M a j)) (by rw [sWs_get G M L ha.1, ha.2.2]) rfl (sI_in hj ha.2.1) hd ?_
  show W p l e R s m args below meth c H locs cs sl Q (F0 m (pc + 1) ls (.int (sI (M a (sI (j : Int)).toNatClampNeg)) :: st))
  rw [sI_idx (Nat.lt_trans hj ha.2.1)]
  exact k H locs ls hP hS hl
theorem at_bald (C : sCx p s m args c cc own nL D G) {a n : Nat} {i : Int} (j : Nat) (ha : arB G a n) (hi : i = (j : Int)) (hj : j < n) (hd : decode cc pc = .ok (.baload, 1)) (k : sAt p l e R s m args below meth c D G nL cs sl Q (pc + 1) lv (.int (sI (M a j)) :: st) M L) : sAt p l e R s m args below meth c D G nL cs sl Q pc lv (.int (sI i) :: .ref (G.1 a) :: st) M L := fun H locs ls hP hS hl => by
  subst hi
  refine va_bald C.1 C.2.1 C.2.2.2.2.2.1 hP a 2 (n := n) (f := fun j => sI (M a j)) (by rw [sWs_get G M L ha.1, ha.2.2]) rfl (sI_in hj ha.2.1) hd ?_
  show W p l e R s m args below meth c H locs cs sl Q (F0 m (pc + 1) ls (.int (sI (M a (sI (j : Int)).toNatClampNeg)) :: st))
  rw [sI_idx (Nat.lt_trans hj ha.2.1)]
  exact k H locs ls hP hS hl
theorem at_zald (C : sCx p s m args c cc own nL D G) {a n : Nat} {i : Int} (j : Nat) (ha : arZ G a n) (hi : i = (j : Int)) (hj : j < n) (hd : decode cc pc = .ok (.baload, 1)) (k : sAt p l e R s m args below meth c D G nL cs sl Q (pc + 1) lv (.int (sI (M a j)) :: st) M L) : sAt p l e R s m args below meth c D G nL cs sl Q pc lv (.int (sI i) :: .ref (G.1 a) :: st) M L := fun H locs ls hP hS hl => by
  subst hi
  refine va_zald C.1 C.2.1 C.2.2.2.2.2.1 hP a 3 (n := n) (f := fun j => sI (M a j)) (by rw [sWs_get G M L ha.1, ha.2.2]) rfl (sI_in hj ha.2.1) hd ?_
  show W p l e R s m args below meth c H locs cs sl Q (F0 m (pc + 1) ls (.int (sI (M a (sI (j : Int)).toNatClampNeg)) :: st))
  rw [sI_idx (Nat.lt_trans hj ha.2.1)]
  exact k H locs ls hP hS hl
theorem at_lald (C : sCx p s m args c cc own nL D G) {a n : Nat} {i : Int} (j : Nat) (ha : arJ G a n) (hi : i = (j : Int)) (hj : j < n) (hd : decode cc pc = .ok (.laload, 1)) (k : sAt p l e R s m args below meth c D G nL cs sl Q (pc + 1) lv (.long (L a j) :: st) M L) : sAt p l e R s m args below meth c D G nL cs sl Q pc lv (.int (sI i) :: .ref (G.1 a) :: st) M L := fun H locs ls hP hS hl => by
  subst hi
  refine va_lald C.1 C.2.1 C.2.2.2.2.2.1 hP a 1 (n := n) (f := L a) (by rw [sWs_get G M L ha.1, ha.2.2]) rfl (sI_in hj ha.2.1) hd ?_
  rw [sI_idx (Nat.lt_trans hj ha.2.1)]
  exact k H locs ls hP hS hl
theorem sI_updE (f : Nat → Int) {j : Nat} (h : j < 2 ^ 31) (x : Int) : upd (fun b => sI (f b)) (sI (j : Int)).toNatClampNeg (sI x) = fun b => sI (if b = j then x else f b) := by
  rw [sI_idx h]
  funext b
  unfold upd
  by_cases hb : b = j
  · rw [if_pos hb, if_pos hb]
  · rw [if_neg hb, if_neg hb]
theorem at_iast (C : sCx p s m args c cc own nL D G) {a n : Nat} {i x : Int} (j : Nat) (ha : arI G a n) (hi : i = (j : Int)) (hj : j < n) (hd : decode cc pc = .ok (.iastore, 1)) (k : sAt p l e R s m args below meth c D G nL cs sl Q (pc + 1) lv st (sSt M a j x) L) : sAt p l e R s m args below meth c D G nL cs sl Q pc lv (.int (sI x) :: .int (sI i) :: .ref (G.1 a) :: st) M L := fun H locs ls hP hS hl => by
  subst hi
  refine va_iast C.1 C.2.1 C.2.2.2.2.2.1 hP (sWs_D C.2.2.2.2.2.2.1 _ M L) hS a 0 (n := n) (f := fun j => sI (M a j)) (by rw [sWs_get G M L ha.1, ha.2.2]) rfl (sI_in hj ha.2.1) hd (fun H1 locs1 hP1 _ hS1 => ?_)
  rw [sI_updE (M a) (Nat.lt_trans hj ha.2.1)] at hP1
  have hP2 : va_P D clX ((sWs G M L).set a (G.1 a, shp G a (fun b => if b = j then x else M a b) (L a))) H1 := by rw [ha.2.2]; exact hP1
  rw [sWs_setM G M L ha.1, ← sSt_is] at hP2
  exact k H1 locs1 ls hP2 hS1 hl
theorem sI_byte {x : Int} (h1 : -128 ≤ x) (h2 : x < 128) : vp_nar .byte (sI x) = sI x := by
  rw [vp_nar_byte, ← Int32.toInt_inj, Int8.toInt_toInt32, Int32.toInt_toInt8, sI_t ⟨by omega, by omega⟩]
  exact Int.bmod_eq_of_le (by omega) (by omega)
theorem at_bast (C : sCx p s m args c cc own nL D G) {a n : Nat} {i x : Int} (j : Nat) (ha : arB G a n) (hi : i = (j : Int)) (hj : j < n) (h1 : -128 ≤ x) (h2 : x < 128) (hd : decode cc pc = .ok (.bastore, 1)) (k : sAt p l e R s m args below meth c D G nL cs sl Q (pc + 1) lv st (sSt M a j x) L) : sAt p l e R s m args below meth c D G nL cs sl Q pc lv (.int (sI x) :: .int (sI i) :: .ref (G.1 a) :: st) M L := fun H locs ls hP hS hl => by
  subst hi
  refine va_bast C.1 C.2.1 C.2.2.2.2.2.1 hP (sWs_D C.2.2.2.2.2.2.1 _ M L) hS a 2 (n := n) (f := fun j => sI (M a j)) (by rw [sWs_get G M L ha.1, ha.2.2]) rfl (sI_in hj ha.2.1) hd (fun H1 locs1 hP1 _ hS1 => ?_)
  rw [sI_byte h1 h2, sI_updE (M a) (Nat.lt_trans hj ha.2.1)] at hP1
  have hP2 : va_P D clX ((sWs G M L).set a (G.1 a, shp G a (fun b => if b = j then x else M a b) (L a))) H1 := by rw [ha.2.2]; exact hP1
  rw [sWs_setM G M L ha.1, ← sSt_is] at hP2
  exact k H1 locs1 ls hP2 hS1 hl
theorem at_zast1 (C : sCx p s m args c cc own nL D G) {a n : Nat} {i : Int} (j : Nat) (ha : arZ G a n) (hi : i = (j : Int)) (hj : j < n) (hd : decode cc pc = .ok (.bastore, 1)) (k : sAt p l e R s m args below meth c D G nL cs sl Q (pc + 1) lv st (sSt M a j 1) L) : sAt p l e R s m args below meth c D G nL cs sl Q pc lv (.int (sI 1) :: .int (sI i) :: .ref (G.1 a) :: st) M L := fun H locs ls hP hS hl => by
  subst hi
  refine va_zast C.1 C.2.1 C.2.2.2.2.2.1 hP (sWs_D C.2.2.2.2.2.2.1 _ M L) hS a 3 (n := n) (f := fun j => sI (M a j)) (by rw [sWs_get G M L ha.1, ha.2.2]) rfl (sI_in hj ha.2.1) hd (fun H1 locs1 hP1 _ hS1 => ?_)
  rw [show vp_nar .boolean (sI 1) = sI 1 from by decide +kernel, sI_updE (M a) (Nat.lt_trans hj ha.2.1)] at hP1
  have hP2 : va_P D clX ((sWs G M L).set a (G.1 a, shp G a (fun b => if b = j then 1 else M a b) (L a))) H1 := by rw [ha.2.2]; exact hP1
  rw [sWs_setM G M L ha.1, ← sSt_is] at hP2
  exact k H1 locs1 ls hP2 hS1 hl
theorem at_last (C : sCx p s m args c cc own nL D G) {a n : Nat} {i : Int} {x : Int64} (j : Nat) (ha : arJ G a n) (hi : i = (j : Int)) (hj : j < n) (hd : decode cc pc = .ok (.lastore, 1)) (k : sAt p l e R s m args below meth c D G nL cs sl Q (pc + 1) lv st M (sSl L a j x)) : sAt p l e R s m args below meth c D G nL cs sl Q pc lv (.long x :: .int (sI i) :: .ref (G.1 a) :: st) M L := fun H locs ls hP hS hl => by
  subst hi
  refine va_last C.1 C.2.1 C.2.2.2.2.2.1 hP (sWs_D C.2.2.2.2.2.2.1 _ M L) hS a 1 (n := n) (f := L a) (by rw [sWs_get G M L ha.1, ha.2.2]) rfl (sI_in hj ha.2.1) hd (fun H1 locs1 hP1 _ hS1 => ?_)
  rw [sI_idx (Nat.lt_trans hj ha.2.1)] at hP1
  have hP2 : va_P D clX ((sWs G M L).set a (G.1 a, shp G a (M a) (vp_updL (L a) j x))) H1 := by rw [ha.2.2]; exact hP1
  rw [sWs_setL G M L ha.1] at hP2
  exact k H1 locs1 ls hP2 hS1 hl
theorem at_alen (C : sCx p s m args c cc own nL D G) {a n : Nat} (ha : arI G a n) (hd : decode cc pc = .ok (.arraylength, 1)) (k : sAt p l e R s m args below meth c D G nL cs sl Q (pc + 1) lv (.int (sI (n : Int)) :: st) M L) : sAt p l e R s m args below meth c D G nL cs sl Q pc lv (.ref (G.1 a) :: st) M L := fun H locs ls hP hS hl =>
  va_alen C.1 C.2.1 C.2.2.2.2.2.1 hP a 0 (x := (n, .inl (fun j => sI (M a j)))) (by rw [sWs_get G M L ha.1, ha.2.2]) rfl (Int32.ofInt_eq_ofNat.symm) hd (k H locs ls hP hS hl)
/-- an array of references: what lies at the place is known -/
theorem at_aaldM (C : sCx p s m args c cc own nL D G) {a n b : Nat} {i : Int} {f : Nat → Option Nat} (j : Nat) (ha : a < 280) (hn : n < 2 ^ 31) (hsh : ∀ r q, shp G a r q = sAM G n f) (hi : i = (j : Int)) (hj : j < n) (hf : f j = some (G.1 b)) (hd : decode cc pc = .ok (.aaload, 1)) (k : sAt p l e R s m args below meth c D G nL cs sl Q (pc + 1) lv (.ref (G.1 b) :: st) M L) : sAt p l e R s m args below meth c D G nL cs sl Q pc lv (.int (sI i) :: .ref (G.1 a) :: st) M L := fun H locs ls hP hS hl => by
  subst hi
  refine va_aldq C.1 C.2.1 C.2.2.2.2.2.1 hP a 4 (n := n) (f := f) (by rw [sWs_get G M L ha, hsh]) rfl (sI_in hj hn) hd ?_
  rw [sI_idx (Nat.lt_trans hj hn), hf]
  exact k H locs ls hP hS hl
theorem at_aaldX (C : sCx p s m args c cc own nL D G) {a n b : Nat} {i : Int} {f : Nat → Option Nat} (j : Nat) (ha : a < 280) (hn : n < 2 ^ 31) (hsh : ∀ r q, shp G a r q = sAX G n f) (hi : i = (j : Int)) (hj : j < n) (hf : f j = some (G.1 b)) (hd : decode cc pc = .ok (.aaload, 1)) (k : sAt p l e R s m args below meth c D G nL cs sl Q (pc + 1) lv (.ref (G.1 b) :: st) M L) : sAt p l e R s m args below meth c D G nL cs sl Q pc lv (.int (sI i) :: .ref (G.1 a) :: st) M L := fun H locs ls hP hS hl => by
  subst hi
  refine va_aldq C.1 C.2.1 C.2.2.2.2.2.1 hP a 5 (n := n) (f := f) (by rw [sWs_get G M L ha, hsh]) rfl (sI_in hj hn) hd ?_
  rw [sI_idx (Nat.lt_trans hj hn), hf]
  exact k H locs ls hP hS hl
end R
