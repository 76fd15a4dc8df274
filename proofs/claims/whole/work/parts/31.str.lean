/-! the words of the reader: String, outside our cells -/
section R3
variable {p : Program} {l : Launch} {e : Env} {R : Room} {s : State} {m : MethodId} {args : Array Value} {below : List Frame} {meth : Method} {c : Code} {D : va_G} {G : sG} {nL cs sl : Nat} {Q : State → Prop} {cc : ByteArray} {own : String}
variable {pc : Nat} {lv : List (Nat × Value)} {st : List Value} {M : sM} {L : sL}
theorem sX_S (C : sCx p s m args c cc own nL D G) : vk_S 6 lenS bytS (fun i => G.1 (300 + i)) (fun i => G.1 (310 + i)) (sA G s.heap.size) s s.heap := C.2.2.2.2.2.2.2.1
theorem at_strV (C : sCx p s m args c cc own nL D G) {index i : Nat} (hi : i < 6) (ql : Cond.fieldLink own index RJ0 "value" "[B" ∈ lw_tbl) (hd : decode cc pc = .ok (.getfield index, 3)) (k : sAt p l e R s m args below meth c D G nL cs sl Q (pc + 3) lv (.ref (G.1 (310 + i)) :: st) M L) : sAt p l e R s m args below meth c D G nL cs sl Q pc lv (.ref (G.1 (300 + i)) :: st) M L := fun H locs ls hP hS hl =>
  vk_getf C.1 C.2.1 ((sX_S C).1 i hi).2.2.1 hS C.2.2.2.1 (C.2.2.2.2.1 _ (so_in ql rfl)) (fun x h => h) hd (k H locs ls hP hS hl)
theorem at_strC (C : sCx p s m args c cc own nL D G) {index i : Nat} (hi : i < 6) (ql : Cond.fieldLink own index RJ0 "coder" "B" ∈ lw_tbl) (hd : decode cc pc = .ok (.getfield index, 3)) (k : sAt p l e R s m args below meth c D G nL cs sl Q (pc + 3) lv (.int (sI 0) :: st) M L) : sAt p l e R s m args below meth c D G nL cs sl Q pc lv (.ref (G.1 (300 + i)) :: st) M L := fun H locs ls hP hS hl =>
  vk_getf C.1 C.2.1 ((sX_S C).1 i hi).2.1 hS C.2.2.2.1 (C.2.2.2.2.1 _ (so_in ql rfl)) (fun x h => h) hd (by have z := k H locs ls hP hS hl; rw [show sI 0 = 0 from rfl] at z; exact z)
theorem at_gsC (C : sCx p s m args c cc own nL D G) {index : Nat} (ql : Cond.fieldLink own index RJ0 "COMPACT_STRINGS" "Z" ∈ lw_tbl) (hd : decode cc pc = .ok (.getstatic index, 3)) (k : sAt p l e R s m args below meth c D G nL cs sl Q (pc + 3) lv (.int (sI 1) :: st) M L) : sAt p l e R s m args below meth c D G nL cs sl Q pc lv st M L := fun H locs ls hP hS hl =>
  va_gets C.1 C.2.1 C.2.2.2.2.2.2.2.2.1 hS C.2.2.2.1 (C.2.2.2.2.1 _ (so_in ql rfl)) (fun x h => h) hd (by have z := k H locs ls hP hS hl; rw [show sI 1 = 1 from rfl] at z; exact z)
theorem at_gsF (C : sCx p s m args c cc own nL D G) {index : Nat} (ql : Cond.fieldLink own index RJ3 "SIOOBE_FORMATTER" "Ljava/util/function/BiFunction;" ∈ lw_tbl) (hd : decode cc pc = .ok (.getstatic index, 3)) (k0 : sAt p l e R s m args below meth c D G nL cs sl Q (pc + 3) lv (.null :: st) M L) (k : ∀ q : Nat, sAt p l e R s m args below meth c D G nL cs sl Q (pc + 3) lv (.ref q :: st) M L) : sAt p l e R s m args below meth c D G nL cs sl Q pc lv st M L := fun H locs ls hP hS hl => by
  rcases C.2.2.2.2.2.2.2.2.2.1 with z | ⟨q, z⟩
  · exact va_gets C.1 C.2.1 z hS C.2.2.2.1 (C.2.2.2.2.1 _ (so_in ql rfl)) (fun x h => h) hd (k0 H locs ls hP hS hl)
  · exact va_gets C.1 C.2.1 z hS C.2.2.2.1 (C.2.2.2.2.1 _ (so_in ql rfl)) (fun x h => h) hd (k q H locs ls hP hS hl)
theorem at_strL (C : sCx p s m args c cc own nL D G) {i : Nat} (hi : i < 6) (hd : decode cc pc = .ok (.arraylength, 1)) (k : sAt p l e R s m args below meth c D G nL cs sl Q (pc + 1) lv (.int (sI ((lenS.getD i 0 : Nat) : Int)) :: st) M L) : sAt p l e R s m args below meth c D G nL cs sl Q pc lv (.ref (G.1 (310 + i)) :: st) M L := fun H locs ls hP hS hl =>
  va_tlen C.1 C.2.1 ((sX_S C).1 i hi).2.2.2 hS (by rw [sI_nI]; rfl) hd (k H locs ls hP hS hl)
def bytI (i j : Nat) : Int := ((bytS.getD i []).getD j 0).toInt
theorem bytI_r : ∀ i, i < 6 → ∀ j, j < lenS.getD i 0 → 97 ≤ bytI i j ∧ bytI i j ≤ 122 := by decide +kernel
theorem bytI_s (i j : Nat) : (bytS.getD i []).getD j 0 = sI (bytI i j) := by
  unfold bytI sI
  exact (Int32.ofInt_toInt _).symm
theorem lenS_r : ∀ i, i < 6 → 4 ≤ lenS.getD i 0 ∧ lenS.getD i 0 ≤ 6 := by decide +kernel
theorem at_strB (C : sCx p s m args c cc own nL D G) {i : Nat} {x : Int} (j : Nat) (hi : i < 6) (hx : x = (j : Int)) (hj : j < lenS.getD i 0) (hd : decode cc pc = .ok (.baload, 1)) (k : sAt p l e R s m args below meth c D G nL cs sl Q (pc + 1) lv (.int (sI (bytI i j)) :: st) M L) : sAt p l e R s m args below meth c D G nL cs sl Q pc lv (.int (sI x) :: .ref (G.1 (310 + i)) :: st) M L := fun H locs ls hP hS hl => by
  subst hx
  have h6 := lenS_r i hi
  exact va_tb C.1 C.2.1 ((sX_S C).1 i hi).2.2.2 hS (sI_in hj (by omega)) (by rw [sI_idx (by omega), bytI_s]) hd (k H locs ls hP hS hl)
theorem at_ldcS (C : sCx p s m args c cc own nL D G) {index i : Nat} (ho : own = RX3) (hi : i < 6) (hx : indS i = index) (hd : decode cc pc = .ok (.ldc index, 2)) (k : sAt p l e R s m args below meth c D G nL cs sl Q (pc + 2) lv (.ref (G.1 (300 + i)) :: st) M L) : sAt p l e R s m args below meth c D G nL cs sl Q pc lv st M L := fun H locs ls hP hS hl => by
  subst ho hx
  exact va_ldcS C.1 C.2.1 C.2.2.2.1 (C.2.2.2.2.2.2.2.2.2.2.1 i hi) hd (k H locs ls hP hS hl)
theorem at_i2c (C : sCx p s m args c cc own nL D G) {a : Int} (hd : decode cc pc = .ok (.i2c, 1)) (h : 0 ≤ a ∧ a < 256) (k : sAt p l e R s m args below meth c D G nL cs sl Q (pc + 1) lv (.int (sI a) :: st) M L) : sAt p l e R s m args below meth c D G nL cs sl Q pc lv (.int (sI a) :: st) M L := fun H locs ls hP hS hl => by
  have e : ∀ n : Nat, n < 256 → ((sI (n : Int)).toUInt32 % 65536).toInt32 = sI (n : Int) := by decide +kernel
  exact lv_i2c C.1 C.2.1 hd (by have := e a.toNat (by omega); rw [Int.toNat_of_nonneg h.1] at this; exact this) (k H locs ls hP hS hl)
/-- a call on one of the words -/
theorem sPreW (C : sCx p s m args c cc own nL D G) {H : Heap} {locs : List Loc} {i : Nat} (hi : i < 6) (hP : va_P D clX (sWs G M L) H) (hS : va_S (sA G s.heap.size) s.heap H locs) (As : List Value) : PreV s H RJ0 (G.1 (300 + i)) (va_Pc (.ref (G.1 (300 + i)) :: As) (sPre D G M L H.size)) As :=
  ⟨sBlind D G M L H.size _, vk_recv (adK := fun i => G.1 (300 + i)) (adV := fun i => G.1 (310 + i)) (sX_S C) hi hS, fun U hU hW => ⟨rfl, sPreU C hP hS U hU hW⟩⟩
theorem at_word_i (C : sCx p s m args c cc own nL D G) {y : MethodName} {b : ByteArray} {n f k index i : Nat} {rt : FieldType} {As : List Value} {post : Int32 → sM → sL → Prop} (hi : i < 6) (hK : sKi l D G y b n rt f k (.ref (G.1 (300 + i)) :: As) M L post) (hc : y.cls = RJ0) (qc : Cond.code y b n (some rt) ∈ lw_tbl) (ql : Cond.methodLink own index y ∈ lw_tbl) (qi : Cond.initialized y.cls ∈ lw_tbl) (qn : Cond.instanceMethod y ∈ lw_tbl) (qs : Cond.selects y.cls y y ∈ lw_tbl) (hn : sNm y As.length) (hR : f + 1 ≤ R.frames ∧ 8 + (n + 11) + k ≤ R.locals) (hR2 : sRoom R cs sl) (hst : (st.map fun v => v.category).sum ≤ 8) (hd : decode cc pc = .ok (.invokevirtual index, 3)) {stk : List Value} (hstk : stk = As.reverse ++ .ref (G.1 (300 + i)) :: st) (kk : ∀ r M' L', post r M' L' → sAt p l e R s m args below meth c D G nL cs sl Q (pc + 3) lv (.int r :: st) M' L') : sAt p l e R s m args below meth c D G nL cs sl Q pc lv stk M L := fun H locs ls hP hS hl => by
  subst hstk
  refine va_calli (va_runV (As := As) (rest := st) ⟨C.1, C.2.1, C.2.2.1, C.2.2.2.1, C.2.2.2.2.1⟩ (hK H.size) ⟨sCw C qc ql qi hn hR, C.2.2.2.2.1 _ (so_in qn rfl), C.2.2.2.2.1 _ (so_in qs rfl)⟩ (hc ▸ sPreW C hi hP hS As) rfl rfl hl.1 rfl (lv_room hst) hd hR2) hS (fun q _ h => sFree hS q h) (sFree hS) (fun r u t H1 locs1 ht hvm hw hB hz hk hS1 => ?_)
  obtain ⟨hP1, hK1⟩ := hB
  rw [ht] at hP1
  exact kk r u.1 u.2 hw H1 locs1 ls hP1 hS1 hl
end R3
/-- ends of bytes and chars -/
theorem sI_nb : ∀ n : Nat, n < 128 → narrow .byte (.int (sI (n : Int))) = .int (sI (n : Int)) ∧ narrow .char (.int (sI (n : Int))) = .int (sI (n : Int)) := by decide +kernel
theorem sKn_go {l : Launch} {D : va_G} {G : sG} {y : MethodName} {b : ByteArray} {n : Nat} {rt : FieldType} {f k : Nat} {As : List Value} {M : sM} {L : sL} {post : Int32 → sM → sL → Prop} (hrt : rt = .byte ∨ rt = .char) (hy : plainName y.cls = true) (hlen : (lg_sl As).length ≤ n)
    (body : ∀ (p : Program) (e : Env) (s : State) (m : MethodId) (args : Array Value) (below : List Frame) (meth : Method) (c : Code) (Q : State → Prop), sCx p s m args c b y.cls n D G →
      (∀ pc lv a M' L', decode b pc = .ok (.ireturn, 1) → 0 ≤ a → a < 128 → post (sI a) M' L' → sAt p l e (sRm f k) s m args below meth c D G n 0 0 Q pc lv [.int (sI a)] M' L') →
      sAt p l e (sRm f k) s m args below meth c D G n 0 0 Q 0 (lv_args 0 As) [] M L) : sKi l D G y b n rt f k As M L post :=
  sKi_of hy hlen (fun p e s m args below meth c C hr hk => body p e s m args below meth c _ C (fun pc lv a M' L' hd h1 h2 h => fun H locs ls hP hS hl => by
    have hn : narrow rt (.int (sI a)) = .int (sI a) := by
      have := sI_nb a.toNat (by omega)
      rw [Int.toNat_of_nonneg h1] at this
      rcases hrt with z | z
      · rw [z]; exact this.1
      · rw [z]; exact this.2
    exact W.zret C.1 C.2.1 hr hn (fun t ht hW => ⟨⟨sI a, (M', L'), rfl, h, by rw [ht]; exact hP, va_K.moved hW.alike C.2.2.2.2.2.1⟩, hS.F ht⟩) hS.2.2 hd hk))
