/-! the law: rows over its script -/
section LR
variable {p : Program} {l : Launch} {e : Env} {R : Room} {s : State} {m : MethodId} {args : Array Value} {below : List Frame} {meth : Method} {c : Code} {D : va_G} {G : sG} {nL cs sl : Nat} {Q : State → Prop} {cc : ByteArray} {own : String}
variable {pc : Nat} {lv : List (Nat × Value)} {st : List Value} {M : sM} {L : sL}
theorem at_same (C : sCx p s m args c cc own nL D G) {x : Int32} {off : Int} (tgt : Nat) (hd : decode cc pc = .ok (.if_icmp .eq off, 3)) (ht : (pc : Int) + off = (tgt : Int)) (k : sAt p l e R s m args below meth c D G nL cs sl Q tgt lv st M L) : sAt p l e R s m args below meth c D G nL cs sl Q pc lv (.int x :: .int x :: st) M L := fun H locs ls hP hS hl => lv_icmp_eq C.1 C.2.1 hd ht (fun _ => k H locs ls hP hS hl) (fun h => absurd rfl h)
theorem lcI_s (x : Int64) : lcI x x = 0 := by
  rcases lcI_c x x with h | h | h
  · exact absurd rfl h.2
  · exact h.1
  · exact absurd rfl h.2
theorem at_lsame (C : sCx p s m args c cc own nL D G) {x : Int64} {off : Int} (tgt : Nat) (hd : decode cc pc = .ok (.lcmp, 1)) (hd2 : decode cc (pc + 1) = .ok (.ifCond .eq off, 3)) (ht : ((pc + 1 : Nat) : Int) + off = (tgt : Int)) (k : sAt p l e R s m args below meth c D G nL cs sl Q tgt lv st M L) : sAt p l e R s m args below meth c D G nL cs sl Q pc lv (.long x :: .long x :: st) M L := by
  refine at_lcmp C hd ?_
  rw [lcI_s]
  exact at_if_eq C tgt hd2 ht ⟨by decide, by decide⟩ (fun _ => k) (fun h => absurd rfl h)
theorem at_tabIn (C : sCx p s m args c cc own nL D G) {v : Int} (hv : InR v) {dflt lo hi : Int} {offs : Array Int} {len : Nat} (hd : decode cc pc = .ok (.tableswitch dflt lo hi offs, len)) (h1 : lo ≤ v) (h2 : v ≤ hi) {off : Int} (tgt : Nat) (ho : offs[(v - lo).toNat]? = some off) (ht : (pc : Int) + off = (tgt : Int)) (k : sAt p l e R s m args below meth c D G nL cs sl Q tgt lv st M L) : sAt p l e R s m args below meth c D G nL cs sl Q pc lv (.int (sI v) :: st) M L := fun H locs ls hP hS hl =>
  lv_tableIn C.1 C.2.1 hd (by rw [sI_t hv]; omega) (by rw [sI_t hv]; omega) (by rw [sI_t hv]; exact ho) ht (k H locs ls hP hS hl)
theorem at_tabOut (C : sCx p s m args c cc own nL D G) {v : Int} (hv : InR v) {dflt lo hi : Int} {offs : Array Int} {len : Nat} (tgt : Nat) (hd : decode cc pc = .ok (.tableswitch dflt lo hi offs, len)) (h : v < lo ∨ hi < v) (ht : (pc : Int) + dflt = (tgt : Int)) (k : sAt p l e R s m args below meth c D G nL cs sl Q tgt lv st M L) : sAt p l e R s m args below meth c D G nL cs sl Q pc lv (.int (sI v) :: st) M L := fun H locs ls hP hS hl =>
  lv_tableOut C.1 C.2.1 hd (by rw [sI_t hv]; exact h) ht (k H locs ls hP hS hl)
theorem at_slen (C : sCx p s m args c cc own nL D G) {b Ls : Nat} {xs : Nat → Int32} (hX : va_X b Ls xs s s.heap) (hbl : b < s.heap.size) (hbA : ¬ sA G s.heap.size b) (hd : decode cc pc = .ok (.arraylength, 1)) (k : sAt p l e R s m args below meth c D G nL cs sl Q (pc + 1) lv (.int (sI (Ls : Int)) :: st) M L) : sAt p l e R s m args below meth c D G nL cs sl Q pc lv (.ref b :: st) M L := fun H locs ls hP hS hl =>
  va_slen C.1 C.2.1 hX hbl hbA hS hd (by
    rw [show Int32.ofNat Ls = sI (Ls : Int) from (Int32.ofInt_eq_ofNat (n := Ls)).symm]
    exact k H locs ls hP hS hl)
theorem at_sld (C : sCx p s m args c cc own nL D G) {b Ls : Nat} {xs : Nat → Int32} (hX : va_X b Ls xs s s.heap) (hbl : b < s.heap.size) (hbA : ¬ sA G s.heap.size b) {i : Int} (j : Nat) (hi : i = (j : Int)) (hj : j < Ls) (hL : Ls ≤ 320) (hd : decode cc pc = .ok (.iaload, 1)) (k : sAt p l e R s m args below meth c D G nL cs sl Q (pc + 1) lv (.int (sI (xs j).toInt) :: st) M L) : sAt p l e R s m args below meth c D G nL cs sl Q pc lv (.int (sI i) :: .ref b :: st) M L := fun H locs ls hP hS hl => by
  subst hi
  refine va_sld C.1 C.2.1 hX hbl hbA hS (sI_in hj (by omega)) hd ?_
  rw [sI_idx (by omega), sI_of (xs j)]
  exact k H locs ls hP hS hl
/-- the law's frame: the script, the two objects, the place in the script -/
abbrev lvW (G : sG) (b i : Nat) : List (Nat × Value) := [(3, .int (sI (i : Int))), (2, .ref (G.1 258)), (1, .ref (G.1 0)), (0, .ref b)]
theorem at_scr (C : sCx p s m args c cc own nL D G) {b Ls i : Nat} {xs : Nat → Int32} (hX : va_X b Ls xs s s.heap) (hbl : b < s.heap.size) (hbA : ¬ sA G s.heap.size b) (hL : Ls ≤ 320) (k : Nat) (hk : i + k < Ls) (n : Int) (hn : n = (k : Int)) (d0 : decode cc pc = .ok (.aload_n 0, 1)) (d1 : decode cc (pc + 1) = .ok (.iload_n 3, 1)) (d2 : decode cc (pc + 1 + 1) = .ok (.iconst n, 1)) (d3 : decode cc (pc + 1 + 1 + 1) = .ok (.iadd, 1)) (d4 : decode cc (pc + 1 + 1 + 1 + 1) = .ok (.iaload, 1))
    (kk : sAt p l e R s m args below meth c D G nL cs sl Q (pc + 1 + 1 + 1 + 1 + 1) (lvW G b i) (.int (sI (xs (i + k)).toInt) :: st) M L) : sAt p l e R s m args below meth c D G nL cs sl Q pc (lvW G b i) st M L := by
  refine at_aload_n C 3 d0 rfl ?_
  refine at_iload_n C 0 d1 rfl ?_
  refine at_iconst C d2 ?_
  refine at_iadd C d3 ?_
  exact at_sld C hX hbl hbA (i + k) (by rw [hn]; omega) hk hL d4 kk
end LR
/-- from here the law comes to Q: the place in its bytecode, the place in the script, the stack, the memory -/
abbrev lA (p : Program) (l : Launch) (e : Env) (s : State) (m : MethodId) (b : Nat) (below : List Frame) (meth : Method) (c : Code) (D : va_G) (G : sG) (Q : State → Prop) (pc i : Nat) (st : List Value) (M : sM) (L : sL) : Prop :=
  sAt p l e room_1 s m #[Value.ref b] below meth c D G 4 280 7524 Q pc (lvW G b i) st M L
/-- what holds all through the law -/
def lX (p : Program) (s : State) (m : MethodId) (b : Nat) (c : Code) (D : va_G) (G : sG) (Ls : Nat) (xs : Nat → Int32) : Prop :=
  sCx p s m #[Value.ref b] c cL_law RL 4 D G ∧ va_X b Ls xs s s.heap ∧ b < s.heap.size ∧ ¬ sA G s.heap.size b ∧ Ls ≤ 320
