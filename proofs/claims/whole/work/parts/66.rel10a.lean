/-! swaps: looked through -/
def swG (m : Nat) (h : Nat → Int) (i : Nat) : Int := if lst (fun s => h s = i) 6 ≠ -1 ∧ (0 ≤ lst (fun s => h s = i) 6 ∧ lst (fun s => h s = i) 6 < m) ∧ lst (fun s => h s = i) 6 ≠ i then lst (fun s => h s = i) 6 else -1
def swF (m : Nat) (h : Nat → Int) (i : Nat) : Nat → Int → Int
  | 0, k => k
  | f + 1, k => if (i : Int) < k then swF m h i f (swG m h k.toNat) else k
def swQ (m : Nat) (h : Nat → Int) : Nat → Int
  | 0 => 0
  | i + 1 => swQ m h i + (if swG m h i ≠ -1 then 1 else 0) - (if swF m h i 6 (swG m h i) = i then 1 else 0)
def swK (m : Nat) (l : List Int) : Bool := swC 6 (lstF l) m == swQ m (lstF l) m
def swO (m : Nat) : List Int := [Int.negSucc 0, Int.ofNat 0, Int.ofNat 1, Int.ofNat 2, Int.ofNat 3, Int.ofNat 4, Int.ofNat 5].take (m + 1)
def swE (m : Nat) : Nat → List Int → Bool
  | 0, l => swK m l
  | n + 1, l => (swO m).all fun v => (v != Int.negSucc 0 && l.contains v) || swE m n (v :: l)
theorem swE_ck3 : ∀ m, m < 4 → swE m 6 [] = true := by decide +kernel
theorem swE_ck4 : swE 4 6 [] = true := by decide +kernel
theorem swE_ck5 : swE 5 6 [] = true := by decide +kernel
theorem swE_k0 : swE 6 5 [Int.negSucc 0] = true := by decide +kernel
theorem swE_k1 : swE 6 5 [Int.ofNat 0] = true := by decide +kernel
theorem swE_k2 : swE 6 5 [Int.ofNat 1] = true := by decide +kernel
theorem swE_k3 : swE 6 5 [Int.ofNat 2] = true := by decide +kernel
theorem swE_k4 : swE 6 5 [Int.ofNat 3] = true := by decide +kernel
theorem swE_k5 : swE 6 5 [Int.ofNat 4] = true := by decide +kernel
theorem swE_k6 : swE 6 5 [Int.ofNat 5] = true := by decide +kernel
theorem swE_ck6 : swE 6 6 [] = true := by
  refine List.all_eq_true.mpr (fun v hv => ?_)
  rw [Bool.or_eq_true]
  refine Or.inr ?_
  have hv2 : v ∈ [Int.negSucc 0, Int.ofNat 0, Int.ofNat 1, Int.ofNat 2, Int.ofNat 3, Int.ofNat 4, Int.ofNat 5] := hv
  simp only [List.mem_cons, List.not_mem_nil, or_false] at hv2
  rcases hv2 with rfl | rfl | rfl | rfl | rfl | rfl | rfl
  · exact swE_k0
  · exact swE_k1
  · exact swE_k2
  · exact swE_k3
  · exact swE_k4
  · exact swE_k5
  · exact swE_k6
