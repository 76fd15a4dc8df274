/-! the world at first: what the constructors leave, as one world -/
def gI (a1 a2 t : Nat → Nat) : Nat → Nat := fun k => if k < 258 then a1 k else if k < 280 then a2 (k - 258) else t k
theorem vpq {cA : ClassId} {n : Nat} {f g : Nat → Option Nat} (h : ∀ j, j < n → f j = g j) : vp_cell cA (n, .inr (.inr (.inr (.inr f)))) = vp_cell cA (n, .inr (.inr (.inr (.inr g)))) := by
  show arrV cA n (fun j => va_rf (f j)) = arrV cA n (fun j => va_rf (g j))
  exact congrArg (fun F : Fin n → Value => ({ cls := cA, slots := Array.ofFn F, vm := .none } : Cell)) (funext fun j => congrArg va_rf (h j.1 j.2))
def wI (a1 a2 : Nat → Nat) (K : Nat → ClassId) : va_W := wSh0 a1 K ++ wRf a2 K
def wOk (D : va_G) (a1 a2 t : Nat → Nat) (K : Nat → ClassId) (H : Heap) (k : Nat) : Prop := ∃ e, (wI a1 a2 K)[k]? = some (gI a1 a2 t k, e) ∧ (va_at D clX (gI a1 a2 t k, e) H → va_at D clX (gI a1 a2 t k, shp (gI a1 a2 t, K) k (mI k) (lI k)) H)
section WI
variable {D : va_G} {a1 a2 t : Nat → Nat} {K : Nat → ClassId} {H : Heap}
theorem at_q {D : va_G} {q : Nat} {cA : ClassId} {n : Nat} {f g : Nat → Option Nat} {H : Heap} (h : ∀ j, j < n → f j = g j) (k : va_at D clX (q, .inl (cA, n, .inr (.inr (.inr (.inr f))))) H) : va_at D clX (q, .inl (cA, n, .inr (.inr (.inr (.inr g))))) H := by
  have k' : H[q]? = some (vp_cell cA (n, .inr (.inr (.inr (.inr f))))) := k
  rw [vpq h] at k'
  exact k'
theorem ws_0 : wOk D a1 a2 t K H 0 := ⟨_, rfl, fun h => h⟩
theorem ws_1 : wOk D a1 a2 t K H 1 := ⟨_, rfl, fun h => h⟩
theorem ws_2 : wOk D a1 a2 t K H 2 := ⟨_, rfl, fun h => h⟩
theorem ws_3 : wOk D a1 a2 t K H 3 := ⟨_, rfl, fun h => h⟩
theorem ws_4 : wOk D a1 a2 t K H 4 := ⟨_, rfl, fun h => h⟩
theorem ws_5 : wOk D a1 a2 t K H 5 := ⟨_, rfl, fun h => h⟩
theorem ws_6 : wOk D a1 a2 t K H 6 := ⟨_, rfl, fun h => h⟩
theorem ws_7 : wOk D a1 a2 t K H 7 := ⟨_, rfl, fun h => h⟩
theorem ws_8 : wOk D a1 a2 t K H 8 := ⟨_, rfl, fun h => h⟩
theorem ws_9 : wOk D a1 a2 t K H 9 := ⟨_, rfl, fun h => h⟩
theorem ws_10 : wOk D a1 a2 t K H 10 := ⟨_, rfl, fun h => at_q (fun j hj => by rcases (show j = 0 ∨ j = 1 ∨ j = 2 ∨ j = 3 ∨ j = 4 ∨ j = 5 ∨ j = 6 ∨ j = 7 by omega) with rfl | rfl | rfl | rfl | rfl | rfl | rfl | rfl <;> rfl) h⟩
theorem ws_11 : wOk D a1 a2 t K H 11 := ⟨_, rfl, fun h => h⟩
theorem ws_12 : wOk D a1 a2 t K H 12 := ⟨_, rfl, fun h => h⟩
theorem ws_13 : wOk D a1 a2 t K H 13 := ⟨_, rfl, fun h => h⟩
theorem ws_14 : wOk D a1 a2 t K H 14 := ⟨_, rfl, fun h => h⟩
theorem ws_15 : wOk D a1 a2 t K H 15 := ⟨_, rfl, fun h => h⟩
theorem ws_16 : wOk D a1 a2 t K H 16 := ⟨_, rfl, fun h => h⟩
theorem ws_17 : wOk D a1 a2 t K H 17 := ⟨_, rfl, fun h => h⟩
theorem ws_18 : wOk D a1 a2 t K H 18 := ⟨_, rfl, fun h => h⟩
theorem ws_19 : wOk D a1 a2 t K H 19 := ⟨_, rfl, fun h => h⟩
theorem ws_20 : wOk D a1 a2 t K H 20 := ⟨_, rfl, fun h => h⟩
theorem ws_21 : wOk D a1 a2 t K H 21 := ⟨_, rfl, fun h => h⟩
theorem ws_22 : wOk D a1 a2 t K H 22 := ⟨_, rfl, fun h => h⟩
theorem ws_23 : wOk D a1 a2 t K H 23 := ⟨_, rfl, fun h => h⟩
theorem ws_24 : wOk D a1 a2 t K H 24 := ⟨_, rfl, fun h => h⟩
theorem ws_25 : wOk D a1 a2 t K H 25 := ⟨_, rfl, fun h => h⟩
theorem ws_26 : wOk D a1 a2 t K H 26 := ⟨_, rfl, fun h => h⟩
theorem ws_27 : wOk D a1 a2 t K H 27 := ⟨_, rfl, fun h => h⟩
theorem ws_28 : wOk D a1 a2 t K H 28 := ⟨_, rfl, fun h => h⟩
theorem ws_29 : wOk D a1 a2 t K H 29 := ⟨_, rfl, fun h => h⟩
theorem ws_30 : wOk D a1 a2 t K H 30 := ⟨_, rfl, fun h => h⟩
theorem ws_31 : wOk D a1 a2 t K H 31 := ⟨_, rfl, fun h => h⟩
theorem ws_32 : wOk D a1 a2 t K H 32 := ⟨_, rfl, fun h => h⟩
theorem ws_33 : wOk D a1 a2 t K H 33 := ⟨_, rfl, fun h => h⟩
theorem ws_34 : wOk D a1 a2 t K H 34 := ⟨_, rfl, fun h => h⟩
theorem ws_35 : wOk D a1 a2 t K H 35 := ⟨_, rfl, fun h => h⟩
theorem ws_36 : wOk D a1 a2 t K H 36 := ⟨_, rfl, fun h => h⟩
theorem ws_37 : wOk D a1 a2 t K H 37 := ⟨_, rfl, fun h => h⟩
theorem ws_38 : wOk D a1 a2 t K H 38 := ⟨_, rfl, fun h => h⟩
theorem ws_39 : wOk D a1 a2 t K H 39 := ⟨_, rfl, fun h => h⟩
theorem ws_40 : wOk D a1 a2 t K H 40 := ⟨_, rfl, fun h => h⟩
theorem ws_41 : wOk D a1 a2 t K H 41 := ⟨_, rfl, fun h => h⟩
theorem ws_42 : wOk D a1 a2 t K H 42 := ⟨_, rfl, fun h => h⟩
theorem ws_43 : wOk D a1 a2 t K H 43 := ⟨_, rfl, fun h => h⟩
theorem ws_44 : wOk D a1 a2 t K H 44 := ⟨_, rfl, fun h => h⟩
theorem ws_45 : wOk D a1 a2 t K H 45 := ⟨_, rfl, fun h => h⟩
theorem ws_46 : wOk D a1 a2 t K H 46 := ⟨_, rfl, fun h => h⟩
theorem ws_47 : wOk D a1 a2 t K H 47 := ⟨_, rfl, fun h => h⟩
theorem ws_48 : wOk D a1 a2 t K H 48 := ⟨_, rfl, fun h => h⟩
theorem ws_49 : wOk D a1 a2 t K H 49 := ⟨_, rfl, fun h => h⟩
theorem ws_50 : wOk D a1 a2 t K H 50 := ⟨_, rfl, fun h => h⟩
theorem ws_51 : wOk D a1 a2 t K H 51 := ⟨_, rfl, fun h => h⟩
theorem ws_52 : wOk D a1 a2 t K H 52 := ⟨_, rfl, fun h => h⟩
theorem ws_53 : wOk D a1 a2 t K H 53 := ⟨_, rfl, fun h => h⟩
theorem ws_54 : wOk D a1 a2 t K H 54 := ⟨_, rfl, fun h => h⟩
theorem ws_55 : wOk D a1 a2 t K H 55 := ⟨_, rfl, fun h => h⟩
theorem ws_56 : wOk D a1 a2 t K H 56 := ⟨_, rfl, fun h => h⟩
theorem ws_57 : wOk D a1 a2 t K H 57 := ⟨_, rfl, fun h => h⟩
theorem ws_58 : wOk D a1 a2 t K H 58 := ⟨_, rfl, fun h => at_q (fun j hj => by rcases (show j = 0 ∨ j = 1 ∨ j = 2 ∨ j = 3 ∨ j = 4 ∨ j = 5 ∨ j = 6 ∨ j = 7 by omega) with rfl | rfl | rfl | rfl | rfl | rfl | rfl | rfl <;> rfl) h⟩
theorem ws_59 : wOk D a1 a2 t K H 59 := ⟨_, rfl, fun h => h⟩
theorem ws_60 : wOk D a1 a2 t K H 60 := ⟨_, rfl, fun h => h⟩
theorem ws_61 : wOk D a1 a2 t K H 61 := ⟨_, rfl, fun h => h⟩
theorem ws_62 : wOk D a1 a2 t K H 62 := ⟨_, rfl, fun h => h⟩
theorem ws_63 : wOk D a1 a2 t K H 63 := ⟨_, rfl, fun h => h⟩
theorem ws_64 : wOk D a1 a2 t K H 64 := ⟨_, rfl, fun h => h⟩
theorem ws_65 : wOk D a1 a2 t K H 65 := ⟨_, rfl, fun h => h⟩
theorem ws_66 : wOk D a1 a2 t K H 66 := ⟨_, rfl, fun h => h⟩
theorem ws_67 : wOk D a1 a2 t K H 67 := ⟨_, rfl, fun h => h⟩
theorem ws_68 : wOk D a1 a2 t K H 68 := ⟨_, rfl, fun h => h⟩
theorem ws_69 : wOk D a1 a2 t K H 69 := ⟨_, rfl, fun h => h⟩
theorem ws_70 : wOk D a1 a2 t K H 70 := ⟨_, rfl, fun h => h⟩
theorem ws_71 : wOk D a1 a2 t K H 71 := ⟨_, rfl, fun h => h⟩
theorem ws_72 : wOk D a1 a2 t K H 72 := ⟨_, rfl, fun h => h⟩
theorem ws_73 : wOk D a1 a2 t K H 73 := ⟨_, rfl, fun h => h⟩
theorem ws_74 : wOk D a1 a2 t K H 74 := ⟨_, rfl, fun h => h⟩
theorem ws_75 : wOk D a1 a2 t K H 75 := ⟨_, rfl, fun h => h⟩
theorem ws_76 : wOk D a1 a2 t K H 76 := ⟨_, rfl, fun h => h⟩
theorem ws_77 : wOk D a1 a2 t K H 77 := ⟨_, rfl, fun h => h⟩
theorem ws_78 : wOk D a1 a2 t K H 78 := ⟨_, rfl, fun h => h⟩
theorem ws_79 : wOk D a1 a2 t K H 79 := ⟨_, rfl, fun h => h⟩
theorem ws_80 : wOk D a1 a2 t K H 80 := ⟨_, rfl, fun h => h⟩
theorem ws_81 : wOk D a1 a2 t K H 81 := ⟨_, rfl, fun h => h⟩
theorem ws_82 : wOk D a1 a2 t K H 82 := ⟨_, rfl, fun h => h⟩
theorem ws_83 : wOk D a1 a2 t K H 83 := ⟨_, rfl, fun h => h⟩
theorem ws_84 : wOk D a1 a2 t K H 84 := ⟨_, rfl, fun h => h⟩
theorem ws_85 : wOk D a1 a2 t K H 85 := ⟨_, rfl, fun h => h⟩
theorem ws_86 : wOk D a1 a2 t K H 86 := ⟨_, rfl, fun h => h⟩
theorem ws_87 : wOk D a1 a2 t K H 87 := ⟨_, rfl, fun h => h⟩
theorem ws_88 : wOk D a1 a2 t K H 88 := ⟨_, rfl, fun h => h⟩
theorem ws_89 : wOk D a1 a2 t K H 89 := ⟨_, rfl, fun h => h⟩
theorem ws_90 : wOk D a1 a2 t K H 90 := ⟨_, rfl, fun h => h⟩
theorem ws_91 : wOk D a1 a2 t K H 91 := ⟨_, rfl, fun h => h⟩
theorem ws_92 : wOk D a1 a2 t K H 92 := ⟨_, rfl, fun h => h⟩
theorem ws_93 : wOk D a1 a2 t K H 93 := ⟨_, rfl, fun h => h⟩
theorem ws_94 : wOk D a1 a2 t K H 94 := ⟨_, rfl, fun h => h⟩
theorem ws_95 : wOk D a1 a2 t K H 95 := ⟨_, rfl, fun h => h⟩
theorem ws_96 : wOk D a1 a2 t K H 96 := ⟨_, rfl, fun h => h⟩
theorem ws_97 : wOk D a1 a2 t K H 97 := ⟨_, rfl, fun h => at_q (fun j hj => by rcases (show j = 0 ∨ j = 1 by omega) with rfl | rfl <;> rfl) h⟩
theorem ws_98 : wOk D a1 a2 t K H 98 := ⟨_, rfl, fun h => h⟩
theorem ws_99 : wOk D a1 a2 t K H 99 := ⟨_, rfl, fun h => h⟩
theorem ws_100 : wOk D a1 a2 t K H 100 := ⟨_, rfl, fun h => h⟩
theorem ws_101 : wOk D a1 a2 t K H 101 := ⟨_, rfl, fun h => h⟩
theorem ws_102 : wOk D a1 a2 t K H 102 := ⟨_, rfl, fun h => h⟩
theorem ws_103 : wOk D a1 a2 t K H 103 := ⟨_, rfl, fun h => h⟩
theorem ws_104 : wOk D a1 a2 t K H 104 := ⟨_, rfl, fun h => h⟩
theorem ws_105 : wOk D a1 a2 t K H 105 := ⟨_, rfl, fun h => h⟩
theorem ws_106 : wOk D a1 a2 t K H 106 := ⟨_, rfl, fun h => h⟩
theorem ws_107 : wOk D a1 a2 t K H 107 := ⟨_, rfl, fun h => at_q (fun j hj => by rcases (show j = 0 ∨ j = 1 ∨ j = 2 ∨ j = 3 ∨ j = 4 ∨ j = 5 ∨ j = 6 ∨ j = 7 by omega) with rfl | rfl | rfl | rfl | rfl | rfl | rfl | rfl <;> rfl) h⟩
theorem ws_108 : wOk D a1 a2 t K H 108 := ⟨_, rfl, fun h => h⟩
theorem ws_109 : wOk D a1 a2 t K H 109 := ⟨_, rfl, fun h => h⟩
theorem ws_110 : wOk D a1 a2 t K H 110 := ⟨_, rfl, fun h => h⟩
theorem ws_111 : wOk D a1 a2 t K H 111 := ⟨_, rfl, fun h => h⟩
theorem ws_112 : wOk D a1 a2 t K H 112 := ⟨_, rfl, fun h => h⟩
theorem ws_113 : wOk D a1 a2 t K H 113 := ⟨_, rfl, fun h => h⟩
theorem ws_114 : wOk D a1 a2 t K H 114 := ⟨_, rfl, fun h => h⟩
theorem ws_115 : wOk D a1 a2 t K H 115 := ⟨_, rfl, fun h => h⟩
theorem ws_116 : wOk D a1 a2 t K H 116 := ⟨_, rfl, fun h => h⟩
theorem ws_117 : wOk D a1 a2 t K H 117 := ⟨_, rfl, fun h => h⟩
theorem ws_118 : wOk D a1 a2 t K H 118 := ⟨_, rfl, fun h => h⟩
theorem ws_119 : wOk D a1 a2 t K H 119 := ⟨_, rfl, fun h => h⟩
theorem ws_120 : wOk D a1 a2 t K H 120 := ⟨_, rfl, fun h => h⟩
theorem ws_121 : wOk D a1 a2 t K H 121 := ⟨_, rfl, fun h => h⟩
theorem ws_122 : wOk D a1 a2 t K H 122 := ⟨_, rfl, fun h => h⟩
theorem ws_123 : wOk D a1 a2 t K H 123 := ⟨_, rfl, fun h => h⟩
theorem ws_124 : wOk D a1 a2 t K H 124 := ⟨_, rfl, fun h => h⟩
theorem ws_125 : wOk D a1 a2 t K H 125 := ⟨_, rfl, fun h => h⟩
theorem ws_126 : wOk D a1 a2 t K H 126 := ⟨_, rfl, fun h => h⟩
theorem ws_127 : wOk D a1 a2 t K H 127 := ⟨_, rfl, fun h => h⟩
theorem ws_128 : wOk D a1 a2 t K H 128 := ⟨_, rfl, fun h => h⟩
theorem ws_129 : wOk D a1 a2 t K H 129 := ⟨_, rfl, fun h => h⟩
theorem ws_130 : wOk D a1 a2 t K H 130 := ⟨_, rfl, fun h => h⟩
theorem ws_131 : wOk D a1 a2 t K H 131 := ⟨_, rfl, fun h => h⟩
theorem ws_132 : wOk D a1 a2 t K H 132 := ⟨_, rfl, fun h => h⟩
theorem ws_133 : wOk D a1 a2 t K H 133 := ⟨_, rfl, fun h => h⟩
theorem ws_134 : wOk D a1 a2 t K H 134 := ⟨_, rfl, fun h => h⟩
theorem ws_135 : wOk D a1 a2 t K H 135 := ⟨_, rfl, fun h => h⟩
theorem ws_136 : wOk D a1 a2 t K H 136 := ⟨_, rfl, fun h => h⟩
theorem ws_137 : wOk D a1 a2 t K H 137 := ⟨_, rfl, fun h => h⟩
theorem ws_138 : wOk D a1 a2 t K H 138 := ⟨_, rfl, fun h => h⟩
theorem ws_139 : wOk D a1 a2 t K H 139 := ⟨_, rfl, fun h => h⟩
theorem ws_140 : wOk D a1 a2 t K H 140 := ⟨_, rfl, fun h => h⟩
theorem ws_141 : wOk D a1 a2 t K H 141 := ⟨_, rfl, fun h => h⟩
theorem ws_142 : wOk D a1 a2 t K H 142 := ⟨_, rfl, fun h => h⟩
theorem ws_143 : wOk D a1 a2 t K H 143 := ⟨_, rfl, fun h => h⟩
theorem ws_144 : wOk D a1 a2 t K H 144 := ⟨_, rfl, fun h => h⟩
theorem ws_145 : wOk D a1 a2 t K H 145 := ⟨_, rfl, fun h => h⟩
theorem ws_146 : wOk D a1 a2 t K H 146 := ⟨_, rfl, fun h => h⟩
theorem ws_147 : wOk D a1 a2 t K H 147 := ⟨_, rfl, fun h => h⟩
theorem ws_148 : wOk D a1 a2 t K H 148 := ⟨_, rfl, fun h => h⟩
theorem ws_149 : wOk D a1 a2 t K H 149 := ⟨_, rfl, fun h => h⟩
theorem ws_150 : wOk D a1 a2 t K H 150 := ⟨_, rfl, fun h => h⟩
theorem ws_151 : wOk D a1 a2 t K H 151 := ⟨_, rfl, fun h => h⟩
theorem ws_152 : wOk D a1 a2 t K H 152 := ⟨_, rfl, fun h => h⟩
theorem ws_153 : wOk D a1 a2 t K H 153 := ⟨_, rfl, fun h => h⟩
theorem ws_154 : wOk D a1 a2 t K H 154 := ⟨_, rfl, fun h => h⟩
theorem ws_155 : wOk D a1 a2 t K H 155 := ⟨_, rfl, fun h => at_q (fun j hj => by rcases (show j = 0 ∨ j = 1 ∨ j = 2 ∨ j = 3 ∨ j = 4 ∨ j = 5 ∨ j = 6 ∨ j = 7 by omega) with rfl | rfl | rfl | rfl | rfl | rfl | rfl | rfl <;> rfl) h⟩
theorem ws_156 : wOk D a1 a2 t K H 156 := ⟨_, rfl, fun h => h⟩
theorem ws_157 : wOk D a1 a2 t K H 157 := ⟨_, rfl, fun h => h⟩
theorem ws_158 : wOk D a1 a2 t K H 158 := ⟨_, rfl, fun h => h⟩
theorem ws_159 : wOk D a1 a2 t K H 159 := ⟨_, rfl, fun h => h⟩
theorem ws_160 : wOk D a1 a2 t K H 160 := ⟨_, rfl, fun h => h⟩
theorem ws_161 : wOk D a1 a2 t K H 161 := ⟨_, rfl, fun h => h⟩
theorem ws_162 : wOk D a1 a2 t K H 162 := ⟨_, rfl, fun h => h⟩
theorem ws_163 : wOk D a1 a2 t K H 163 := ⟨_, rfl, fun h => h⟩
theorem ws_164 : wOk D a1 a2 t K H 164 := ⟨_, rfl, fun h => h⟩
theorem ws_165 : wOk D a1 a2 t K H 165 := ⟨_, rfl, fun h => h⟩
theorem ws_166 : wOk D a1 a2 t K H 166 := ⟨_, rfl, fun h => h⟩
theorem ws_167 : wOk D a1 a2 t K H 167 := ⟨_, rfl, fun h => h⟩
theorem ws_168 : wOk D a1 a2 t K H 168 := ⟨_, rfl, fun h => h⟩
theorem ws_169 : wOk D a1 a2 t K H 169 := ⟨_, rfl, fun h => h⟩
theorem ws_170 : wOk D a1 a2 t K H 170 := ⟨_, rfl, fun h => h⟩
theorem ws_171 : wOk D a1 a2 t K H 171 := ⟨_, rfl, fun h => h⟩
theorem ws_172 : wOk D a1 a2 t K H 172 := ⟨_, rfl, fun h => h⟩
theorem ws_173 : wOk D a1 a2 t K H 173 := ⟨_, rfl, fun h => h⟩
theorem ws_174 : wOk D a1 a2 t K H 174 := ⟨_, rfl, fun h => h⟩
theorem ws_175 : wOk D a1 a2 t K H 175 := ⟨_, rfl, fun h => h⟩
theorem ws_176 : wOk D a1 a2 t K H 176 := ⟨_, rfl, fun h => h⟩
theorem ws_177 : wOk D a1 a2 t K H 177 := ⟨_, rfl, fun h => h⟩
theorem ws_178 : wOk D a1 a2 t K H 178 := ⟨_, rfl, fun h => h⟩
theorem ws_179 : wOk D a1 a2 t K H 179 := ⟨_, rfl, fun h => h⟩
theorem ws_180 : wOk D a1 a2 t K H 180 := ⟨_, rfl, fun h => h⟩
theorem ws_181 : wOk D a1 a2 t K H 181 := ⟨_, rfl, fun h => h⟩
theorem ws_182 : wOk D a1 a2 t K H 182 := ⟨_, rfl, fun h => h⟩
theorem ws_183 : wOk D a1 a2 t K H 183 := ⟨_, rfl, fun h => h⟩
theorem ws_184 : wOk D a1 a2 t K H 184 := ⟨_, rfl, fun h => h⟩
theorem ws_185 : wOk D a1 a2 t K H 185 := ⟨_, rfl, fun h => h⟩
theorem ws_186 : wOk D a1 a2 t K H 186 := ⟨_, rfl, fun h => h⟩
theorem ws_187 : wOk D a1 a2 t K H 187 := ⟨_, rfl, fun h => h⟩
theorem ws_188 : wOk D a1 a2 t K H 188 := ⟨_, rfl, fun h => h⟩
theorem ws_189 : wOk D a1 a2 t K H 189 := ⟨_, rfl, fun h => h⟩
theorem ws_190 : wOk D a1 a2 t K H 190 := ⟨_, rfl, fun h => h⟩
theorem ws_191 : wOk D a1 a2 t K H 191 := ⟨_, rfl, fun h => h⟩
theorem ws_192 : wOk D a1 a2 t K H 192 := ⟨_, rfl, fun h => h⟩
theorem ws_193 : wOk D a1 a2 t K H 193 := ⟨_, rfl, fun h => h⟩
theorem ws_194 : wOk D a1 a2 t K H 194 := ⟨_, rfl, fun h => h⟩
theorem ws_195 : wOk D a1 a2 t K H 195 := ⟨_, rfl, fun h => h⟩
theorem ws_196 : wOk D a1 a2 t K H 196 := ⟨_, rfl, fun h => h⟩
theorem ws_197 : wOk D a1 a2 t K H 197 := ⟨_, rfl, fun h => h⟩
theorem ws_198 : wOk D a1 a2 t K H 198 := ⟨_, rfl, fun h => h⟩
theorem ws_199 : wOk D a1 a2 t K H 199 := ⟨_, rfl, fun h => h⟩
theorem ws_200 : wOk D a1 a2 t K H 200 := ⟨_, rfl, fun h => h⟩
theorem ws_201 : wOk D a1 a2 t K H 201 := ⟨_, rfl, fun h => h⟩
theorem ws_202 : wOk D a1 a2 t K H 202 := ⟨_, rfl, fun h => h⟩
theorem ws_203 : wOk D a1 a2 t K H 203 := ⟨_, rfl, fun h => h⟩
theorem ws_204 : wOk D a1 a2 t K H 204 := ⟨_, rfl, fun h => h⟩
theorem ws_205 : wOk D a1 a2 t K H 205 := ⟨_, rfl, fun h => h⟩
theorem ws_206 : wOk D a1 a2 t K H 206 := ⟨_, rfl, fun h => at_q (fun j hj => by rcases (show j = 0 ∨ j = 1 ∨ j = 2 ∨ j = 3 ∨ j = 4 ∨ j = 5 ∨ j = 6 ∨ j = 7 by omega) with rfl | rfl | rfl | rfl | rfl | rfl | rfl | rfl <;> rfl) h⟩
theorem ws_207 : wOk D a1 a2 t K H 207 := ⟨_, rfl, fun h => h⟩
theorem ws_208 : wOk D a1 a2 t K H 208 := ⟨_, rfl, fun h => h⟩
theorem ws_209 : wOk D a1 a2 t K H 209 := ⟨_, rfl, fun h => h⟩
theorem ws_210 : wOk D a1 a2 t K H 210 := ⟨_, rfl, fun h => h⟩
theorem ws_211 : wOk D a1 a2 t K H 211 := ⟨_, rfl, fun h => h⟩
theorem ws_212 : wOk D a1 a2 t K H 212 := ⟨_, rfl, fun h => h⟩
theorem ws_213 : wOk D a1 a2 t K H 213 := ⟨_, rfl, fun h => h⟩
theorem ws_214 : wOk D a1 a2 t K H 214 := ⟨_, rfl, fun h => h⟩
theorem ws_215 : wOk D a1 a2 t K H 215 := ⟨_, rfl, fun h => h⟩
theorem ws_216 : wOk D a1 a2 t K H 216 := ⟨_, rfl, fun h => h⟩
theorem ws_217 : wOk D a1 a2 t K H 217 := ⟨_, rfl, fun h => h⟩
theorem ws_218 : wOk D a1 a2 t K H 218 := ⟨_, rfl, fun h => h⟩
theorem ws_219 : wOk D a1 a2 t K H 219 := ⟨_, rfl, fun h => h⟩
theorem ws_220 : wOk D a1 a2 t K H 220 := ⟨_, rfl, fun h => h⟩
theorem ws_221 : wOk D a1 a2 t K H 221 := ⟨_, rfl, fun h => h⟩
theorem ws_222 : wOk D a1 a2 t K H 222 := ⟨_, rfl, fun h => h⟩
theorem ws_223 : wOk D a1 a2 t K H 223 := ⟨_, rfl, fun h => h⟩
theorem ws_224 : wOk D a1 a2 t K H 224 := ⟨_, rfl, fun h => h⟩
theorem ws_225 : wOk D a1 a2 t K H 225 := ⟨_, rfl, fun h => h⟩
theorem ws_226 : wOk D a1 a2 t K H 226 := ⟨_, rfl, fun h => h⟩
theorem ws_227 : wOk D a1 a2 t K H 227 := ⟨_, rfl, fun h => h⟩
theorem ws_228 : wOk D a1 a2 t K H 228 := ⟨_, rfl, fun h => h⟩
theorem ws_229 : wOk D a1 a2 t K H 229 := ⟨_, rfl, fun h => h⟩
theorem ws_230 : wOk D a1 a2 t K H 230 := ⟨_, rfl, fun h => h⟩
theorem ws_231 : wOk D a1 a2 t K H 231 := ⟨_, rfl, fun h => h⟩
theorem ws_232 : wOk D a1 a2 t K H 232 := ⟨_, rfl, fun h => h⟩
theorem ws_233 : wOk D a1 a2 t K H 233 := ⟨_, rfl, fun h => h⟩
theorem ws_234 : wOk D a1 a2 t K H 234 := ⟨_, rfl, fun h => h⟩
theorem ws_235 : wOk D a1 a2 t K H 235 := ⟨_, rfl, fun h => h⟩
theorem ws_236 : wOk D a1 a2 t K H 236 := ⟨_, rfl, fun h => h⟩
theorem ws_237 : wOk D a1 a2 t K H 237 := ⟨_, rfl, fun h => h⟩
theorem ws_238 : wOk D a1 a2 t K H 238 := ⟨_, rfl, fun h => h⟩
theorem ws_239 : wOk D a1 a2 t K H 239 := ⟨_, rfl, fun h => h⟩
theorem ws_240 : wOk D a1 a2 t K H 240 := ⟨_, rfl, fun h => h⟩
theorem ws_241 : wOk D a1 a2 t K H 241 := ⟨_, rfl, fun h => h⟩
theorem ws_242 : wOk D a1 a2 t K H 242 := ⟨_, rfl, fun h => h⟩
theorem ws_243 : wOk D a1 a2 t K H 243 := ⟨_, rfl, fun h => h⟩
theorem ws_244 : wOk D a1 a2 t K H 244 := ⟨_, rfl, fun h => h⟩
theorem ws_245 : wOk D a1 a2 t K H 245 := ⟨_, rfl, fun h => h⟩
theorem ws_246 : wOk D a1 a2 t K H 246 := ⟨_, rfl, fun h => h⟩
theorem ws_247 : wOk D a1 a2 t K H 247 := ⟨_, rfl, fun h => h⟩
theorem ws_248 : wOk D a1 a2 t K H 248 := ⟨_, rfl, fun h => h⟩
theorem ws_249 : wOk D a1 a2 t K H 249 := ⟨_, rfl, fun h => h⟩
theorem ws_250 : wOk D a1 a2 t K H 250 := ⟨_, rfl, fun h => h⟩
theorem ws_251 : wOk D a1 a2 t K H 251 := ⟨_, rfl, fun h => h⟩
theorem ws_252 : wOk D a1 a2 t K H 252 := ⟨_, rfl, fun h => h⟩
theorem ws_253 : wOk D a1 a2 t K H 253 := ⟨_, rfl, fun h => h⟩
theorem ws_254 : wOk D a1 a2 t K H 254 := ⟨_, rfl, fun h => h⟩
theorem ws_255 : wOk D a1 a2 t K H 255 := ⟨_, rfl, fun h => h⟩
theorem ws_256 : wOk D a1 a2 t K H 256 := ⟨_, rfl, fun h => h⟩
theorem ws_257 : wOk D a1 a2 t K H 257 := ⟨_, rfl, fun h => h⟩
theorem ws_258 : wOk D a1 a2 t K H 258 := ⟨_, rfl, fun h => h⟩
theorem ws_259 : wOk D a1 a2 t K H 259 := ⟨_, rfl, fun h => h⟩
theorem ws_260 : wOk D a1 a2 t K H 260 := ⟨_, rfl, fun h => h⟩
theorem ws_261 : wOk D a1 a2 t K H 261 := ⟨_, rfl, fun h => h⟩
theorem ws_262 : wOk D a1 a2 t K H 262 := ⟨_, rfl, fun h => h⟩
theorem ws_263 : wOk D a1 a2 t K H 263 := ⟨_, rfl, fun h => h⟩
theorem ws_264 : wOk D a1 a2 t K H 264 := ⟨_, rfl, fun h => h⟩
theorem ws_265 : wOk D a1 a2 t K H 265 := ⟨_, rfl, fun h => h⟩
theorem ws_266 : wOk D a1 a2 t K H 266 := ⟨_, rfl, fun h => h⟩
theorem ws_267 : wOk D a1 a2 t K H 267 := ⟨_, rfl, fun h => h⟩
theorem ws_268 : wOk D a1 a2 t K H 268 := ⟨_, rfl, fun h => h⟩
theorem ws_269 : wOk D a1 a2 t K H 269 := ⟨_, rfl, fun h => h⟩
theorem ws_270 : wOk D a1 a2 t K H 270 := ⟨_, rfl, fun h => h⟩
theorem ws_271 : wOk D a1 a2 t K H 271 := ⟨_, rfl, fun h => h⟩
theorem ws_272 : wOk D a1 a2 t K H 272 := ⟨_, rfl, fun h => h⟩
theorem ws_273 : wOk D a1 a2 t K H 273 := ⟨_, rfl, fun h => h⟩
theorem ws_274 : wOk D a1 a2 t K H 274 := ⟨_, rfl, fun h => h⟩
theorem ws_275 : wOk D a1 a2 t K H 275 := ⟨_, rfl, fun h => h⟩
theorem ws_276 : wOk D a1 a2 t K H 276 := ⟨_, rfl, fun h => h⟩
theorem ws_277 : wOk D a1 a2 t K H 277 := ⟨_, rfl, fun h => h⟩
theorem ws_278 : wOk D a1 a2 t K H 278 := ⟨_, rfl, fun h => h⟩
theorem ws_279 : wOk D a1 a2 t K H 279 := ⟨_, rfl, fun h => h⟩
theorem lw_s1 {P : Nat → Prop} {n : Nat} (h : ∀ k, k < n → P k) (hn : P n) : ∀ k, k < n + 1 → P k := fun k hk => (Nat.lt_succ_iff_lt_or_eq.mp hk).elim (h k) (fun e => e ▸ hn)
theorem lw_s0 {P : Nat → Prop} : ∀ k, k < 0 → P k := fun k hk => absurd hk (Nat.not_lt_zero k)
theorem wa_0 : ∀ k, k < 20 → wOk D a1 a2 t K H k := lw_s1 (P := wOk D a1 a2 t K H) (n := 19) (lw_s1 (P := wOk D a1 a2 t K H) (n := 18) (lw_s1 (P := wOk D a1 a2 t K H) (n := 17) (lw_s1 (P := wOk D a1 a2 t K H) (n := 16) (lw_s1 (P := wOk D a1 a2 t K H) (n := 15) (lw_s1 (P := wOk D a1 a2 t K H) (n := 14) (lw_s1 (P := wOk D a1 a2 t K H) (n := 13) (lw_s1 (P := wOk D a1 a2 t K H) (n := 12) (lw_s1 (P := wOk D a1 a2 t K H) (n := 11) (lw_s1 (P := wOk D a1 a2 t K H) (n := 10) (lw_s1 (P := wOk D a1 a2 t K H) (n := 9) (lw_s1 (P := wOk D a1 a2 t K H) (n := 8) (lw_s1 (P := wOk D a1 a2 t K H) (n := 7) (lw_s1 (P := wOk D a1 a2 t K H) (n := 6) (lw_s1 (P := wOk D a1 a2 t K H) (n := 5) (lw_s1 (P := wOk D a1 a2 t K H) (n := 4) (lw_s1 (P := wOk D a1 a2 t K H) (n := 3) (lw_s1 (P := wOk D a1 a2 t K H) (n := 2) (lw_s1 (P := wOk D a1 a2 t K H) (n := 1) (lw_s1 (P := wOk D a1 a2 t K H) (n := 0) (lw_s0) (ws_0 (D := D) (a1 := a1) (a2 := a2) (t := t) (K := K) (H := H))) (ws_1 (D := D) (a1 := a1) (a2 := a2) (t := t) (K := K) (H := H))) (ws_2 (D := D) (a1 := a1) (a2 := a2) (t := t) (K := K) (H := H))) (ws_3 (D := D) (a1 := a1) (a2 := a2) (t := t) (K := K) (H := H))) (ws_4 (D := D) (a1 := a1) (a2 := a2) (t := t) (K := K) (H := H))) (ws_5 (D := D) (a1 := a1) (a2 := a2) (t := t) (K := K) (H := H))) (ws_6 (D := D) (a1 := a1) (a2 := a2) (t := t) (K := K) (H := H))) (ws_7 (D := D) (a1 := a1) (a2 := a2) (t := t) (K := K) (H := H))) (ws_8 (D := D) (a1 := a1) (a2 := a2) (t := t) (K := K) (H := H))) (ws_9 (D := D) (a1 := a1) (a2 := a2) (t := t) (K := K) (H := H))) (ws_10 (D := D) (a1 := a1) (a2 := a2) (t := t) (K := K) (H := H))) (ws_11 (D := D) (a1 := a1) (a2 := a2) (t := t) (K := K) (H := H))) (ws_12 (D := D) (a1 := a1) (a2 := a2) (t := t) (K := K) (H := H))) (ws_13 (D := D) (a1 := a1) (a2 := a2) (t := t) (K := K) (H := H))) (ws_14 (D := D) (a1 := a1) (a2 := a2) (t := t) (K := K) (H := H))) (ws_15 (D := D) (a1 := a1) (a2 := a2) (t := t) (K := K) (H := H))) (ws_16 (D := D) (a1 := a1) (a2 := a2) (t := t) (K := K) (H := H))) (ws_17 (D := D) (a1 := a1) (a2 := a2) (t := t) (K := K) (H := H))) (ws_18 (D := D) (a1 := a1) (a2 := a2) (t := t) (K := K) (H := H))) (ws_19 (D := D) (a1 := a1) (a2 := a2) (t := t) (K := K) (H := H))
theorem wa_20 : ∀ k, k < 40 → wOk D a1 a2 t K H k := lw_s1 (P := wOk D a1 a2 t K H) (n := 39) (lw_s1 (P := wOk D a1 a2 t K H) (n := 38) (lw_s1 (P := wOk D a1 a2 t K H) (n := 37) (lw_s1 (P := wOk D a1 a2 t K H) (n := 36) (lw_s1 (P := wOk D a1 a2 t K H) (n := 35) (lw_s1 (P := wOk D a1 a2 t K H) (n := 34) (lw_s1 (P := wOk D a1 a2 t K H) (n := 33) (lw_s1 (P := wOk D a1 a2 t K H) (n := 32) (lw_s1 (P := wOk D a1 a2 t K H) (n := 31) (lw_s1 (P := wOk D a1 a2 t K H) (n := 30) (lw_s1 (P := wOk D a1 a2 t K H) (n := 29) (lw_s1 (P := wOk D a1 a2 t K H) (n := 28) (lw_s1 (P := wOk D a1 a2 t K H) (n := 27) (lw_s1 (P := wOk D a1 a2 t K H) (n := 26) (lw_s1 (P := wOk D a1 a2 t K H) (n := 25) (lw_s1 (P := wOk D a1 a2 t K H) (n := 24) (lw_s1 (P := wOk D a1 a2 t K H) (n := 23) (lw_s1 (P := wOk D a1 a2 t K H) (n := 22) (lw_s1 (P := wOk D a1 a2 t K H) (n := 21) (lw_s1 (P := wOk D a1 a2 t K H) (n := 20) (wa_0) (ws_20 (D := D) (a1 := a1) (a2 := a2) (t := t) (K := K) (H := H))) (ws_21 (D := D) (a1 := a1) (a2 := a2) (t := t) (K := K) (H := H))) (ws_22 (D := D) (a1 := a1) (a2 := a2) (t := t) (K := K) (H := H))) (ws_23 (D := D) (a1 := a1) (a2 := a2) (t := t) (K := K) (H := H))) (ws_24 (D := D) (a1 := a1) (a2 := a2) (t := t) (K := K) (H := H))) (ws_25 (D := D) (a1 := a1) (a2 := a2) (t := t) (K := K) (H := H))) (ws_26 (D := D) (a1 := a1) (a2 := a2) (t := t) (K := K) (H := H))) (ws_27 (D := D) (a1 := a1) (a2 := a2) (t := t) (K := K) (H := H))) (ws_28 (D := D) (a1 := a1) (a2 := a2) (t := t) (K := K) (H := H))) (ws_29 (D := D) (a1 := a1) (a2 := a2) (t := t) (K := K) (H := H))) (ws_30 (D := D) (a1 := a1) (a2 := a2) (t := t) (K := K) (H := H))) (ws_31 (D := D) (a1 := a1) (a2 := a2) (t := t) (K := K) (H := H))) (ws_32 (D := D) (a1 := a1) (a2 := a2) (t := t) (K := K) (H := H))) (ws_33 (D := D) (a1 := a1) (a2 := a2) (t := t) (K := K) (H := H))) (ws_34 (D := D) (a1 := a1) (a2 := a2) (t := t) (K := K) (H := H))) (ws_35 (D := D) (a1 := a1) (a2 := a2) (t := t) (K := K) (H := H))) (ws_36 (D := D) (a1 := a1) (a2 := a2) (t := t) (K := K) (H := H))) (ws_37 (D := D) (a1 := a1) (a2 := a2) (t := t) (K := K) (H := H))) (ws_38 (D := D) (a1 := a1) (a2 := a2) (t := t) (K := K) (H := H))) (ws_39 (D := D) (a1 := a1) (a2 := a2) (t := t) (K := K) (H := H))
theorem wa_40 : ∀ k, k < 60 → wOk D a1 a2 t K H k := lw_s1 (P := wOk D a1 a2 t K H) (n := 59) (lw_s1 (P := wOk D a1 a2 t K H) (n := 58) (lw_s1 (P := wOk D a1 a2 t K H) (n := 57) (lw_s1 (P := wOk D a1 a2 t K H) (n := 56) (lw_s1 (P := wOk D a1 a2 t K H) (n := 55) (lw_s1 (P := wOk D a1 a2 t K H) (n := 54) (lw_s1 (P := wOk D a1 a2 t K H) (n := 53) (lw_s1 (P := wOk D a1 a2 t K H) (n := 52) (lw_s1 (P := wOk D a1 a2 t K H) (n := 51) (lw_s1 (P := wOk D a1 a2 t K H) (n := 50) (lw_s1 (P := wOk D a1 a2 t K H) (n := 49) (lw_s1 (P := wOk D a1 a2 t K H) (n := 48) (lw_s1 (P := wOk D a1 a2 t K H) (n := 47) (lw_s1 (P := wOk D a1 a2 t K H) (n := 46) (lw_s1 (P := wOk D a1 a2 t K H) (n := 45) (lw_s1 (P := wOk D a1 a2 t K H) (n := 44) (lw_s1 (P := wOk D a1 a2 t K H) (n := 43) (lw_s1 (P := wOk D a1 a2 t K H) (n := 42) (lw_s1 (P := wOk D a1 a2 t K H) (n := 41) (lw_s1 (P := wOk D a1 a2 t K H) (n := 40) (wa_20) (ws_40 (D := D) (a1 := a1) (a2 := a2) (t := t) (K := K) (H := H))) (ws_41 (D := D) (a1 := a1) (a2 := a2) (t := t) (K := K) (H := H))) (ws_42 (D := D) (a1 := a1) (a2 := a2) (t := t) (K := K) (H := H))) (ws_43 (D := D) (a1 := a1) (a2 := a2) (t := t) (K := K) (H := H))) (ws_44 (D := D) (a1 := a1) (a2 := a2) (t := t) (K := K) (H := H))) (ws_45 (D := D) (a1 := a1) (a2 := a2) (t := t) (K := K) (H := H))) (ws_46 (D := D) (a1 := a1) (a2 := a2) (t := t) (K := K) (H := H))) (ws_47 (D := D) (a1 := a1) (a2 := a2) (t := t) (K := K) (H := H))) (ws_48 (D := D) (a1 := a1) (a2 := a2) (t := t) (K := K) (H := H))) (ws_49 (D := D) (a1 := a1) (a2 := a2) (t := t) (K := K) (H := H))) (ws_50 (D := D) (a1 := a1) (a2 := a2) (t := t) (K := K) (H := H))) (ws_51 (D := D) (a1 := a1) (a2 := a2) (t := t) (K := K) (H := H))) (ws_52 (D := D) (a1 := a1) (a2 := a2) (t := t) (K := K) (H := H))) (ws_53 (D := D) (a1 := a1) (a2 := a2) (t := t) (K := K) (H := H))) (ws_54 (D := D) (a1 := a1) (a2 := a2) (t := t) (K := K) (H := H))) (ws_55 (D := D) (a1 := a1) (a2 := a2) (t := t) (K := K) (H := H))) (ws_56 (D := D) (a1 := a1) (a2 := a2) (t := t) (K := K) (H := H))) (ws_57 (D := D) (a1 := a1) (a2 := a2) (t := t) (K := K) (H := H))) (ws_58 (D := D) (a1 := a1) (a2 := a2) (t := t) (K := K) (H := H))) (ws_59 (D := D) (a1 := a1) (a2 := a2) (t := t) (K := K) (H := H))
theorem wa_60 : ∀ k, k < 80 → wOk D a1 a2 t K H k := lw_s1 (P := wOk D a1 a2 t K H) (n := 79) (lw_s1 (P := wOk D a1 a2 t K H) (n := 78) (lw_s1 (P := wOk D a1 a2 t K H) (n := 77) (lw_s1 (P := wOk D a1 a2 t K H) (n := 76) (lw_s1 (P := wOk D a1 a2 t K H) (n := 75) (lw_s1 (P := wOk D a1 a2 t K H) (n := 74) (lw_s1 (P := wOk D a1 a2 t K H) (n := 73) (lw_s1 (P := wOk D a1 a2 t K H) (n := 72) (lw_s1 (P := wOk D a1 a2 t K H) (n := 71) (lw_s1 (P := wOk D a1 a2 t K H) (n := 70) (lw_s1 (P := wOk D a1 a2 t K H) (n := 69) (lw_s1 (P := wOk D a1 a2 t K H) (n := 68) (lw_s1 (P := wOk D a1 a2 t K H) (n := 67) (lw_s1 (P := wOk D a1 a2 t K H) (n := 66) (lw_s1 (P := wOk D a1 a2 t K H) (n := 65) (lw_s1 (P := wOk D a1 a2 t K H) (n := 64) (lw_s1 (P := wOk D a1 a2 t K H) (n := 63) (lw_s1 (P := wOk D a1 a2 t K H) (n := 62) (lw_s1 (P := wOk D a1 a2 t K H) (n := 61) (lw_s1 (P := wOk D a1 a2 t K H) (n := 60) (wa_40) (ws_60 (D := D) (a1 := a1) (a2 := a2) (t := t) (K := K) (H := H))) (ws_61 (D := D) (a1 := a1) (a2 := a2) (t := t) (K := K) (H := H))) (ws_62 (D := D) (a1 := a1) (a2 := a2) (t := t) (K := K) (H := H))) (ws_63 (D := D) (a1 := a1) (a2 := a2) (t := t) (K := K) (H := H))) (ws_64 (D := D) (a1 := a1) (a2 := a2) (t := t) (K := K) (H := H))) (ws_65 (D := D) (a1 := a1) (a2 := a2) (t := t) (K := K) (H := H))) (ws_66 (D := D) (a1 := a1) (a2 := a2) (t := t) (K := K) (H := H))) (ws_67 (D := D) (a1 := a1) (a2 := a2) (t := t) (K := K) (H := H))) (ws_68 (D := D) (a1 := a1) (a2 := a2) (t := t) (K := K) (H := H))) (ws_69 (D := D) (a1 := a1) (a2 := a2) (t := t) (K := K) (H := H))) (ws_70 (D := D) (a1 := a1) (a2 := a2) (t := t) (K := K) (H := H))) (ws_71 (D := D) (a1 := a1) (a2 := a2) (t := t) (K := K) (H := H))) (ws_72 (D := D) (a1 := a1) (a2 := a2) (t := t) (K := K) (H := H))) (ws_73 (D := D) (a1 := a1) (a2 := a2) (t := t) (K := K) (H := H))) (ws_74 (D := D) (a1 := a1) (a2 := a2) (t := t) (K := K) (H := H))) (ws_75 (D := D) (a1 := a1) (a2 := a2) (t := t) (K := K) (H := H))) (ws_76 (D := D) (a1 := a1) (a2 := a2) (t := t) (K := K) (H := H))) (ws_77 (D := D) (a1 := a1) (a2 := a2) (t := t) (K := K) (H := H))) (ws_78 (D := D) (a1 := a1) (a2 := a2) (t := t) (K := K) (H := H))) (ws_79 (D := D) (a1 := a1) (a2 := a2) (t := t) (K := K) (H := H))
theorem wa_80 : ∀ k, k < 100 → wOk D a1 a2 t K H k := lw_s1 (P := wOk D a1 a2 t K H) (n := 99) (lw_s1 (P := wOk D a1 a2 t K H) (n := 98) (lw_s1 (P := wOk D a1 a2 t K H) (n := 97) (lw_s1 (P := wOk D a1 a2 t K H) (n := 96) (lw_s1 (P := wOk D a1 a2 t K H) (n := 95) (lw_s1 (P := wOk D a1 a2 t K H) (n := 94) (lw_s1 (P := wOk D a1 a2 t K H) (n := 93) (lw_s1 (P := wOk D a1 a2 t K H) (n := 92) (lw_s1 (P := wOk D a1 a2 t K H) (n := 91) (lw_s1 (P := wOk D a1 a2 t K H) (n := 90) (lw_s1 (P := wOk D a1 a2 t K H) (n := 89) (lw_s1 (P := wOk D a1 a2 t K H) (n := 88) (lw_s1 (P := wOk D a1 a2 t K H) (n := 87) (lw_s1 (P := wOk D a1 a2 t K H) (n := 86) (lw_s1 (P := wOk D a1 a2 t K H) (n := 85) (lw_s1 (P := wOk D a1 a2 t K H) (n := 84) (lw_s1 (P := wOk D a1 a2 t K H) (n := 83) (lw_s1 (P := wOk D a1 a2 t K H) (n := 82) (lw_s1 (P := wOk D a1 a2 t K H) (n := 81) (lw_s1 (P := wOk D a1 a2 t K H) (n := 80) (wa_60) (ws_80 (D := D) (a1 := a1) (a2 := a2) (t := t) (K := K) (H := H))) (ws_81 (D := D) (a1 := a1) (a2 := a2) (t := t) (K := K) (H := H))) (ws_82 (D := D) (a1 := a1) (a2 := a2) (t := t) (K := K) (H := H))) (ws_83 (D := D) (a1 := a1) (a2 := a2) (t := t) (K := K) (H := H))) (ws_84 (D := D) (a1 := a1) (a2 := a2) (t := t) (K := K) (H := H))) (ws_85 (D := D) (a1 := a1) (a2 := a2) (t := t) (K := K) (H := H))) (ws_86 (D := D) (a1 := a1) (a2 := a2) (t := t) (K := K) (H := H))) (ws_87 (D := D) (a1 := a1) (a2 := a2) (t := t) (K := K) (H := H))) (ws_88 (D := D) (a1 := a1) (a2 := a2) (t := t) (K := K) (H := H))) (ws_89 (D := D) (a1 := a1) (a2 := a2) (t := t) (K := K) (H := H))) (ws_90 (D := D) (a1 := a1) (a2 := a2) (t := t) (K := K) (H := H))) (ws_91 (D := D) (a1 := a1) (a2 := a2) (t := t) (K := K) (H := H))) (ws_92 (D := D) (a1 := a1) (a2 := a2) (t := t) (K := K) (H := H))) (ws_93 (D := D) (a1 := a1) (a2 := a2) (t := t) (K := K) (H := H))) (ws_94 (D := D) (a1 := a1) (a2 := a2) (t := t) (K := K) (H := H))) (ws_95 (D := D) (a1 := a1) (a2 := a2) (t := t) (K := K) (H := H))) (ws_96 (D := D) (a1 := a1) (a2 := a2) (t := t) (K := K) (H := H))) (ws_97 (D := D) (a1 := a1) (a2 := a2) (t := t) (K := K) (H := H))) (ws_98 (D := D) (a1 := a1) (a2 := a2) (t := t) (K := K) (H := H))) (ws_99 (D := D) (a1 := a1) (a2 := a2) (t := t) (K := K) (H := H))
theorem wa_100 : ∀ k, k < 120 → wOk D a1 a2 t K H k := lw_s1 (P := wOk D a1 a2 t K H) (n := 119) (lw_s1 (P := wOk D a1 a2 t K H) (n := 118) (lw_s1 (P := wOk D a1 a2 t K H) (n := 117) (lw_s1 (P := wOk D a1 a2 t K H) (n := 116) (lw_s1 (P := wOk D a1 a2 t K H) (n := 115) (lw_s1 (P := wOk D a1 a2 t K H) (n := 114) (lw_s1 (P := wOk D a1 a2 t K H) (n := 113) (lw_s1 (P := wOk D a1 a2 t K H) (n := 112) (lw_s1 (P := wOk D a1 a2 t K H) (n := 111) (lw_s1 (P := wOk D a1 a2 t K H) (n := 110) (lw_s1 (P := wOk D a1 a2 t K H) (n := 109) (lw_s1 (P := wOk D a1 a2 t K H) (n := 108) (lw_s1 (P := wOk D a1 a2 t K H) (n := 107) (lw_s1 (P := wOk D a1 a2 t K H) (n := 106) (lw_s1 (P := wOk D a1 a2 t K H) (n := 105) (lw_s1 (P := wOk D a1 a2 t K H) (n := 104) (lw_s1 (P := wOk D a1 a2 t K H) (n := 103) (lw_s1 (P := wOk D a1 a2 t K H) (n := 102) (lw_s1 (P := wOk D a1 a2 t K H) (n := 101) (lw_s1 (P := wOk D a1 a2 t K H) (n := 100) (wa_80) (ws_100 (D := D) (a1 := a1) (a2 := a2) (t := t) (K := K) (H := H))) (ws_101 (D := D) (a1 := a1) (a2 := a2) (t := t) (K := K) (H := H))) (ws_102 (D := D) (a1 := a1) (a2 := a2) (t := t) (K := K) (H := H))) (ws_103 (D := D) (a1 := a1) (a2 := a2) (t := t) (K := K) (H := H))) (ws_104 (D := D) (a1 := a1) (a2 := a2) (t := t) (K := K) (H := H))) (ws_105 (D := D) (a1 := a1) (a2 := a2) (t := t) (K := K) (H := H))) (ws_106 (D := D) (a1 := a1) (a2 := a2) (t := t) (K := K) (H := H))) (ws_107 (D := D) (a1 := a1) (a2 := a2) (t := t) (K := K) (H := H))) (ws_108 (D := D) (a1 := a1) (a2 := a2) (t := t) (K := K) (H := H))) (ws_109 (D := D) (a1 := a1) (a2 := a2) (t := t) (K := K) (H := H))) (ws_110 (D := D) (a1 := a1) (a2 := a2) (t := t) (K := K) (H := H))) (ws_111 (D := D) (a1 := a1) (a2 := a2) (t := t) (K := K) (H := H))) (ws_112 (D := D) (a1 := a1) (a2 := a2) (t := t) (K := K) (H := H))) (ws_113 (D := D) (a1 := a1) (a2 := a2) (t := t) (K := K) (H := H))) (ws_114 (D := D) (a1 := a1) (a2 := a2) (t := t) (K := K) (H := H))) (ws_115 (D := D) (a1 := a1) (a2 := a2) (t := t) (K := K) (H := H))) (ws_116 (D := D) (a1 := a1) (a2 := a2) (t := t) (K := K) (H := H))) (ws_117 (D := D) (a1 := a1) (a2 := a2) (t := t) (K := K) (H := H))) (ws_118 (D := D) (a1 := a1) (a2 := a2) (t := t) (K := K) (H := H))) (ws_119 (D := D) (a1 := a1) (a2 := a2) (t := t) (K := K) (H := H))
theorem wa_120 : ∀ k, k < 140 → wOk D a1 a2 t K H k := lw_s1 (P := wOk D a1 a2 t K H) (n := 139) (lw_s1 (P := wOk D a1 a2 t K H) (n := 138) (lw_s1 (P := wOk D a1 a2 t K H) (n := 137) (lw_s1 (P := wOk D a1 a2 t K H) (n := 136) (lw_s1 (P := wOk D a1 a2 t K H) (n := 135) (lw_s1 (P := wOk D a1 a2 t K H) (n := 134) (lw_s1 (P := wOk D a1 a2 t K H) (n := 133) (lw_s1 (P := wOk D a1 a2 t K H) (n := 132) (lw_s1 (P := wOk D a1 a2 t K H) (n := 131) (lw_s1 (P := wOk D a1 a2 t K H) (n := 130) (lw_s1 (P := wOk D a1 a2 t K H) (n := 129) (lw_s1 (P := wOk D a1 a2 t K H) (n := 128) (lw_s1 (P := wOk D a1 a2 t K H) (n := 127) (lw_s1 (P := wOk D a1 a2 t K H) (n := 126) (lw_s1 (P := wOk D a1 a2 t K H) (n := 125) (lw_s1 (P := wOk D a1 a2 t K H) (n := 124) (lw_s1 (P := wOk D a1 a2 t K H) (n := 123) (lw_s1 (P := wOk D a1 a2 t K H) (n := 122) (lw_s1 (P := wOk D a1 a2 t K H) (n := 121) (lw_s1 (P := wOk D a1 a2 t K H) (n := 120) (wa_100) (ws_120 (D := D) (a1 := a1) (a2 := a2) (t := t) (K := K) (H := H))) (ws_121 (D := D) (a1 := a1) (a2 := a2) (t := t) (K := K) (H := H))) (ws_122 (D := D) (a1 := a1) (a2 := a2) (t := t) (K := K) (H := H))) (ws_123 (D := D) (a1 := a1) (a2 := a2) (t := t) (K := K) (H := H))) (ws_124 (D := D) (a1 := a1) (a2 := a2) (t := t) (K := K) (H := H))) (ws_125 (D := D) (a1 := a1) (a2 := a2) (t := t) (K := K) (H := H))) (ws_126 (D := D) (a1 := a1) (a2 := a2) (t := t) (K := K) (H := H))) (ws_127 (D := D) (a1 := a1) (a2 := a2) (t := t) (K := K) (H := H))) (ws_128 (D := D) (a1 := a1) (a2 := a2) (t := t) (K := K) (H := H))) (ws_129 (D := D) (a1 := a1) (a2 := a2) (t := t) (K := K) (H := H))) (ws_130 (D := D) (a1 := a1) (a2 := a2) (t := t) (K := K) (H := H))) (ws_131 (D := D) (a1 := a1) (a2 := a2) (t := t) (K := K) (H := H))) (ws_132 (D := D) (a1 := a1) (a2 := a2) (t := t) (K := K) (H := H))) (ws_133 (D := D) (a1 := a1) (a2 := a2) (t := t) (K := K) (H := H))) (ws_134 (D := D) (a1 := a1) (a2 := a2) (t := t) (K := K) (H := H))) (ws_135 (D := D) (a1 := a1) (a2 := a2) (t := t) (K := K) (H := H))) (ws_136 (D := D) (a1 := a1) (a2 := a2) (t := t) (K := K) (H := H))) (ws_137 (D := D) (a1 := a1) (a2 := a2) (t := t) (K := K) (H := H))) (ws_138 (D := D) (a1 := a1) (a2 := a2) (t := t) (K := K) (H := H))) (ws_139 (D := D) (a1 := a1) (a2 := a2) (t := t) (K := K) (H := H))
theorem wa_140 : ∀ k, k < 160 → wOk D a1 a2 t K H k := lw_s1 (P := wOk D a1 a2 t K H) (n := 159) (lw_s1 (P := wOk D a1 a2 t K H) (n := 158) (lw_s1 (P := wOk D a1 a2 t K H) (n := 157) (lw_s1 (P := wOk D a1 a2 t K H) (n := 156) (lw_s1 (P := wOk D a1 a2 t K H) (n := 155) (lw_s1 (P := wOk D a1 a2 t K H) (n := 154) (lw_s1 (P := wOk D a1 a2 t K H) (n := 153) (lw_s1 (P := wOk D a1 a2 t K H) (n := 152) (lw_s1 (P := wOk D a1 a2 t K H) (n := 151) (lw_s1 (P := wOk D a1 a2 t K H) (n := 150) (lw_s1 (P := wOk D a1 a2 t K H) (n := 149) (lw_s1 (P := wOk D a1 a2 t K H) (n := 148) (lw_s1 (P := wOk D a1 a2 t K H) (n := 147) (lw_s1 (P := wOk D a1 a2 t K H) (n := 146) (lw_s1 (P := wOk D a1 a2 t K H) (n := 145) (lw_s1 (P := wOk D a1 a2 t K H) (n := 144) (lw_s1 (P := wOk D a1 a2 t K H) (n := 143) (lw_s1 (P := wOk D a1 a2 t K H) (n := 142) (lw_s1 (P := wOk D a1 a2 t K H) (n := 141) (lw_s1 (P := wOk D a1 a2 t K H) (n := 140) (wa_120) (ws_140 (D := D) (a1 := a1) (a2 := a2) (t := t) (K := K) (H := H))) (ws_141 (D := D) (a1 := a1) (a2 := a2) (t := t) (K := K) (H := H))) (ws_142 (D := D) (a1 := a1) (a2 := a2) (t := t) (K := K) (H := H))) (ws_143 (D := D) (a1 := a1) (a2 := a2) (t := t) (K := K) (H := H))) (ws_144 (D := D) (a1 := a1) (a2 := a2) (t := t) (K := K) (H := H))) (ws_145 (D := D) (a1 := a1) (a2 := a2) (t := t) (K := K) (H := H))) (ws_146 (D := D) (a1 := a1) (a2 := a2) (t := t) (K := K) (H := H))) (ws_147 (D := D) (a1 := a1) (a2 := a2) (t := t) (K := K) (H := H))) (ws_148 (D := D) (a1 := a1) (a2 := a2) (t := t) (K := K) (H := H))) (ws_149 (D := D) (a1 := a1) (a2 := a2) (t := t) (K := K) (H := H))) (ws_150 (D := D) (a1 := a1) (a2 := a2) (t := t) (K := K) (H := H))) (ws_151 (D := D) (a1 := a1) (a2 := a2) (t := t) (K := K) (H := H))) (ws_152 (D := D) (a1 := a1) (a2 := a2) (t := t) (K := K) (H := H))) (ws_153 (D := D) (a1 := a1) (a2 := a2) (t := t) (K := K) (H := H))) (ws_154 (D := D) (a1 := a1) (a2 := a2) (t := t) (K := K) (H := H))) (ws_155 (D := D) (a1 := a1) (a2 := a2) (t := t) (K := K) (H := H))) (ws_156 (D := D) (a1 := a1) (a2 := a2) (t := t) (K := K) (H := H))) (ws_157 (D := D) (a1 := a1) (a2 := a2) (t := t) (K := K) (H := H))) (ws_158 (D := D) (a1 := a1) (a2 := a2) (t := t) (K := K) (H := H))) (ws_159 (D := D) (a1 := a1) (a2 := a2) (t := t) (K := K) (H := H))
theorem wa_160 : ∀ k, k < 180 → wOk D a1 a2 t K H k := lw_s1 (P := wOk D a1 a2 t K H) (n := 179) (lw_s1 (P := wOk D a1 a2 t K H) (n := 178) (lw_s1 (P := wOk D a1 a2 t K H) (n := 177) (lw_s1 (P := wOk D a1 a2 t K H) (n := 176) (lw_s1 (P := wOk D a1 a2 t K H) (n := 175) (lw_s1 (P := wOk D a1 a2 t K H) (n := 174) (lw_s1 (P := wOk D a1 a2 t K H) (n := 173) (lw_s1 (P := wOk D a1 a2 t K H) (n := 172) (lw_s1 (P := wOk D a1 a2 t K H) (n := 171) (lw_s1 (P := wOk D a1 a2 t K H) (n := 170) (lw_s1 (P := wOk D a1 a2 t K H) (n := 169) (lw_s1 (P := wOk D a1 a2 t K H) (n := 168) (lw_s1 (P := wOk D a1 a2 t K H) (n := 167) (lw_s1 (P := wOk D a1 a2 t K H) (n := 166) (lw_s1 (P := wOk D a1 a2 t K H) (n := 165) (lw_s1 (P := wOk D a1 a2 t K H) (n := 164) (lw_s1 (P := wOk D a1 a2 t K H) (n := 163) (lw_s1 (P := wOk D a1 a2 t K H) (n := 162) (lw_s1 (P := wOk D a1 a2 t K H) (n := 161) (lw_s1 (P := wOk D a1 a2 t K H) (n := 160) (wa_140) (ws_160 (D := D) (a1 := a1) (a2 := a2) (t := t) (K := K) (H := H))) (ws_161 (D := D) (a1 := a1) (a2 := a2) (t := t) (K := K) (H := H))) (ws_162 (D := D) (a1 := a1) (a2 := a2) (t := t) (K := K) (H := H))) (ws_163 (D := D) (a1 := a1) (a2 := a2) (t := t) (K := K) (H := H))) (ws_164 (D := D) (a1 := a1) (a2 := a2) (t := t) (K := K) (H := H))) (ws_165 (D := D) (a1 := a1) (a2 := a2) (t := t) (K := K) (H := H))) (ws_166 (D := D) (a1 := a1) (a2 := a2) (t := t) (K := K) (H := H))) (ws_167 (D := D) (a1 := a1) (a2 := a2) (t := t) (K := K) (H := H))) (ws_168 (D := D) (a1 := a1) (a2 := a2) (t := t) (K := K) (H := H))) (ws_169 (D := D) (a1 := a1) (a2 := a2) (t := t) (K := K) (H := H))) (ws_170 (D := D) (a1 := a1) (a2 := a2) (t := t) (K := K) (H := H))) (ws_171 (D := D) (a1 := a1) (a2 := a2) (t := t) (K := K) (H := H))) (ws_172 (D := D) (a1 := a1) (a2 := a2) (t := t) (K := K) (H := H))) (ws_173 (D := D) (a1 := a1) (a2 := a2) (t := t) (K := K) (H := H))) (ws_174 (D := D) (a1 := a1) (a2 := a2) (t := t) (K := K) (H := H))) (ws_175 (D := D) (a1 := a1) (a2 := a2) (t := t) (K := K) (H := H))) (ws_176 (D := D) (a1 := a1) (a2 := a2) (t := t) (K := K) (H := H))) (ws_177 (D := D) (a1 := a1) (a2 := a2) (t := t) (K := K) (H := H))) (ws_178 (D := D) (a1 := a1) (a2 := a2) (t := t) (K := K) (H := H))) (ws_179 (D := D) (a1 := a1) (a2 := a2) (t := t) (K := K) (H := H))
theorem wa_180 : ∀ k, k < 200 → wOk D a1 a2 t K H k := lw_s1 (P := wOk D a1 a2 t K H) (n := 199) (lw_s1 (P := wOk D a1 a2 t K H) (n := 198) (lw_s1 (P := wOk D a1 a2 t K H) (n := 197) (lw_s1 (P := wOk D a1 a2 t K H) (n := 196) (lw_s1 (P := wOk D a1 a2 t K H) (n := 195) (lw_s1 (P := wOk D a1 a2 t K H) (n := 194) (lw_s1 (P := wOk D a1 a2 t K H) (n := 193) (lw_s1 (P := wOk D a1 a2 t K H) (n := 192) (lw_s1 (P := wOk D a1 a2 t K H) (n := 191) (lw_s1 (P := wOk D a1 a2 t K H) (n := 190) (lw_s1 (P := wOk D a1 a2 t K H) (n := 189) (lw_s1 (P := wOk D a1 a2 t K H) (n := 188) (lw_s1 (P := wOk D a1 a2 t K H) (n := 187) (lw_s1 (P := wOk D a1 a2 t K H) (n := 186) (lw_s1 (P := wOk D a1 a2 t K H) (n := 185) (lw_s1 (P := wOk D a1 a2 t K H) (n := 184) (lw_s1 (P := wOk D a1 a2 t K H) (n := 183) (lw_s1 (P := wOk D a1 a2 t K H) (n := 182) (lw_s1 (P := wOk D a1 a2 t K H) (n := 181) (lw_s1 (P := wOk D a1 a2 t K H) (n := 180) (wa_160) (ws_180 (D := D) (a1 := a1) (a2 := a2) (t := t) (K := K) (H := H))) (ws_181 (D := D) (a1 := a1) (a2 := a2) (t := t) (K := K) (H := H))) (ws_182 (D := D) (a1 := a1) (a2 := a2) (t := t) (K := K) (H := H))) (ws_183 (D := D) (a1 := a1) (a2 := a2) (t := t) (K := K) (H := H))) (ws_184 (D := D) (a1 := a1) (a2 := a2) (t := t) (K := K) (H := H))) (ws_185 (D := D) (a1 := a1) (a2 := a2) (t := t) (K := K) (H := H))) (ws_186 (D := D) (a1 := a1) (a2 := a2) (t := t) (K := K) (H := H))) (ws_187 (D := D) (a1 := a1) (a2 := a2) (t := t) (K := K) (H := H))) (ws_188 (D := D) (a1 := a1) (a2 := a2) (t := t) (K := K) (H := H))) (ws_189 (D := D) (a1 := a1) (a2 := a2) (t := t) (K := K) (H := H))) (ws_190 (D := D) (a1 := a1) (a2 := a2) (t := t) (K := K) (H := H))) (ws_191 (D := D) (a1 := a1) (a2 := a2) (t := t) (K := K) (H := H))) (ws_192 (D := D) (a1 := a1) (a2 := a2) (t := t) (K := K) (H := H))) (ws_193 (D := D) (a1 := a1) (a2 := a2) (t := t) (K := K) (H := H))) (ws_194 (D := D) (a1 := a1) (a2 := a2) (t := t) (K := K) (H := H))) (ws_195 (D := D) (a1 := a1) (a2 := a2) (t := t) (K := K) (H := H))) (ws_196 (D := D) (a1 := a1) (a2 := a2) (t := t) (K := K) (H := H))) (ws_197 (D := D) (a1 := a1) (a2 := a2) (t := t) (K := K) (H := H))) (ws_198 (D := D) (a1 := a1) (a2 := a2) (t := t) (K := K) (H := H))) (ws_199 (D := D) (a1 := a1) (a2 := a2) (t := t) (K := K) (H := H))
theorem wa_200 : ∀ k, k < 220 → wOk D a1 a2 t K H k := lw_s1 (P := wOk D a1 a2 t K H) (n := 219) (lw_s1 (P := wOk D a1 a2 t K H) (n := 218) (lw_s1 (P := wOk D a1 a2 t K H) (n := 217) (lw_s1 (P := wOk D a1 a2 t K H) (n := 216) (lw_s1 (P := wOk D a1 a2 t K H) (n := 215) (lw_s1 (P := wOk D a1 a2 t K H) (n := 214) (lw_s1 (P := wOk D a1 a2 t K H) (n := 213) (lw_s1 (P := wOk D a1 a2 t K H) (n := 212) (lw_s1 (P := wOk D a1 a2 t K H) (n := 211) (lw_s1 (P := wOk D a1 a2 t K H) (n := 210) (lw_s1 (P := wOk D a1 a2 t K H) (n := 209) (lw_s1 (P := wOk D a1 a2 t K H) (n := 208) (lw_s1 (P := wOk D a1 a2 t K H) (n := 207) (lw_s1 (P := wOk D a1 a2 t K H) (n := 206) (lw_s1 (P := wOk D a1 a2 t K H) (n := 205) (lw_s1 (P := wOk D a1 a2 t K H) (n := 204) (lw_s1 (P := wOk D a1 a2 t K H) (n := 203) (lw_s1 (P := wOk D a1 a2 t K H) (n := 202) (lw_s1 (P := wOk D a1 a2 t K H) (n := 201) (lw_s1 (P := wOk D a1 a2 t K H) (n := 200) (wa_180) (ws_200 (D := D) (a1 := a1) (a2 := a2) (t := t) (K := K) (H := H))) (ws_201 (D := D) (a1 := a1) (a2 := a2) (t := t) (K := K) (H := H))) (ws_202 (D := D) (a1 := a1) (a2 := a2) (t := t) (K := K) (H := H))) (ws_203 (D := D) (a1 := a1) (a2 := a2) (t := t) (K := K) (H := H))) (ws_204 (D := D) (a1 := a1) (a2 := a2) (t := t) (K := K) (H := H))) (ws_205 (D := D) (a1 := a1) (a2 := a2) (t := t) (K := K) (H := H))) (ws_206 (D := D) (a1 := a1) (a2 := a2) (t := t) (K := K) (H := H))) (ws_207 (D := D) (a1 := a1) (a2 := a2) (t := t) (K := K) (H := H))) (ws_208 (D := D) (a1 := a1) (a2 := a2) (t := t) (K := K) (H := H))) (ws_209 (D := D) (a1 := a1) (a2 := a2) (t := t) (K := K) (H := H))) (ws_210 (D := D) (a1 := a1) (a2 := a2) (t := t) (K := K) (H := H))) (ws_211 (D := D) (a1 := a1) (a2 := a2) (t := t) (K := K) (H := H))) (ws_212 (D := D) (a1 := a1) (a2 := a2) (t := t) (K := K) (H := H))) (ws_213 (D := D) (a1 := a1) (a2 := a2) (t := t) (K := K) (H := H))) (ws_214 (D := D) (a1 := a1) (a2 := a2) (t := t) (K := K) (H := H))) (ws_215 (D := D) (a1 := a1) (a2 := a2) (t := t) (K := K) (H := H))) (ws_216 (D := D) (a1 := a1) (a2 := a2) (t := t) (K := K) (H := H))) (ws_217 (D := D) (a1 := a1) (a2 := a2) (t := t) (K := K) (H := H))) (ws_218 (D := D) (a1 := a1) (a2 := a2) (t := t) (K := K) (H := H))) (ws_219 (D := D) (a1 := a1) (a2 := a2) (t := t) (K := K) (H := H))
theorem wa_220 : ∀ k, k < 240 → wOk D a1 a2 t K H k := lw_s1 (P := wOk D a1 a2 t K H) (n := 239) (lw_s1 (P := wOk D a1 a2 t K H) (n := 238) (lw_s1 (P := wOk D a1 a2 t K H) (n := 237) (lw_s1 (P := wOk D a1 a2 t K H) (n := 236) (lw_s1 (P := wOk D a1 a2 t K H) (n := 235) (lw_s1 (P := wOk D a1 a2 t K H) (n := 234) (lw_s1 (P := wOk D a1 a2 t K H) (n := 233) (lw_s1 (P := wOk D a1 a2 t K H) (n := 232) (lw_s1 (P := wOk D a1 a2 t K H) (n := 231) (lw_s1 (P := wOk D a1 a2 t K H) (n := 230) (lw_s1 (P := wOk D a1 a2 t K H) (n := 229) (lw_s1 (P := wOk D a1 a2 t K H) (n := 228) (lw_s1 (P := wOk D a1 a2 t K H) (n := 227) (lw_s1 (P := wOk D a1 a2 t K H) (n := 226) (lw_s1 (P := wOk D a1 a2 t K H) (n := 225) (lw_s1 (P := wOk D a1 a2 t K H) (n := 224) (lw_s1 (P := wOk D a1 a2 t K H) (n := 223) (lw_s1 (P := wOk D a1 a2 t K H) (n := 222) (lw_s1 (P := wOk D a1 a2 t K H) (n := 221) (lw_s1 (P := wOk D a1 a2 t K H) (n := 220) (wa_200) (ws_220 (D := D) (a1 := a1) (a2 := a2) (t := t) (K := K) (H := H))) (ws_221 (D := D) (a1 := a1) (a2 := a2) (t := t) (K := K) (H := H))) (ws_222 (D := D) (a1 := a1) (a2 := a2) (t := t) (K := K) (H := H))) (ws_223 (D := D) (a1 := a1) (a2 := a2) (t := t) (K := K) (H := H))) (ws_224 (D := D) (a1 := a1) (a2 := a2) (t := t) (K := K) (H := H))) (ws_225 (D := D) (a1 := a1) (a2 := a2) (t := t) (K := K) (H := H))) (ws_226 (D := D) (a1 := a1) (a2 := a2) (t := t) (K := K) (H := H))) (ws_227 (D := D) (a1 := a1) (a2 := a2) (t := t) (K := K) (H := H))) (ws_228 (D := D) (a1 := a1) (a2 := a2) (t := t) (K := K) (H := H))) (ws_229 (D := D) (a1 := a1) (a2 := a2) (t := t) (K := K) (H := H))) (ws_230 (D := D) (a1 := a1) (a2 := a2) (t := t) (K := K) (H := H))) (ws_231 (D := D) (a1 := a1) (a2 := a2) (t := t) (K := K) (H := H))) (ws_232 (D := D) (a1 := a1) (a2 := a2) (t := t) (K := K) (H := H))) (ws_233 (D := D) (a1 := a1) (a2 := a2) (t := t) (K := K) (H := H))) (ws_234 (D := D) (a1 := a1) (a2 := a2) (t := t) (K := K) (H := H))) (ws_235 (D := D) (a1 := a1) (a2 := a2) (t := t) (K := K) (H := H))) (ws_236 (D := D) (a1 := a1) (a2 := a2) (t := t) (K := K) (H := H))) (ws_237 (D := D) (a1 := a1) (a2 := a2) (t := t) (K := K) (H := H))) (ws_238 (D := D) (a1 := a1) (a2 := a2) (t := t) (K := K) (H := H))) (ws_239 (D := D) (a1 := a1) (a2 := a2) (t := t) (K := K) (H := H))
theorem wa_240 : ∀ k, k < 260 → wOk D a1 a2 t K H k := lw_s1 (P := wOk D a1 a2 t K H) (n := 259) (lw_s1 (P := wOk D a1 a2 t K H) (n := 258) (lw_s1 (P := wOk D a1 a2 t K H) (n := 257) (lw_s1 (P := wOk D a1 a2 t K H) (n := 256) (lw_s1 (P := wOk D a1 a2 t K H) (n := 255) (lw_s1 (P := wOk D a1 a2 t K H) (n := 254) (lw_s1 (P := wOk D a1 a2 t K H) (n := 253) (lw_s1 (P := wOk D a1 a2 t K H) (n := 252) (lw_s1 (P := wOk D a1 a2 t K H) (n := 251) (lw_s1 (P := wOk D a1 a2 t K H) (n := 250) (lw_s1 (P := wOk D a1 a2 t K H) (n := 249) (lw_s1 (P := wOk D a1 a2 t K H) (n := 248) (lw_s1 (P := wOk D a1 a2 t K H) (n := 247) (lw_s1 (P := wOk D a1 a2 t K H) (n := 246) (lw_s1 (P := wOk D a1 a2 t K H) (n := 245) (lw_s1 (P := wOk D a1 a2 t K H) (n := 244) (lw_s1 (P := wOk D a1 a2 t K H) (n := 243) (lw_s1 (P := wOk D a1 a2 t K H) (n := 242) (lw_s1 (P := wOk D a1 a2 t K H) (n := 241) (lw_s1 (P := wOk D a1 a2 t K H) (n := 240) (wa_220) (ws_240 (D := D) (a1 := a1) (a2 := a2) (t := t) (K := K) (H := H))) (ws_241 (D := D) (a1 := a1) (a2 := a2) (t := t) (K := K) (H := H))) (ws_242 (D := D) (a1 := a1) (a2 := a2) (t := t) (K := K) (H := H))) (ws_243 (D := D) (a1 := a1) (a2 := a2) (t := t) (K := K) (H := H))) (ws_244 (D := D) (a1 := a1) (a2 := a2) (t := t) (K := K) (H := H))) (ws_245 (D := D) (a1 := a1) (a2 := a2) (t := t) (K := K) (H := H))) (ws_246 (D := D) (a1 := a1) (a2 := a2) (t := t) (K := K) (H := H))) (ws_247 (D := D) (a1 := a1) (a2 := a2) (t := t) (K := K) (H := H))) (ws_248 (D := D) (a1 := a1) (a2 := a2) (t := t) (K := K) (H := H))) (ws_249 (D := D) (a1 := a1) (a2 := a2) (t := t) (K := K) (H := H))) (ws_250 (D := D) (a1 := a1) (a2 := a2) (t := t) (K := K) (H := H))) (ws_251 (D := D) (a1 := a1) (a2 := a2) (t := t) (K := K) (H := H))) (ws_252 (D := D) (a1 := a1) (a2 := a2) (t := t) (K := K) (H := H))) (ws_253 (D := D) (a1 := a1) (a2 := a2) (t := t) (K := K) (H := H))) (ws_254 (D := D) (a1 := a1) (a2 := a2) (t := t) (K := K) (H := H))) (ws_255 (D := D) (a1 := a1) (a2 := a2) (t := t) (K := K) (H := H))) (ws_256 (D := D) (a1 := a1) (a2 := a2) (t := t) (K := K) (H := H))) (ws_257 (D := D) (a1 := a1) (a2 := a2) (t := t) (K := K) (H := H))) (ws_258 (D := D) (a1 := a1) (a2 := a2) (t := t) (K := K) (H := H))) (ws_259 (D := D) (a1 := a1) (a2 := a2) (t := t) (K := K) (H := H))
theorem wa_260 : ∀ k, k < 280 → wOk D a1 a2 t K H k := lw_s1 (P := wOk D a1 a2 t K H) (n := 279) (lw_s1 (P := wOk D a1 a2 t K H) (n := 278) (lw_s1 (P := wOk D a1 a2 t K H) (n := 277) (lw_s1 (P := wOk D a1 a2 t K H) (n := 276) (lw_s1 (P := wOk D a1 a2 t K H) (n := 275) (lw_s1 (P := wOk D a1 a2 t K H) (n := 274) (lw_s1 (P := wOk D a1 a2 t K H) (n := 273) (lw_s1 (P := wOk D a1 a2 t K H) (n := 272) (lw_s1 (P := wOk D a1 a2 t K H) (n := 271) (lw_s1 (P := wOk D a1 a2 t K H) (n := 270) (lw_s1 (P := wOk D a1 a2 t K H) (n := 269) (lw_s1 (P := wOk D a1 a2 t K H) (n := 268) (lw_s1 (P := wOk D a1 a2 t K H) (n := 267) (lw_s1 (P := wOk D a1 a2 t K H) (n := 266) (lw_s1 (P := wOk D a1 a2 t K H) (n := 265) (lw_s1 (P := wOk D a1 a2 t K H) (n := 264) (lw_s1 (P := wOk D a1 a2 t K H) (n := 263) (lw_s1 (P := wOk D a1 a2 t K H) (n := 262) (lw_s1 (P := wOk D a1 a2 t K H) (n := 261) (lw_s1 (P := wOk D a1 a2 t K H) (n := 260) (wa_240) (ws_260 (D := D) (a1 := a1) (a2 := a2) (t := t) (K := K) (H := H))) (ws_261 (D := D) (a1 := a1) (a2 := a2) (t := t) (K := K) (H := H))) (ws_262 (D := D) (a1 := a1) (a2 := a2) (t := t) (K := K) (H := H))) (ws_263 (D := D) (a1 := a1) (a2 := a2) (t := t) (K := K) (H := H))) (ws_264 (D := D) (a1 := a1) (a2 := a2) (t := t) (K := K) (H := H))) (ws_265 (D := D) (a1 := a1) (a2 := a2) (t := t) (K := K) (H := H))) (ws_266 (D := D) (a1 := a1) (a2 := a2) (t := t) (K := K) (H := H))) (ws_267 (D := D) (a1 := a1) (a2 := a2) (t := t) (K := K) (H := H))) (ws_268 (D := D) (a1 := a1) (a2 := a2) (t := t) (K := K) (H := H))) (ws_269 (D := D) (a1 := a1) (a2 := a2) (t := t) (K := K) (H := H))) (ws_270 (D := D) (a1 := a1) (a2 := a2) (t := t) (K := K) (H := H))) (ws_271 (D := D) (a1 := a1) (a2 := a2) (t := t) (K := K) (H := H))) (ws_272 (D := D) (a1 := a1) (a2 := a2) (t := t) (K := K) (H := H))) (ws_273 (D := D) (a1 := a1) (a2 := a2) (t := t) (K := K) (H := H))) (ws_274 (D := D) (a1 := a1) (a2 := a2) (t := t) (K := K) (H := H))) (ws_275 (D := D) (a1 := a1) (a2 := a2) (t := t) (K := K) (H := H))) (ws_276 (D := D) (a1 := a1) (a2 := a2) (t := t) (K := K) (H := H))) (ws_277 (D := D) (a1 := a1) (a2 := a2) (t := t) (K := K) (H := H))) (ws_278 (D := D) (a1 := a1) (a2 := a2) (t := t) (K := K) (H := H))) (ws_279 (D := D) (a1 := a1) (a2 := a2) (t := t) (K := K) (H := H))
theorem wI_P (h : va_P D clX (wI a1 a2 K) H) : va_P D clX (sWs (gI a1 a2 t, K) mI lI) H := by
  intro k q hk
  have hlt : k < 280 := by
    have := (List.getElem?_eq_some_iff.mp hk).1
    rw [sWs_len] at this
    exact this
  obtain ⟨e, h1, h2⟩ := wa_260 (D := D) (a1 := a1) (a2 := a2) (t := t) (K := K) (H := H) k hlt
  rw [sWs_get _ _ _ hlt] at hk
  obtain rfl := Option.some.inj hk
  exact h2 (h k _ h1)
theorem wI_D {A : Nat → Prop} (h : va_D A (wI a1 a2 K)) : va_D A (sWs (gI a1 a2 t, K) mI lI) := by
  have key : ∀ (k : Nat) (q : Nat × va_E), (sWs (gI a1 a2 t, K) mI lI)[k]? = some q → ∃ e, (wI a1 a2 K)[k]? = some (q.1, e) := fun k q hk => by
    have hlt : k < 280 := by
      have := (List.getElem?_eq_some_iff.mp hk).1
      rw [sWs_len] at this
      exact this
    obtain ⟨e, h1, _⟩ := wa_260 (D := (fun _ => 0, fun _ _ => 0)) (a1 := a1) (a2 := a2) (t := t) (K := K) (H := #[]) k hlt
    rw [sWs_get _ _ _ hlt] at hk
    obtain rfl := Option.some.inj hk
    exact ⟨e, h1⟩
  refine ⟨fun i j p q hi hj e => ?_, fun k q hk => ?_⟩
  · obtain ⟨e1, h1⟩ := key i p hi
    obtain ⟨e2, h2⟩ := key j q hj
    exact h.1 i j _ _ h1 h2 e
  · obtain ⟨e1, h1⟩ := key k q hk
    exact h.2 k (q.1, e1) h1
end WI
