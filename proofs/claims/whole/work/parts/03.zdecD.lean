theorem dX7_bad_0 : decode cX7_bad 0 = .ok (.aload_n 0, 1) := by decide +kernel
theorem dX7_bad_1 : decode cX7_bad 1 = .ok (.getfield 1, 3) := by decide +kernel
theorem dX7_bad_4 : decode cX7_bad 4 = .ok (.iconst 0, 1) := by decide +kernel
theorem dX7_bad_5 : decode cX7_bad 5 = .ok (.dup2, 1) := by decide +kernel
theorem dX7_bad_6 : decode cX7_bad 6 = .ok (.iaload, 1) := by decide +kernel
theorem dX7_bad_7 : decode cX7_bad 7 = .ok (.iconst 1, 1) := by decide +kernel
theorem dX7_bad_8 : decode cX7_bad 8 = .ok (.iadd, 1) := by decide +kernel
theorem dX7_bad_9 : decode cX7_bad 9 = .ok (.iastore, 1) := by decide +kernel
theorem dX7_bad_10 : decode cX7_bad 10 = .ok (.bipush (-2), 2) := by decide +kernel
theorem dX7_bad_12 : decode cX7_bad 12 = .ok (.ireturn, 1) := by decide +kernel
theorem dX7_no_0 : decode cX7_no 0 = .ok (.aload_n 0, 1) := by decide +kernel
theorem dX7_no_1 : decode cX7_no 1 = .ok (.getfield 1, 3) := by decide +kernel
theorem dX7_no_4 : decode cX7_no 4 = .ok (.iconst 1, 1) := by decide +kernel
theorem dX7_no_5 : decode cX7_no 5 = .ok (.dup2, 1) := by decide +kernel
theorem dX7_no_6 : decode cX7_no 6 = .ok (.iaload, 1) := by decide +kernel
theorem dX7_no_7 : decode cX7_no 7 = .ok (.iconst 1, 1) := by decide +kernel
theorem dX7_no_8 : decode cX7_no 8 = .ok (.iadd, 1) := by decide +kernel
theorem dX7_no_9 : decode cX7_no 9 = .ok (.iastore, 1) := by decide +kernel
theorem dX7_no_10 : decode cX7_no 10 = .ok (.bipush (-3), 2) := by decide +kernel
theorem dX7_no_12 : decode cX7_no 12 = .ok (.ireturn, 1) := by decide +kernel
theorem dX7_full_0 : decode cX7_full 0 = .ok (.aload_n 0, 1) := by decide +kernel
theorem dX7_full_1 : decode cX7_full 1 = .ok (.getfield 1, 3) := by decide +kernel
theorem dX7_full_4 : decode cX7_full 4 = .ok (.iconst 2, 1) := by decide +kernel
theorem dX7_full_5 : decode cX7_full 5 = .ok (.dup2, 1) := by decide +kernel
theorem dX7_full_6 : decode cX7_full 6 = .ok (.iaload, 1) := by decide +kernel
theorem dX7_full_7 : decode cX7_full 7 = .ok (.iconst 1, 1) := by decide +kernel
theorem dX7_full_8 : decode cX7_full 8 = .ok (.iadd, 1) := by decide +kernel
theorem dX7_full_9 : decode cX7_full 9 = .ok (.iastore, 1) := by decide +kernel
theorem dX7_full_10 : decode cX7_full 10 = .ok (.bipush (-4), 2) := by decide +kernel
theorem dX7_full_12 : decode cX7_full 12 = .ok (.ireturn, 1) := by decide +kernel
theorem dX7_in_0 : decode cX7_in 0 = .ok (.iload_n 0, 1) := by decide +kernel
theorem dX7_in_1 : decode cX7_in 1 = .ok (.iload_n 1, 1) := by decide +kernel
theorem dX7_in_2 : decode cX7_in 2 = .ok (.if_icmp .lt 12, 3) := by decide +kernel
theorem dX7_in_5 : decode cX7_in 5 = .ok (.iload_n 0, 1) := by decide +kernel
theorem dX7_in_6 : decode cX7_in 6 = .ok (.iload_n 2, 1) := by decide +kernel
theorem dX7_in_7 : decode cX7_in 7 = .ok (.if_icmp .gt 7, 3) := by decide +kernel
theorem dX7_in_10 : decode cX7_in 10 = .ok (.iconst 1, 1) := by decide +kernel
theorem dX7_in_11 : decode cX7_in 11 = .ok (.goto 4, 3) := by decide +kernel
theorem dX7_in_14 : decode cX7_in 14 = .ok (.iconst 0, 1) := by decide +kernel
theorem dX7_in_15 : decode cX7_in 15 = .ok (.ireturn, 1) := by decide +kernel
theorem dX7_has_0 : decode cX7_has 0 = .ok (.iload_n 0, 1) := by decide +kernel
theorem dX7_has_1 : decode cX7_has 1 = .ok (.iload_n 1, 1) := by decide +kernel
theorem dX7_has_2 : decode cX7_has 2 = .ok (.ishr, 1) := by decide +kernel
theorem dX7_has_3 : decode cX7_has 3 = .ok (.iconst 1, 1) := by decide +kernel
theorem dX7_has_4 : decode cX7_has 4 = .ok (.iand, 1) := by decide +kernel
theorem dX7_has_5 : decode cX7_has 5 = .ok (.iconst 1, 1) := by decide +kernel
theorem dX7_has_6 : decode cX7_has 6 = .ok (.if_icmp .ne 7, 3) := by decide +kernel
theorem dX7_has_9 : decode cX7_has 9 = .ok (.iconst 1, 1) := by decide +kernel
theorem dX7_has_10 : decode cX7_has 10 = .ok (.goto 4, 3) := by decide +kernel
theorem dX7_has_13 : decode cX7_has 13 = .ok (.iconst 0, 1) := by decide +kernel
theorem dX7_has_14 : decode cX7_has 14 = .ok (.ireturn, 1) := by decide +kernel
theorem dX7_lesser_0 : decode cX7_lesser 0 = .ok (.iload_n 0, 1) := by decide +kernel
theorem dX7_lesser_1 : decode cX7_lesser 1 = .ok (.iload_n 1, 1) := by decide +kernel
theorem dX7_lesser_2 : decode cX7_lesser 2 = .ok (.if_icmp .ge 7, 3) := by decide +kernel
theorem dX7_lesser_5 : decode cX7_lesser 5 = .ok (.iload_n 0, 1) := by decide +kernel
theorem dX7_lesser_6 : decode cX7_lesser 6 = .ok (.goto 4, 3) := by decide +kernel
theorem dX7_lesser_9 : decode cX7_lesser 9 = .ok (.iload_n 1, 1) := by decide +kernel
theorem dX7_lesser_10 : decode cX7_lesser 10 = .ok (.ireturn, 1) := by decide +kernel
theorem dX7_greater_0 : decode cX7_greater 0 = .ok (.iload_n 0, 1) := by decide +kernel
theorem dX7_greater_1 : decode cX7_greater 1 = .ok (.iload_n 1, 1) := by decide +kernel
theorem dX7_greater_2 : decode cX7_greater 2 = .ok (.if_icmp .le 7, 3) := by decide +kernel
theorem dX7_greater_5 : decode cX7_greater 5 = .ok (.iload_n 0, 1) := by decide +kernel
theorem dX7_greater_6 : decode cX7_greater 6 = .ok (.goto 4, 3) := by decide +kernel
theorem dX7_greater_9 : decode cX7_greater 9 = .ok (.iload_n 1, 1) := by decide +kernel
theorem dX7_greater_10 : decode cX7_greater 10 = .ok (.ireturn, 1) := by decide +kernel
theorem dX7_far_0 : decode cX7_far 0 = .ok (.iload_n 0, 1) := by decide +kernel
theorem dX7_far_1 : decode cX7_far 1 = .ok (.ifCond .ge 8, 3) := by decide +kernel
theorem dX7_far_4 : decode cX7_far 4 = .ok (.iload_n 0, 1) := by decide +kernel
theorem dX7_far_5 : decode cX7_far 5 = .ok (.ineg, 1) := by decide +kernel
theorem dX7_far_6 : decode cX7_far 6 = .ok (.goto 4, 3) := by decide +kernel
theorem dX7_far_9 : decode cX7_far 9 = .ok (.iload_n 0, 1) := by decide +kernel
theorem dX7_far_10 : decode cX7_far 10 = .ok (.ireturn, 1) := by decide +kernel
theorem dX7_onShore_0 : decode cX7_onShore 0 = .ok (.iload_n 0, 1) := by decide +kernel
theorem dX7_onShore_1 : decode cX7_onShore 1 = .ok (.ifCond .ge 7, 3) := by decide +kernel
theorem dX7_onShore_4 : decode cX7_onShore 4 = .ok (.iconst 0, 1) := by decide +kernel
theorem dX7_onShore_5 : decode cX7_onShore 5 = .ok (.goto 15, 3) := by decide +kernel
theorem dX7_onShore_8 : decode cX7_onShore 8 = .ok (.iload_n 0, 1) := by decide +kernel
theorem dX7_onShore_9 : decode cX7_onShore 9 = .ok (.bipush 12, 2) := by decide +kernel
theorem dX7_onShore_11 : decode cX7_onShore 11 = .ok (.if_icmp .lt 8, 3) := by decide +kernel
theorem dX7_onShore_14 : decode cX7_onShore 14 = .ok (.bipush 11, 2) := by decide +kernel
theorem dX7_onShore_16 : decode cX7_onShore 16 = .ok (.goto 4, 3) := by decide +kernel
theorem dX7_onShore_19 : decode cX7_onShore 19 = .ok (.iload_n 0, 1) := by decide +kernel
theorem dX7_onShore_20 : decode cX7_onShore 20 = .ok (.ireturn, 1) := by decide +kernel
theorem dX7_init_0 : decode cX7_init 0 = .ok (.aload_n 0, 1) := by decide +kernel
theorem dX7_init_1 : decode cX7_init 1 = .ok (.invokespecial 7, 3) := by decide +kernel
theorem dX7_init_4 : decode cX7_init 4 = .ok (.aload_n 0, 1) := by decide +kernel
theorem dX7_init_5 : decode cX7_init 5 = .ok (.iconst 3, 1) := by decide +kernel
theorem dX7_init_6 : decode cX7_init 6 = .ok (.newarray .int, 2) := by decide +kernel
theorem dX7_init_8 : decode cX7_init 8 = .ok (.putfield 1, 3) := by decide +kernel
theorem dX7_init_11 : decode cX7_init 11 = .ok (.aload_n 0, 1) := by decide +kernel
theorem dX7_init_12 : decode cX7_init 12 = .ok (.bipush 12, 2) := by decide +kernel
theorem dX7_init_14 : decode cX7_init 14 = .ok (.newarray .int, 2) := by decide +kernel
theorem dX7_init_16 : decode cX7_init 16 = .ok (.putfield 13, 3) := by decide +kernel
theorem dX7_init_19 : decode cX7_init 19 = .ok (.aload_n 0, 1) := by decide +kernel
theorem dX7_init_20 : decode cX7_init 20 = .ok (.bipush 6, 2) := by decide +kernel
theorem dX7_init_22 : decode cX7_init 22 = .ok (.newarray .int, 2) := by decide +kernel
theorem dX7_init_24 : decode cX7_init 24 = .ok (.putfield 16, 3) := by decide +kernel
theorem dX7_init_27 : decode cX7_init 27 = .ok (.aload_n 0, 1) := by decide +kernel
theorem dX7_init_28 : decode cX7_init 28 = .ok (.bipush 6, 2) := by decide +kernel
theorem dX7_init_30 : decode cX7_init 30 = .ok (.newarray .int, 2) := by decide +kernel
theorem dX7_init_32 : decode cX7_init 32 = .ok (.putfield 19, 3) := by decide +kernel
theorem dX7_init_35 : decode cX7_init 35 = .ok (.aload_n 0, 1) := by decide +kernel
theorem dX7_init_36 : decode cX7_init 36 = .ok (.bipush 6, 2) := by decide +kernel
theorem dX7_init_38 : decode cX7_init 38 = .ok (.newarray .int, 2) := by decide +kernel
theorem dX7_init_40 : decode cX7_init 40 = .ok (.putfield 22, 3) := by decide +kernel
theorem dX7_init_43 : decode cX7_init 43 = .ok (.aload_n 0, 1) := by decide +kernel
theorem dX7_init_44 : decode cX7_init 44 = .ok (.bipush 6, 2) := by decide +kernel
theorem dX7_init_46 : decode cX7_init 46 = .ok (.newarray .int, 2) := by decide +kernel
theorem dX7_init_48 : decode cX7_init 48 = .ok (.putfield 25, 3) := by decide +kernel
theorem dX7_init_51 : decode cX7_init 51 = .ok (.aload_n 0, 1) := by decide +kernel
theorem dX7_init_52 : decode cX7_init 52 = .ok (.bipush 6, 2) := by decide +kernel
theorem dX7_init_54 : decode cX7_init 54 = .ok (.newarray .int, 2) := by decide +kernel
theorem dX7_init_56 : decode cX7_init 56 = .ok (.putfield 28, 3) := by decide +kernel
theorem dX7_init_59 : decode cX7_init 59 = .ok (.aload_n 0, 1) := by decide +kernel
theorem dX7_init_60 : decode cX7_init 60 = .ok (.bipush 6, 2) := by decide +kernel
theorem dX7_init_62 : decode cX7_init 62 = .ok (.newarray .int, 2) := by decide +kernel
theorem dX7_init_64 : decode cX7_init 64 = .ok (.putfield 31, 3) := by decide +kernel
theorem dX7_init_67 : decode cX7_init 67 = .ok (.aload_n 0, 1) := by decide +kernel
theorem dX7_init_68 : decode cX7_init 68 = .ok (.bipush 10, 2) := by decide +kernel
theorem dX7_init_70 : decode cX7_init 70 = .ok (.newarray .int, 2) := by decide +kernel
theorem dX7_init_72 : decode cX7_init 72 = .ok (.putfield 34, 3) := by decide +kernel
theorem dX7_init_75 : decode cX7_init 75 = .ok (.aload_n 0, 1) := by decide +kernel
theorem dX7_init_76 : decode cX7_init 76 = .ok (.bipush 24, 2) := by decide +kernel
theorem dX7_init_78 : decode cX7_init 78 = .ok (.newarray .int, 2) := by decide +kernel
theorem dX7_init_80 : decode cX7_init 80 = .ok (.putfield 37, 3) := by decide +kernel
theorem dX7_init_83 : decode cX7_init 83 = .ok (.aload_n 0, 1) := by decide +kernel
theorem dX7_init_84 : decode cX7_init 84 = .ok (.bipush 18, 2) := by decide +kernel
theorem dX7_init_86 : decode cX7_init 86 = .ok (.newarray .int, 2) := by decide +kernel
theorem dX7_init_88 : decode cX7_init 88 = .ok (.putfield 40, 3) := by decide +kernel
theorem dX7_init_91 : decode cX7_init 91 = .ok (.aload_n 0, 1) := by decide +kernel
theorem dX7_init_92 : decode cX7_init 92 = .ok (.sipush 150, 3) := by decide +kernel
theorem dX7_init_95 : decode cX7_init 95 = .ok (.newarray .int, 2) := by decide +kernel
theorem dX7_init_97 : decode cX7_init 97 = .ok (.putfield 43, 3) := by decide +kernel
theorem dX7_init_100 : decode cX7_init 100 = .ok (.aload_n 0, 1) := by decide +kernel
theorem dX7_init_101 : decode cX7_init 101 = .ok (.sipush 280, 3) := by decide +kernel
theorem dX7_init_104 : decode cX7_init 104 = .ok (.newarray .int, 2) := by decide +kernel
theorem dX7_init_106 : decode cX7_init 106 = .ok (.putfield 46, 3) := by decide +kernel
theorem dX7_init_109 : decode cX7_init 109 = .ok (.aload_n 0, 1) := by decide +kernel
theorem dX7_init_110 : decode cX7_init 110 = .ok (.sipush 160, 3) := by decide +kernel
theorem dX7_init_113 : decode cX7_init 113 = .ok (.newarray .int, 2) := by decide +kernel
theorem dX7_init_115 : decode cX7_init 115 = .ok (.putfield 49, 3) := by decide +kernel
theorem dX7_init_118 : decode cX7_init 118 = .ok (.aload_n 0, 1) := by decide +kernel
theorem dX7_init_119 : decode cX7_init 119 = .ok (.bipush 20, 2) := by decide +kernel
theorem dX7_init_121 : decode cX7_init 121 = .ok (.newarray .int, 2) := by decide +kernel
theorem dX7_init_123 : decode cX7_init 123 = .ok (.putfield 52, 3) := by decide +kernel
theorem dX7_init_126 : decode cX7_init 126 = .ok (.aload_n 0, 1) := by decide +kernel
theorem dX7_init_127 : decode cX7_init 127 = .ok (.sipush 252, 3) := by decide +kernel
theorem dX7_init_130 : decode cX7_init 130 = .ok (.newarray .long, 2) := by decide +kernel
theorem dX7_init_132 : decode cX7_init 132 = .ok (.putfield 55, 3) := by decide +kernel
theorem dX7_init_135 : decode cX7_init 135 = .ok (.aload_n 0, 1) := by decide +kernel
theorem dX7_init_136 : decode cX7_init 136 = .ok (.sipush 240, 3) := by decide +kernel
theorem dX7_init_139 : decode cX7_init 139 = .ok (.newarray .int, 2) := by decide +kernel
theorem dX7_init_141 : decode cX7_init 141 = .ok (.putfield 59, 3) := by decide +kernel
theorem dX7_init_144 : decode cX7_init 144 = .ok (.aload_n 0, 1) := by decide +kernel
theorem dX7_init_145 : decode cX7_init 145 = .ok (.bipush 6, 2) := by decide +kernel
theorem dX7_init_147 : decode cX7_init 147 = .ok (.newarray .int, 2) := by decide +kernel
theorem dX7_init_149 : decode cX7_init 149 = .ok (.putfield 62, 3) := by decide +kernel
theorem dX7_init_152 : decode cX7_init 152 = .ok (.aload_n 0, 1) := by decide +kernel
theorem dX7_init_153 : decode cX7_init 153 = .ok (.bipush 6, 2) := by decide +kernel
theorem dX7_init_155 : decode cX7_init 155 = .ok (.newarray .int, 2) := by decide +kernel
theorem dX7_init_157 : decode cX7_init 157 = .ok (.putfield 65, 3) := by decide +kernel
theorem dX7_init_160 : decode cX7_init 160 = .ok (.aload_n 0, 1) := by decide +kernel
theorem dX7_init_161 : decode cX7_init 161 = .ok (.lconst 1, 1) := by decide +kernel
theorem dX7_init_162 : decode cX7_init 162 = .ok (.putfield 68, 3) := by decide +kernel
theorem dX7_init_165 : decode cX7_init 165 = .ok (.aload_n 0, 1) := by decide +kernel
theorem dX7_init_166 : decode cX7_init 166 = .ok (.sipush 560, 3) := by decide +kernel
theorem dX7_init_169 : decode cX7_init 169 = .ok (.newarray .int, 2) := by decide +kernel
theorem dX7_init_171 : decode cX7_init 171 = .ok (.putfield 72, 3) := by decide +kernel
theorem dX7_init_174 : decode cX7_init 174 = .ok (.aload_n 0, 1) := by decide +kernel
theorem dX7_init_175 : decode cX7_init 175 = .ok (.iconst 2, 1) := by decide +kernel
theorem dX7_init_176 : decode cX7_init 176 = .ok (.newarray .int, 2) := by decide +kernel
theorem dX7_init_178 : decode cX7_init 178 = .ok (.putfield 75, 3) := by decide +kernel
theorem dX7_init_181 : decode cX7_init 181 = .ok (.aload_n 0, 1) := by decide +kernel
theorem dX7_init_182 : decode cX7_init 182 = .ok (.invokevirtual 78, 3) := by decide +kernel
theorem dX7_init_185 : decode cX7_init 185 = .ok (.return_, 1) := by decide +kernel
theorem dX7_begin_0 : decode cX7_begin 0 = .ok (.aload_n 0, 1) := by decide +kernel
theorem dX7_begin_1 : decode cX7_begin 1 = .ok (.iconst 0, 1) := by decide +kernel
theorem dX7_begin_2 : decode cX7_begin 2 = .ok (.putfield 81, 3) := by decide +kernel
theorem dX7_begin_5 : decode cX7_begin 5 = .ok (.aload_n 0, 1) := by decide +kernel
theorem dX7_begin_6 : decode cX7_begin 6 = .ok (.iconst 0, 1) := by decide +kernel
theorem dX7_begin_7 : decode cX7_begin 7 = .ok (.putfield 85, 3) := by decide +kernel
theorem dX7_begin_10 : decode cX7_begin 10 = .ok (.aload_n 0, 1) := by decide +kernel
theorem dX7_begin_11 : decode cX7_begin 11 = .ok (.iconst 0, 1) := by decide +kernel
theorem dX7_begin_12 : decode cX7_begin 12 = .ok (.putfield 88, 3) := by decide +kernel
theorem dX7_begin_15 : decode cX7_begin 15 = .ok (.aload_n 0, 1) := by decide +kernel
theorem dX7_begin_16 : decode cX7_begin 16 = .ok (.iconst 0, 1) := by decide +kernel
theorem dX7_begin_17 : decode cX7_begin 17 = .ok (.putfield 91, 3) := by decide +kernel
theorem dX7_begin_20 : decode cX7_begin 20 = .ok (.aload_n 0, 1) := by decide +kernel
theorem dX7_begin_21 : decode cX7_begin 21 = .ok (.iconst 0, 1) := by decide +kernel
theorem dX7_begin_22 : decode cX7_begin 22 = .ok (.putfield 94, 3) := by decide +kernel
theorem dX7_begin_25 : decode cX7_begin 25 = .ok (.aload_n 0, 1) := by decide +kernel
theorem dX7_begin_26 : decode cX7_begin 26 = .ok (.iconst 0, 1) := by decide +kernel
theorem dX7_begin_27 : decode cX7_begin 27 = .ok (.putfield 97, 3) := by decide +kernel
theorem dX7_begin_30 : decode cX7_begin 30 = .ok (.aload_n 0, 1) := by decide +kernel
theorem dX7_begin_31 : decode cX7_begin 31 = .ok (.iconst 0, 1) := by decide +kernel
theorem dX7_begin_32 : decode cX7_begin 32 = .ok (.putfield 100, 3) := by decide +kernel
theorem dX7_begin_35 : decode cX7_begin 35 = .ok (.aload_n 0, 1) := by decide +kernel
theorem dX7_begin_36 : decode cX7_begin 36 = .ok (.iconst 0, 1) := by decide +kernel
theorem dX7_begin_37 : decode cX7_begin 37 = .ok (.putfield 103, 3) := by decide +kernel
theorem dX7_begin_40 : decode cX7_begin 40 = .ok (.iconst 0, 1) := by decide +kernel
theorem dX7_begin_41 : decode cX7_begin 41 = .ok (.istore_n 1, 1) := by decide +kernel
theorem dX7_begin_42 : decode cX7_begin 42 = .ok (.iload_n 1, 1) := by decide +kernel
theorem dX7_begin_43 : decode cX7_begin 43 = .ok (.bipush 12, 2) := by decide +kernel
theorem dX7_begin_45 : decode cX7_begin 45 = .ok (.if_icmp .ge 16, 3) := by decide +kernel
theorem dX7_begin_48 : decode cX7_begin 48 = .ok (.aload_n 0, 1) := by decide +kernel
theorem dX7_begin_49 : decode cX7_begin 49 = .ok (.getfield 13, 3) := by decide +kernel
theorem dX7_begin_52 : decode cX7_begin 52 = .ok (.iload_n 1, 1) := by decide +kernel
theorem dX7_begin_53 : decode cX7_begin 53 = .ok (.iconst 0, 1) := by decide +kernel
theorem dX7_begin_54 : decode cX7_begin 54 = .ok (.iastore, 1) := by decide +kernel
theorem dX7_begin_55 : decode cX7_begin 55 = .ok (.iinc 1 1, 3) := by decide +kernel
theorem dX7_begin_58 : decode cX7_begin 58 = .ok (.goto (-16), 3) := by decide +kernel
theorem dX7_begin_61 : decode cX7_begin 61 = .ok (.return_, 1) := by decide +kernel
theorem dX7_isSoul_0 : decode cX7_isSoul 0 = .ok (.iload_n 1, 1) := by decide +kernel
theorem dX7_isSoul_1 : decode cX7_isSoul 1 = .ok (.iconst 0, 1) := by decide +kernel
theorem dX7_isSoul_2 : decode cX7_isSoul 2 = .ok (.aload_n 0, 1) := by decide +kernel
theorem dX7_isSoul_3 : decode cX7_isSoul 3 = .ok (.getfield 81, 3) := by decide +kernel
theorem dX7_isSoul_6 : decode cX7_isSoul 6 = .ok (.iconst 1, 1) := by decide +kernel
theorem dX7_isSoul_7 : decode cX7_isSoul 7 = .ok (.isub, 1) := by decide +kernel
theorem dX7_isSoul_8 : decode cX7_isSoul 8 = .ok (.invokestatic 106, 3) := by decide +kernel
theorem dX7_isSoul_11 : decode cX7_isSoul 11 = .ok (.ireturn, 1) := by decide +kernel
theorem dX7_isCaller_0 : decode cX7_isCaller 0 = .ok (.iload_n 1, 1) := by decide +kernel
theorem dX7_isCaller_1 : decode cX7_isCaller 1 = .ok (.iconst 0, 1) := by decide +kernel
theorem dX7_isCaller_2 : decode cX7_isCaller 2 = .ok (.aload_n 0, 1) := by decide +kernel
theorem dX7_isCaller_3 : decode cX7_isCaller 3 = .ok (.getfield 85, 3) := by decide +kernel
theorem dX7_isCaller_6 : decode cX7_isCaller 6 = .ok (.iconst 1, 1) := by decide +kernel
theorem dX7_isCaller_7 : decode cX7_isCaller 7 = .ok (.isub, 1) := by decide +kernel
theorem dX7_isCaller_8 : decode cX7_isCaller 8 = .ok (.invokestatic 106, 3) := by decide +kernel
theorem dX7_isCaller_11 : decode cX7_isCaller 11 = .ok (.ireturn, 1) := by decide +kernel
theorem dX7_isCell_0 : decode cX7_isCell 0 = .ok (.iload_n 0, 1) := by decide +kernel
theorem dX7_isCell_1 : decode cX7_isCell 1 = .ok (.iconst 0, 1) := by decide +kernel
theorem dX7_isCell_2 : decode cX7_isCell 2 = .ok (.bipush 11, 2) := by decide +kernel
theorem dX7_isCell_4 : decode cX7_isCell 4 = .ok (.invokestatic 106, 3) := by decide +kernel
theorem dX7_isCell_7 : decode cX7_isCell 7 = .ok (.ireturn, 1) := by decide +kernel
theorem dX7_shore_0 : decode cX7_shore 0 = .ok (.aload_n 0, 1) := by decide +kernel
theorem dX7_shore_1 : decode cX7_shore 1 = .ok (.getfield 81, 3) := by decide +kernel
theorem dX7_shore_4 : decode cX7_shore 4 = .ok (.istore_n 1, 1) := by decide +kernel
theorem dX7_shore_5 : decode cX7_shore 5 = .ok (.aload_n 0, 1) := by decide +kernel
theorem dX7_shore_6 : decode cX7_shore 6 = .ok (.invokevirtual 78, 3) := by decide +kernel
theorem dX7_shore_9 : decode cX7_shore 9 = .ok (.iload_n 1, 1) := by decide +kernel
theorem dX7_shore_10 : decode cX7_shore 10 = .ok (.ireturn, 1) := by decide +kernel
theorem dX7_tenBad_0 : decode cX7_tenBad 0 = .ok (.aload_n 0, 1) := by decide +kernel
theorem dX7_tenBad_1 : decode cX7_tenBad 1 = .ok (.invokevirtual 110, 3) := by decide +kernel
theorem dX7_tenBad_4 : decode cX7_tenBad 4 = .ok (.pop, 1) := by decide +kernel
theorem dX7_tenBad_5 : decode cX7_tenBad 5 = .ok (.bipush (-10), 2) := by decide +kernel
theorem dX7_tenBad_7 : decode cX7_tenBad 7 = .ok (.ireturn, 1) := by decide +kernel
theorem dX7_current_0 : decode cX7_current 0 = .ok (.iload_n 1, 1) := by decide +kernel
theorem dX7_current_1 : decode cX7_current 1 = .ok (.invokestatic 114, 3) := by decide +kernel
theorem dX7_current_4 : decode cX7_current 4 = .ok (.ifCond .eq 13, 3) := by decide +kernel
theorem dX7_current_7 : decode cX7_current 7 = .ok (.iload_n 2, 1) := by decide +kernel
theorem dX7_current_8 : decode cX7_current 8 = .ok (.bipush (-2), 2) := by decide +kernel
theorem dX7_current_10 : decode cX7_current 10 = .ok (.iconst 2, 1) := by decide +kernel
theorem dX7_current_11 : decode cX7_current 11 = .ok (.invokestatic 106, 3) := by decide +kernel
theorem dX7_current_14 : decode cX7_current 14 = .ok (.ifCond .ne 8, 3) := by decide +kernel
theorem dX7_current_17 : decode cX7_current 17 = .ok (.aload_n 0, 1) := by decide +kernel
theorem dX7_current_18 : decode cX7_current 18 = .ok (.invokevirtual 118, 3) := by decide +kernel
theorem dX7_current_21 : decode cX7_current 21 = .ok (.ireturn, 1) := by decide +kernel
theorem dX7_current_22 : decode cX7_current 22 = .ok (.aload_n 0, 1) := by decide +kernel
theorem dX7_current_23 : decode cX7_current 23 = .ok (.getfield 13, 3) := by decide +kernel
theorem dX7_current_26 : decode cX7_current 26 = .ok (.iload_n 1, 1) := by decide +kernel
theorem dX7_current_27 : decode cX7_current 27 = .ok (.iaload, 1) := by decide +kernel
theorem dX7_current_28 : decode cX7_current 28 = .ok (.istore_n 3, 1) := by decide +kernel
theorem dX7_current_29 : decode cX7_current 29 = .ok (.aload_n 0, 1) := by decide +kernel
theorem dX7_current_30 : decode cX7_current 30 = .ok (.getfield 13, 3) := by decide +kernel
theorem dX7_current_33 : decode cX7_current 33 = .ok (.iload_n 1, 1) := by decide +kernel
theorem dX7_current_34 : decode cX7_current 34 = .ok (.iload_n 2, 1) := by decide +kernel
theorem dX7_current_35 : decode cX7_current 35 = .ok (.iastore, 1) := by decide +kernel
theorem dX7_current_36 : decode cX7_current 36 = .ok (.aload_n 0, 1) := by decide +kernel
theorem dX7_current_37 : decode cX7_current 37 = .ok (.iconst 0, 1) := by decide +kernel
theorem dX7_current_38 : decode cX7_current 38 = .ok (.putfield 103, 3) := by decide +kernel
theorem dX7_current_41 : decode cX7_current 41 = .ok (.iload_n 3, 1) := by decide +kernel
theorem dX7_current_42 : decode cX7_current 42 = .ok (.ireturn, 1) := by decide +kernel
theorem dX7_addSoul_0 : decode cX7_addSoul 0 = .ok (.aload_n 0, 1) := by decide +kernel
theorem dX7_addSoul_1 : decode cX7_addSoul 1 = .ok (.getfield 16, 3) := by decide +kernel
theorem dX7_addSoul_4 : decode cX7_addSoul 4 = .ok (.aload_n 0, 1) := by decide +kernel
theorem dX7_addSoul_5 : decode cX7_addSoul 5 = .ok (.getfield 81, 3) := by decide +kernel
theorem dX7_addSoul_8 : decode cX7_addSoul 8 = .ok (.iload_n 1, 1) := by decide +kernel
theorem dX7_addSoul_9 : decode cX7_addSoul 9 = .ok (.iastore, 1) := by decide +kernel
theorem dX7_addSoul_10 : decode cX7_addSoul 10 = .ok (.aload_n 0, 1) := by decide +kernel
theorem dX7_addSoul_11 : decode cX7_addSoul 11 = .ok (.getfield 19, 3) := by decide +kernel
theorem dX7_addSoul_14 : decode cX7_addSoul 14 = .ok (.aload_n 0, 1) := by decide +kernel
theorem dX7_addSoul_15 : decode cX7_addSoul 15 = .ok (.getfield 81, 3) := by decide +kernel
theorem dX7_addSoul_18 : decode cX7_addSoul 18 = .ok (.iload_n 2, 1) := by decide +kernel
theorem dX7_addSoul_19 : decode cX7_addSoul 19 = .ok (.iastore, 1) := by decide +kernel
theorem dX7_addSoul_20 : decode cX7_addSoul 20 = .ok (.aload_n 0, 1) := by decide +kernel
theorem dX7_addSoul_21 : decode cX7_addSoul 21 = .ok (.getfield 22, 3) := by decide +kernel
theorem dX7_addSoul_24 : decode cX7_addSoul 24 = .ok (.aload_n 0, 1) := by decide +kernel
theorem dX7_addSoul_25 : decode cX7_addSoul 25 = .ok (.getfield 81, 3) := by decide +kernel
theorem dX7_addSoul_28 : decode cX7_addSoul 28 = .ok (.iload_n 3, 1) := by decide +kernel
theorem dX7_addSoul_29 : decode cX7_addSoul 29 = .ok (.iastore, 1) := by decide +kernel
theorem dX7_addSoul_30 : decode cX7_addSoul 30 = .ok (.aload_n 0, 1) := by decide +kernel
theorem dX7_addSoul_31 : decode cX7_addSoul 31 = .ok (.getfield 25, 3) := by decide +kernel
theorem dX7_addSoul_34 : decode cX7_addSoul 34 = .ok (.aload_n 0, 1) := by decide +kernel
theorem dX7_addSoul_35 : decode cX7_addSoul 35 = .ok (.getfield 81, 3) := by decide +kernel
theorem dX7_addSoul_38 : decode cX7_addSoul 38 = .ok (.iconst (-1), 1) := by decide +kernel
theorem dX7_addSoul_39 : decode cX7_addSoul 39 = .ok (.iastore, 1) := by decide +kernel
theorem dX7_addSoul_40 : decode cX7_addSoul 40 = .ok (.aload_n 0, 1) := by decide +kernel
theorem dX7_addSoul_41 : decode cX7_addSoul 41 = .ok (.getfield 28, 3) := by decide +kernel
theorem dX7_addSoul_44 : decode cX7_addSoul 44 = .ok (.aload_n 0, 1) := by decide +kernel
theorem dX7_addSoul_45 : decode cX7_addSoul 45 = .ok (.getfield 81, 3) := by decide +kernel
theorem dX7_addSoul_48 : decode cX7_addSoul 48 = .ok (.iconst 0, 1) := by decide +kernel
theorem dX7_addSoul_49 : decode cX7_addSoul 49 = .ok (.iastore, 1) := by decide +kernel
theorem dX7_addSoul_50 : decode cX7_addSoul 50 = .ok (.aload_n 0, 1) := by decide +kernel
theorem dX7_addSoul_51 : decode cX7_addSoul 51 = .ok (.dup, 1) := by decide +kernel
theorem dX7_addSoul_52 : decode cX7_addSoul 52 = .ok (.getfield 81, 3) := by decide +kernel
theorem dX7_addSoul_55 : decode cX7_addSoul 55 = .ok (.iconst 1, 1) := by decide +kernel
theorem dX7_addSoul_56 : decode cX7_addSoul 56 = .ok (.iadd, 1) := by decide +kernel
theorem dX7_addSoul_57 : decode cX7_addSoul 57 = .ok (.putfield 81, 3) := by decide +kernel
theorem dX7_addSoul_60 : decode cX7_addSoul 60 = .ok (.aload_n 0, 1) := by decide +kernel
theorem dX7_addSoul_61 : decode cX7_addSoul 61 = .ok (.iconst 0, 1) := by decide +kernel
theorem dX7_addSoul_62 : decode cX7_addSoul 62 = .ok (.putfield 103, 3) := by decide +kernel
theorem dX7_addSoul_65 : decode cX7_addSoul 65 = .ok (.aload_n 0, 1) := by decide +kernel
theorem dX7_addSoul_66 : decode cX7_addSoul 66 = .ok (.getfield 81, 3) := by decide +kernel
theorem dX7_addSoul_69 : decode cX7_addSoul 69 = .ok (.iconst 1, 1) := by decide +kernel
theorem dX7_addSoul_70 : decode cX7_addSoul 70 = .ok (.isub, 1) := by decide +kernel
theorem dX7_addSoul_71 : decode cX7_addSoul 71 = .ok (.ireturn, 1) := by decide +kernel
theorem dX7_soul_0 : decode cX7_soul 0 = .ok (.iload_n 1, 1) := by decide +kernel
theorem dX7_soul_1 : decode cX7_soul 1 = .ok (.iconst 0, 1) := by decide +kernel
theorem dX7_soul_2 : decode cX7_soul 2 = .ok (.iconst 5, 1) := by decide +kernel
theorem dX7_soul_3 : decode cX7_soul 3 = .ok (.invokestatic 106, 3) := by decide +kernel
theorem dX7_soul_6 : decode cX7_soul 6 = .ok (.ifCond .eq 20, 3) := by decide +kernel
theorem dX7_soul_9 : decode cX7_soul 9 = .ok (.iload_n 2, 1) := by decide +kernel
theorem dX7_soul_10 : decode cX7_soul 10 = .ok (.iconst 1, 1) := by decide +kernel
theorem dX7_soul_11 : decode cX7_soul 11 = .ok (.bipush 9, 2) := by decide +kernel
theorem dX7_soul_13 : decode cX7_soul 13 = .ok (.invokestatic 106, 3) := by decide +kernel
theorem dX7_soul_16 : decode cX7_soul 16 = .ok (.ifCond .eq 10, 3) := by decide +kernel
theorem dX7_soul_19 : decode cX7_soul 19 = .ok (.iload_n 3, 1) := by decide +kernel
theorem dX7_soul_20 : decode cX7_soul 20 = .ok (.invokestatic 114, 3) := by decide +kernel
theorem dX7_soul_23 : decode cX7_soul 23 = .ok (.ifCond .ne 8, 3) := by decide +kernel
theorem dX7_soul_26 : decode cX7_soul 26 = .ok (.aload_n 0, 1) := by decide +kernel
theorem dX7_soul_27 : decode cX7_soul 27 = .ok (.invokevirtual 110, 3) := by decide +kernel
theorem dX7_soul_30 : decode cX7_soul 30 = .ok (.ireturn, 1) := by decide +kernel
theorem dX7_soul_31 : decode cX7_soul 31 = .ok (.aload_n 0, 1) := by decide +kernel
theorem dX7_soul_32 : decode cX7_soul 32 = .ok (.getfield 81, 3) := by decide +kernel
theorem dX7_soul_35 : decode cX7_soul 35 = .ok (.bipush 6, 2) := by decide +kernel
theorem dX7_soul_37 : decode cX7_soul 37 = .ok (.if_icmp .ne 10, 3) := by decide +kernel
theorem dX7_soul_40 : decode cX7_soul 40 = .ok (.aload_n 0, 1) := by decide +kernel
theorem dX7_soul_41 : decode cX7_soul 41 = .ok (.invokevirtual 121, 3) := by decide +kernel
theorem dX7_soul_44 : decode cX7_soul 44 = .ok (.goto 10, 3) := by decide +kernel
theorem dX7_soul_47 : decode cX7_soul 47 = .ok (.aload_n 0, 1) := by decide +kernel
theorem dX7_soul_48 : decode cX7_soul 48 = .ok (.iload_n 1, 1) := by decide +kernel
theorem dX7_soul_49 : decode cX7_soul 49 = .ok (.iload_n 2, 1) := by decide +kernel
theorem dX7_soul_50 : decode cX7_soul 50 = .ok (.iload_n 3, 1) := by decide +kernel
theorem dX7_soul_51 : decode cX7_soul 51 = .ok (.invokevirtual 124, 3) := by decide +kernel
theorem dX7_soul_54 : decode cX7_soul 54 = .ok (.ireturn, 1) := by decide +kernel
theorem dX7_addCaller_0 : decode cX7_addCaller 0 = .ok (.aload_n 0, 1) := by decide +kernel
theorem dX7_addCaller_1 : decode cX7_addCaller 1 = .ok (.getfield 31, 3) := by decide +kernel
theorem dX7_addCaller_4 : decode cX7_addCaller 4 = .ok (.aload_n 0, 1) := by decide +kernel
theorem dX7_addCaller_5 : decode cX7_addCaller 5 = .ok (.getfield 85, 3) := by decide +kernel
theorem dX7_addCaller_8 : decode cX7_addCaller 8 = .ok (.iload_n 1, 1) := by decide +kernel
theorem dX7_addCaller_9 : decode cX7_addCaller 9 = .ok (.iastore, 1) := by decide +kernel
theorem dX7_addCaller_10 : decode cX7_addCaller 10 = .ok (.aload_n 0, 1) := by decide +kernel
theorem dX7_addCaller_11 : decode cX7_addCaller 11 = .ok (.dup, 1) := by decide +kernel
theorem dX7_addCaller_12 : decode cX7_addCaller 12 = .ok (.getfield 85, 3) := by decide +kernel
theorem dX7_addCaller_15 : decode cX7_addCaller 15 = .ok (.iconst 1, 1) := by decide +kernel
theorem dX7_addCaller_16 : decode cX7_addCaller 16 = .ok (.iadd, 1) := by decide +kernel
theorem dX7_addCaller_17 : decode cX7_addCaller 17 = .ok (.putfield 85, 3) := by decide +kernel
theorem dX7_addCaller_20 : decode cX7_addCaller 20 = .ok (.aload_n 0, 1) := by decide +kernel
theorem dX7_addCaller_21 : decode cX7_addCaller 21 = .ok (.iconst 0, 1) := by decide +kernel
theorem dX7_addCaller_22 : decode cX7_addCaller 22 = .ok (.putfield 103, 3) := by decide +kernel
theorem dX7_addCaller_25 : decode cX7_addCaller 25 = .ok (.aload_n 0, 1) := by decide +kernel
theorem dX7_addCaller_26 : decode cX7_addCaller 26 = .ok (.getfield 85, 3) := by decide +kernel
theorem dX7_addCaller_29 : decode cX7_addCaller 29 = .ok (.iconst 1, 1) := by decide +kernel
theorem dX7_addCaller_30 : decode cX7_addCaller 30 = .ok (.isub, 1) := by decide +kernel
theorem dX7_addCaller_31 : decode cX7_addCaller 31 = .ok (.ireturn, 1) := by decide +kernel
theorem dX7_caller_0 : decode cX7_caller 0 = .ok (.iload_n 1, 1) := by decide +kernel
theorem dX7_caller_1 : decode cX7_caller 1 = .ok (.iconst 0, 1) := by decide +kernel
theorem dX7_caller_2 : decode cX7_caller 2 = .ok (.iconst 5, 1) := by decide +kernel
theorem dX7_caller_3 : decode cX7_caller 3 = .ok (.invokestatic 106, 3) := by decide +kernel
theorem dX7_caller_6 : decode cX7_caller 6 = .ok (.ifCond .ne 8, 3) := by decide +kernel
theorem dX7_caller_9 : decode cX7_caller 9 = .ok (.aload_n 0, 1) := by decide +kernel
theorem dX7_caller_10 : decode cX7_caller 10 = .ok (.invokevirtual 110, 3) := by decide +kernel
theorem dX7_caller_13 : decode cX7_caller 13 = .ok (.ireturn, 1) := by decide +kernel
theorem dX7_caller_14 : decode cX7_caller 14 = .ok (.aload_n 0, 1) := by decide +kernel
theorem dX7_caller_15 : decode cX7_caller 15 = .ok (.getfield 85, 3) := by decide +kernel
theorem dX7_caller_18 : decode cX7_caller 18 = .ok (.bipush 6, 2) := by decide +kernel
theorem dX7_caller_20 : decode cX7_caller 20 = .ok (.if_icmp .ne 10, 3) := by decide +kernel
theorem dX7_caller_23 : decode cX7_caller 23 = .ok (.aload_n 0, 1) := by decide +kernel
theorem dX7_caller_24 : decode cX7_caller 24 = .ok (.invokevirtual 121, 3) := by decide +kernel
theorem dX7_caller_27 : decode cX7_caller 27 = .ok (.goto 8, 3) := by decide +kernel
theorem dX7_caller_30 : decode cX7_caller 30 = .ok (.aload_n 0, 1) := by decide +kernel
theorem dX7_caller_31 : decode cX7_caller 31 = .ok (.iload_n 1, 1) := by decide +kernel
theorem dX7_caller_32 : decode cX7_caller 32 = .ok (.invokevirtual 128, 3) := by decide +kernel
theorem dX7_caller_35 : decode cX7_caller 35 = .ok (.ireturn, 1) := by decide +kernel
theorem dX7_type_0 : decode cX7_type 0 = .ok (.iload_n 1, 1) := by decide +kernel
theorem dX7_type_1 : decode cX7_type 1 = .ok (.iconst 0, 1) := by decide +kernel
theorem dX7_type_2 : decode cX7_type 2 = .ok (.bipush 127, 2) := by decide +kernel
theorem dX7_type_4 : decode cX7_type 4 = .ok (.invokestatic 106, 3) := by decide +kernel
theorem dX7_type_7 : decode cX7_type 7 = .ok (.ifCond .ne 8, 3) := by decide +kernel
theorem dX7_type_10 : decode cX7_type 10 = .ok (.aload_n 0, 1) := by decide +kernel
theorem dX7_type_11 : decode cX7_type 11 = .ok (.invokevirtual 110, 3) := by decide +kernel
theorem dX7_type_14 : decode cX7_type 14 = .ok (.ireturn, 1) := by decide +kernel
theorem dX7_type_15 : decode cX7_type 15 = .ok (.aload_n 0, 1) := by decide +kernel
theorem dX7_type_16 : decode cX7_type 16 = .ok (.getfield 132, 3) := by decide +kernel
theorem dX7_type_19 : decode cX7_type 19 = .ok (.sipush 150, 3) := by decide +kernel
theorem dX7_type_22 : decode cX7_type 22 = .ok (.if_icmp .ne 8, 3) := by decide +kernel
theorem dX7_type_25 : decode cX7_type 25 = .ok (.aload_n 0, 1) := by decide +kernel
theorem dX7_type_26 : decode cX7_type 26 = .ok (.invokevirtual 121, 3) := by decide +kernel
theorem dX7_type_29 : decode cX7_type 29 = .ok (.ireturn, 1) := by decide +kernel
theorem dX7_type_30 : decode cX7_type 30 = .ok (.aload_n 0, 1) := by decide +kernel
theorem dX7_type_31 : decode cX7_type 31 = .ok (.getfield 43, 3) := by decide +kernel
theorem dX7_type_34 : decode cX7_type 34 = .ok (.aload_n 0, 1) := by decide +kernel
theorem dX7_type_35 : decode cX7_type 35 = .ok (.getfield 132, 3) := by decide +kernel
theorem dX7_type_38 : decode cX7_type 38 = .ok (.iload_n 1, 1) := by decide +kernel
theorem dX7_type_39 : decode cX7_type 39 = .ok (.iastore, 1) := by decide +kernel
theorem dX7_type_40 : decode cX7_type 40 = .ok (.aload_n 0, 1) := by decide +kernel
theorem dX7_type_41 : decode cX7_type 41 = .ok (.dup, 1) := by decide +kernel
theorem dX7_type_42 : decode cX7_type 42 = .ok (.getfield 132, 3) := by decide +kernel
theorem dX7_type_45 : decode cX7_type 45 = .ok (.iconst 1, 1) := by decide +kernel
theorem dX7_type_46 : decode cX7_type 46 = .ok (.iadd, 1) := by decide +kernel
theorem dX7_type_47 : decode cX7_type 47 = .ok (.putfield 132, 3) := by decide +kernel
theorem dX7_type_50 : decode cX7_type 50 = .ok (.aload_n 0, 1) := by decide +kernel
theorem dX7_type_51 : decode cX7_type 51 = .ok (.getfield 132, 3) := by decide +kernel
theorem dX7_type_54 : decode cX7_type 54 = .ok (.ireturn, 1) := by decide +kernel
theorem dX7_clear_0 : decode cX7_clear 0 = .ok (.aload_n 0, 1) := by decide +kernel
theorem dX7_clear_1 : decode cX7_clear 1 = .ok (.getfield 132, 3) := by decide +kernel
theorem dX7_clear_4 : decode cX7_clear 4 = .ok (.istore_n 1, 1) := by decide +kernel
theorem dX7_clear_5 : decode cX7_clear 5 = .ok (.aload_n 0, 1) := by decide +kernel
theorem dX7_clear_6 : decode cX7_clear 6 = .ok (.iconst 0, 1) := by decide +kernel
theorem dX7_clear_7 : decode cX7_clear 7 = .ok (.putfield 132, 3) := by decide +kernel
theorem dX7_clear_10 : decode cX7_clear 10 = .ok (.iload_n 1, 1) := by decide +kernel
theorem dX7_clear_11 : decode cX7_clear 11 = .ok (.ireturn, 1) := by decide +kernel
theorem dX7_here_0 : decode cX7_here 0 = .ok (.aload_n 0, 1) := by decide +kernel
theorem dX7_here_1 : decode cX7_here 1 = .ok (.getfield 135, 3) := by decide +kernel
theorem dX7_here_4 : decode cX7_here 4 = .ok (.aload_n 0, 1) := by decide +kernel
theorem dX7_here_5 : decode cX7_here 5 = .ok (.getfield 132, 3) := by decide +kernel
theorem dX7_here_8 : decode cX7_here 8 = .ok (.if_icmp .ge 15, 3) := by decide +kernel
theorem dX7_here_11 : decode cX7_here 11 = .ok (.aload_n 0, 1) := by decide +kernel
theorem dX7_here_12 : decode cX7_here 12 = .ok (.getfield 43, 3) := by decide +kernel
theorem dX7_here_15 : decode cX7_here 15 = .ok (.aload_n 0, 1) := by decide +kernel
theorem dX7_here_16 : decode cX7_here 16 = .ok (.getfield 135, 3) := by decide +kernel
theorem dX7_here_19 : decode cX7_here 19 = .ok (.iaload, 1) := by decide +kernel
theorem dX7_here_20 : decode cX7_here 20 = .ok (.goto 4, 3) := by decide +kernel
theorem dX7_here_23 : decode cX7_here 23 = .ok (.iconst (-1), 1) := by decide +kernel
theorem dX7_here_24 : decode cX7_here 24 = .ok (.ireturn, 1) := by decide +kernel
theorem dX7_skip_0 : decode cX7_skip 0 = .ok (.aload_n 0, 1) := by decide +kernel
theorem dX7_skip_1 : decode cX7_skip 1 = .ok (.invokevirtual 138, 3) := by decide +kernel
theorem dX7_skip_4 : decode cX7_skip 4 = .ok (.bipush 32, 2) := by decide +kernel
theorem dX7_skip_6 : decode cX7_skip 6 = .ok (.if_icmp .ne 16, 3) := by decide +kernel
theorem dX7_skip_9 : decode cX7_skip 9 = .ok (.aload_n 0, 1) := by decide +kernel
theorem dX7_skip_10 : decode cX7_skip 10 = .ok (.dup, 1) := by decide +kernel
theorem dX7_skip_11 : decode cX7_skip 11 = .ok (.getfield 135, 3) := by decide +kernel
theorem dX7_skip_14 : decode cX7_skip 14 = .ok (.iconst 1, 1) := by decide +kernel
theorem dX7_skip_15 : decode cX7_skip 15 = .ok (.iadd, 1) := by decide +kernel
theorem dX7_skip_16 : decode cX7_skip 16 = .ok (.putfield 135, 3) := by decide +kernel
theorem dX7_skip_19 : decode cX7_skip 19 = .ok (.goto (-19), 3) := by decide +kernel
theorem dX7_skip_22 : decode cX7_skip 22 = .ok (.return_, 1) := by decide +kernel
theorem dX7_isLetter_0 : decode cX7_isLetter 0 = .ok (.iload_n 0, 1) := by decide +kernel
theorem dX7_isLetter_1 : decode cX7_isLetter 1 = .ok (.bipush 97, 2) := by decide +kernel
theorem dX7_isLetter_3 : decode cX7_isLetter 3 = .ok (.bipush 122, 2) := by decide +kernel
theorem dX7_isLetter_5 : decode cX7_isLetter 5 = .ok (.invokestatic 106, 3) := by decide +kernel
theorem dX7_isLetter_8 : decode cX7_isLetter 8 = .ok (.ireturn, 1) := by decide +kernel
theorem dX7_isFigure_0 : decode cX7_isFigure 0 = .ok (.iload_n 0, 1) := by decide +kernel
theorem dX7_isFigure_1 : decode cX7_isFigure 1 = .ok (.bipush 48, 2) := by decide +kernel
theorem dX7_isFigure_3 : decode cX7_isFigure 3 = .ok (.bipush 57, 2) := by decide +kernel
theorem dX7_isFigure_5 : decode cX7_isFigure 5 = .ok (.invokestatic 106, 3) := by decide +kernel
theorem dX7_isFigure_8 : decode cX7_isFigure 8 = .ok (.ireturn, 1) := by decide +kernel
theorem dX7_wordSize_0 : decode cX7_wordSize 0 = .ok (.iconst 0, 1) := by decide +kernel
theorem dX7_wordSize_1 : decode cX7_wordSize 1 = .ok (.istore_n 1, 1) := by decide +kernel
theorem dX7_wordSize_2 : decode cX7_wordSize 2 = .ok (.aload_n 0, 1) := by decide +kernel
theorem dX7_wordSize_3 : decode cX7_wordSize 3 = .ok (.getfield 135, 3) := by decide +kernel
theorem dX7_wordSize_6 : decode cX7_wordSize 6 = .ok (.iload_n 1, 1) := by decide +kernel
theorem dX7_wordSize_7 : decode cX7_wordSize 7 = .ok (.iadd, 1) := by decide +kernel
theorem dX7_wordSize_8 : decode cX7_wordSize 8 = .ok (.aload_n 0, 1) := by decide +kernel
theorem dX7_wordSize_9 : decode cX7_wordSize 9 = .ok (.getfield 132, 3) := by decide +kernel
theorem dX7_wordSize_12 : decode cX7_wordSize 12 = .ok (.if_icmp .ge 26, 3) := by decide +kernel
theorem dX7_wordSize_15 : decode cX7_wordSize 15 = .ok (.aload_n 0, 1) := by decide +kernel
theorem dX7_wordSize_16 : decode cX7_wordSize 16 = .ok (.getfield 43, 3) := by decide +kernel
theorem dX7_wordSize_19 : decode cX7_wordSize 19 = .ok (.aload_n 0, 1) := by decide +kernel
theorem dX7_wordSize_20 : decode cX7_wordSize 20 = .ok (.getfield 135, 3) := by decide +kernel
theorem dX7_wordSize_23 : decode cX7_wordSize 23 = .ok (.iload_n 1, 1) := by decide +kernel
theorem dX7_wordSize_24 : decode cX7_wordSize 24 = .ok (.iadd, 1) := by decide +kernel
theorem dX7_wordSize_25 : decode cX7_wordSize 25 = .ok (.iaload, 1) := by decide +kernel
theorem dX7_wordSize_26 : decode cX7_wordSize 26 = .ok (.invokestatic 141, 3) := by decide +kernel
theorem dX7_wordSize_29 : decode cX7_wordSize 29 = .ok (.ifCond .eq 9, 3) := by decide +kernel
theorem dX7_wordSize_32 : decode cX7_wordSize 32 = .ok (.iinc 1 1, 3) := by decide +kernel
theorem dX7_wordSize_35 : decode cX7_wordSize 35 = .ok (.goto (-33), 3) := by decide +kernel
theorem dX7_wordSize_38 : decode cX7_wordSize 38 = .ok (.iload_n 1, 1) := by decide +kernel
theorem dX7_wordSize_39 : decode cX7_wordSize 39 = .ok (.ireturn, 1) := by decide +kernel
theorem dX7_letter_0 : decode cX7_letter 0 = .ok (.aload_n 0, 1) := by decide +kernel
theorem dX7_letter_1 : decode cX7_letter 1 = .ok (.getfield 43, 3) := by decide +kernel
theorem dX7_letter_4 : decode cX7_letter 4 = .ok (.aload_n 0, 1) := by decide +kernel
theorem dX7_letter_5 : decode cX7_letter 5 = .ok (.getfield 135, 3) := by decide +kernel
theorem dX7_letter_8 : decode cX7_letter 8 = .ok (.iload_n 1, 1) := by decide +kernel
theorem dX7_letter_9 : decode cX7_letter 9 = .ok (.iadd, 1) := by decide +kernel
theorem dX7_letter_10 : decode cX7_letter 10 = .ok (.iaload, 1) := by decide +kernel
theorem dX7_letter_11 : decode cX7_letter 11 = .ok (.ireturn, 1) := by decide +kernel
theorem dX7_wordHere_0 : decode cX7_wordHere 0 = .ok (.aload_n 0, 1) := by decide +kernel
theorem dX7_wordHere_1 : decode cX7_wordHere 1 = .ok (.invokevirtual 144, 3) := by decide +kernel
theorem dX7_wordHere_4 : decode cX7_wordHere 4 = .ok (.istore_n 1, 1) := by decide +kernel
theorem dX7_wordHere_5 : decode cX7_wordHere 5 = .ok (.iload_n 1, 1) := by decide +kernel
theorem dX7_wordHere_6 : decode cX7_wordHere 6 = .ok (.iconst 4, 1) := by decide +kernel
theorem dX7_wordHere_7 : decode cX7_wordHere 7 = .ok (.if_icmp .ne 133, 3) := by decide +kernel
theorem dX7_wordHere_10 : decode cX7_wordHere 10 = .ok (.aload_n 0, 1) := by decide +kernel
theorem dX7_wordHere_11 : decode cX7_wordHere 11 = .ok (.iconst 0, 1) := by decide +kernel
theorem dX7_wordHere_12 : decode cX7_wordHere 12 = .ok (.invokevirtual 147, 3) := by decide +kernel
theorem dX7_wordHere_15 : decode cX7_wordHere 15 = .ok (.bipush 115, 2) := by decide +kernel
theorem dX7_wordHere_17 : decode cX7_wordHere 17 = .ok (.if_icmp .ne 35, 3) := by decide +kernel
theorem dX7_wordHere_20 : decode cX7_wordHere 20 = .ok (.aload_n 0, 1) := by decide +kernel
theorem dX7_wordHere_21 : decode cX7_wordHere 21 = .ok (.iconst 1, 1) := by decide +kernel
theorem dX7_wordHere_22 : decode cX7_wordHere 22 = .ok (.invokevirtual 147, 3) := by decide +kernel
theorem dX7_wordHere_25 : decode cX7_wordHere 25 = .ok (.bipush 111, 2) := by decide +kernel
theorem dX7_wordHere_27 : decode cX7_wordHere 27 = .ok (.if_icmp .ne 25, 3) := by decide +kernel
theorem dX7_wordHere_30 : decode cX7_wordHere 30 = .ok (.aload_n 0, 1) := by decide +kernel
theorem dX7_wordHere_31 : decode cX7_wordHere 31 = .ok (.iconst 2, 1) := by decide +kernel
theorem dX7_wordHere_32 : decode cX7_wordHere 32 = .ok (.invokevirtual 147, 3) := by decide +kernel
theorem dX7_wordHere_35 : decode cX7_wordHere 35 = .ok (.bipush 117, 2) := by decide +kernel
theorem dX7_wordHere_37 : decode cX7_wordHere 37 = .ok (.if_icmp .ne 15, 3) := by decide +kernel
theorem dX7_wordHere_40 : decode cX7_wordHere 40 = .ok (.aload_n 0, 1) := by decide +kernel
theorem dX7_wordHere_41 : decode cX7_wordHere 41 = .ok (.iconst 3, 1) := by decide +kernel
theorem dX7_wordHere_42 : decode cX7_wordHere 42 = .ok (.invokevirtual 147, 3) := by decide +kernel
theorem dX7_wordHere_45 : decode cX7_wordHere 45 = .ok (.bipush 108, 2) := by decide +kernel
theorem dX7_wordHere_47 : decode cX7_wordHere 47 = .ok (.if_icmp .ne 5, 3) := by decide +kernel
theorem dX7_wordHere_50 : decode cX7_wordHere 50 = .ok (.iconst 1, 1) := by decide +kernel
theorem dX7_wordHere_51 : decode cX7_wordHere 51 = .ok (.ireturn, 1) := by decide +kernel
theorem dX7_wordHere_52 : decode cX7_wordHere 52 = .ok (.aload_n 0, 1) := by decide +kernel
theorem dX7_wordHere_53 : decode cX7_wordHere 53 = .ok (.iconst 0, 1) := by decide +kernel
theorem dX7_wordHere_54 : decode cX7_wordHere 54 = .ok (.invokevirtual 147, 3) := by decide +kernel
theorem dX7_wordHere_57 : decode cX7_wordHere 57 = .ok (.bipush 119, 2) := by decide +kernel
theorem dX7_wordHere_59 : decode cX7_wordHere 59 = .ok (.if_icmp .ne 35, 3) := by decide +kernel
theorem dX7_wordHere_62 : decode cX7_wordHere 62 = .ok (.aload_n 0, 1) := by decide +kernel
theorem dX7_wordHere_63 : decode cX7_wordHere 63 = .ok (.iconst 1, 1) := by decide +kernel
theorem dX7_wordHere_64 : decode cX7_wordHere 64 = .ok (.invokevirtual 147, 3) := by decide +kernel
theorem dX7_wordHere_67 : decode cX7_wordHere 67 = .ok (.bipush 97, 2) := by decide +kernel
theorem dX7_wordHere_69 : decode cX7_wordHere 69 = .ok (.if_icmp .ne 25, 3) := by decide +kernel
theorem dX7_wordHere_72 : decode cX7_wordHere 72 = .ok (.aload_n 0, 1) := by decide +kernel
theorem dX7_wordHere_73 : decode cX7_wordHere 73 = .ok (.iconst 2, 1) := by decide +kernel
theorem dX7_wordHere_74 : decode cX7_wordHere 74 = .ok (.invokevirtual 147, 3) := by decide +kernel
theorem dX7_wordHere_77 : decode cX7_wordHere 77 = .ok (.bipush 108, 2) := by decide +kernel
theorem dX7_wordHere_79 : decode cX7_wordHere 79 = .ok (.if_icmp .ne 15, 3) := by decide +kernel
theorem dX7_wordHere_82 : decode cX7_wordHere 82 = .ok (.aload_n 0, 1) := by decide +kernel
theorem dX7_wordHere_83 : decode cX7_wordHere 83 = .ok (.iconst 3, 1) := by decide +kernel
theorem dX7_wordHere_84 : decode cX7_wordHere 84 = .ok (.invokevirtual 147, 3) := by decide +kernel
theorem dX7_wordHere_87 : decode cX7_wordHere 87 = .ok (.bipush 107, 2) := by decide +kernel
theorem dX7_wordHere_89 : decode cX7_wordHere 89 = .ok (.if_icmp .ne 5, 3) := by decide +kernel
theorem dX7_wordHere_92 : decode cX7_wordHere 92 = .ok (.iconst 3, 1) := by decide +kernel
theorem dX7_wordHere_93 : decode cX7_wordHere 93 = .ok (.ireturn, 1) := by decide +kernel
theorem dX7_wordHere_94 : decode cX7_wordHere 94 = .ok (.aload_n 0, 1) := by decide +kernel
theorem dX7_wordHere_95 : decode cX7_wordHere 95 = .ok (.iconst 0, 1) := by decide +kernel
theorem dX7_wordHere_96 : decode cX7_wordHere 96 = .ok (.invokevirtual 147, 3) := by decide +kernel
theorem dX7_wordHere_99 : decode cX7_wordHere 99 = .ok (.bipush 99, 2) := by decide +kernel
theorem dX7_wordHere_101 : decode cX7_wordHere 101 = .ok (.if_icmp .ne 37, 3) := by decide +kernel
theorem dX7_wordHere_104 : decode cX7_wordHere 104 = .ok (.aload_n 0, 1) := by decide +kernel
theorem dX7_wordHere_105 : decode cX7_wordHere 105 = .ok (.iconst 1, 1) := by decide +kernel
theorem dX7_wordHere_106 : decode cX7_wordHere 106 = .ok (.invokevirtual 147, 3) := by decide +kernel
theorem dX7_wordHere_109 : decode cX7_wordHere 109 = .ok (.bipush 97, 2) := by decide +kernel
theorem dX7_wordHere_111 : decode cX7_wordHere 111 = .ok (.if_icmp .ne 27, 3) := by decide +kernel
theorem dX7_wordHere_114 : decode cX7_wordHere 114 = .ok (.aload_n 0, 1) := by decide +kernel
theorem dX7_wordHere_115 : decode cX7_wordHere 115 = .ok (.iconst 2, 1) := by decide +kernel
theorem dX7_wordHere_116 : decode cX7_wordHere 116 = .ok (.invokevirtual 147, 3) := by decide +kernel
theorem dX7_wordHere_119 : decode cX7_wordHere 119 = .ok (.bipush 108, 2) := by decide +kernel
theorem dX7_wordHere_121 : decode cX7_wordHere 121 = .ok (.if_icmp .ne 17, 3) := by decide +kernel
theorem dX7_wordHere_124 : decode cX7_wordHere 124 = .ok (.aload_n 0, 1) := by decide +kernel
theorem dX7_wordHere_125 : decode cX7_wordHere 125 = .ok (.iconst 3, 1) := by decide +kernel
theorem dX7_wordHere_126 : decode cX7_wordHere 126 = .ok (.invokevirtual 147, 3) := by decide +kernel
theorem dX7_wordHere_129 : decode cX7_wordHere 129 = .ok (.bipush 108, 2) := by decide +kernel
theorem dX7_wordHere_131 : decode cX7_wordHere 131 = .ok (.if_icmp .ne 7, 3) := by decide +kernel
theorem dX7_wordHere_134 : decode cX7_wordHere 134 = .ok (.iconst 4, 1) := by decide +kernel
theorem dX7_wordHere_135 : decode cX7_wordHere 135 = .ok (.goto 4, 3) := by decide +kernel
theorem dX7_wordHere_138 : decode cX7_wordHere 138 = .ok (.iconst (-1), 1) := by decide +kernel
theorem dX7_wordHere_139 : decode cX7_wordHere 139 = .ok (.ireturn, 1) := by decide +kernel
theorem dX7_wordHere_140 : decode cX7_wordHere 140 = .ok (.iload_n 1, 1) := by decide +kernel
theorem dX7_wordHere_141 : decode cX7_wordHere 141 = .ok (.iconst 5, 1) := by decide +kernel
theorem dX7_wordHere_142 : decode cX7_wordHere 142 = .ok (.if_icmp .ne 111, 3) := by decide +kernel
theorem dX7_wordHere_145 : decode cX7_wordHere 145 = .ok (.aload_n 0, 1) := by decide +kernel
theorem dX7_wordHere_146 : decode cX7_wordHere 146 = .ok (.iconst 0, 1) := by decide +kernel
theorem dX7_wordHere_147 : decode cX7_wordHere 147 = .ok (.invokevirtual 147, 3) := by decide +kernel
theorem dX7_wordHere_150 : decode cX7_wordHere 150 = .ok (.bipush 115, 2) := by decide +kernel
theorem dX7_wordHere_152 : decode cX7_wordHere 152 = .ok (.if_icmp .ne 45, 3) := by decide +kernel
theorem dX7_wordHere_155 : decode cX7_wordHere 155 = .ok (.aload_n 0, 1) := by decide +kernel
theorem dX7_wordHere_156 : decode cX7_wordHere 156 = .ok (.iconst 1, 1) := by decide +kernel
theorem dX7_wordHere_157 : decode cX7_wordHere 157 = .ok (.invokevirtual 147, 3) := by decide +kernel
theorem dX7_wordHere_160 : decode cX7_wordHere 160 = .ok (.bipush 104, 2) := by decide +kernel
theorem dX7_wordHere_162 : decode cX7_wordHere 162 = .ok (.if_icmp .ne 35, 3) := by decide +kernel
theorem dX7_wordHere_165 : decode cX7_wordHere 165 = .ok (.aload_n 0, 1) := by decide +kernel
theorem dX7_wordHere_166 : decode cX7_wordHere 166 = .ok (.iconst 2, 1) := by decide +kernel
theorem dX7_wordHere_167 : decode cX7_wordHere 167 = .ok (.invokevirtual 147, 3) := by decide +kernel
theorem dX7_wordHere_170 : decode cX7_wordHere 170 = .ok (.bipush 111, 2) := by decide +kernel
theorem dX7_wordHere_172 : decode cX7_wordHere 172 = .ok (.if_icmp .ne 25, 3) := by decide +kernel
theorem dX7_wordHere_175 : decode cX7_wordHere 175 = .ok (.aload_n 0, 1) := by decide +kernel
theorem dX7_wordHere_176 : decode cX7_wordHere 176 = .ok (.iconst 3, 1) := by decide +kernel
theorem dX7_wordHere_177 : decode cX7_wordHere 177 = .ok (.invokevirtual 147, 3) := by decide +kernel
theorem dX7_wordHere_180 : decode cX7_wordHere 180 = .ok (.bipush 114, 2) := by decide +kernel
theorem dX7_wordHere_182 : decode cX7_wordHere 182 = .ok (.if_icmp .ne 15, 3) := by decide +kernel
theorem dX7_wordHere_185 : decode cX7_wordHere 185 = .ok (.aload_n 0, 1) := by decide +kernel
theorem dX7_wordHere_186 : decode cX7_wordHere 186 = .ok (.iconst 4, 1) := by decide +kernel
theorem dX7_wordHere_187 : decode cX7_wordHere 187 = .ok (.invokevirtual 147, 3) := by decide +kernel
theorem dX7_wordHere_190 : decode cX7_wordHere 190 = .ok (.bipush 101, 2) := by decide +kernel
theorem dX7_wordHere_192 : decode cX7_wordHere 192 = .ok (.if_icmp .ne 5, 3) := by decide +kernel
theorem dX7_wordHere_195 : decode cX7_wordHere 195 = .ok (.iconst 0, 1) := by decide +kernel
theorem dX7_wordHere_196 : decode cX7_wordHere 196 = .ok (.ireturn, 1) := by decide +kernel
theorem dX7_wordHere_197 : decode cX7_wordHere 197 = .ok (.aload_n 0, 1) := by decide +kernel
theorem dX7_wordHere_198 : decode cX7_wordHere 198 = .ok (.iconst 0, 1) := by decide +kernel
theorem dX7_wordHere_199 : decode cX7_wordHere 199 = .ok (.invokevirtual 147, 3) := by decide +kernel
theorem dX7_wordHere_202 : decode cX7_wordHere 202 = .ok (.bipush 116, 2) := by decide +kernel
theorem dX7_wordHere_204 : decode cX7_wordHere 204 = .ok (.if_icmp .ne 47, 3) := by decide +kernel
theorem dX7_wordHere_207 : decode cX7_wordHere 207 = .ok (.aload_n 0, 1) := by decide +kernel
theorem dX7_wordHere_208 : decode cX7_wordHere 208 = .ok (.iconst 1, 1) := by decide +kernel
theorem dX7_wordHere_209 : decode cX7_wordHere 209 = .ok (.invokevirtual 147, 3) := by decide +kernel
theorem dX7_wordHere_212 : decode cX7_wordHere 212 = .ok (.bipush 105, 2) := by decide +kernel
theorem dX7_wordHere_214 : decode cX7_wordHere 214 = .ok (.if_icmp .ne 37, 3) := by decide +kernel
theorem dX7_wordHere_217 : decode cX7_wordHere 217 = .ok (.aload_n 0, 1) := by decide +kernel
theorem dX7_wordHere_218 : decode cX7_wordHere 218 = .ok (.iconst 2, 1) := by decide +kernel
theorem dX7_wordHere_219 : decode cX7_wordHere 219 = .ok (.invokevirtual 147, 3) := by decide +kernel
theorem dX7_wordHere_222 : decode cX7_wordHere 222 = .ok (.bipush 100, 2) := by decide +kernel
theorem dX7_wordHere_224 : decode cX7_wordHere 224 = .ok (.if_icmp .ne 27, 3) := by decide +kernel
theorem dX7_wordHere_227 : decode cX7_wordHere 227 = .ok (.aload_n 0, 1) := by decide +kernel
theorem dX7_wordHere_228 : decode cX7_wordHere 228 = .ok (.iconst 3, 1) := by decide +kernel
theorem dX7_wordHere_229 : decode cX7_wordHere 229 = .ok (.invokevirtual 147, 3) := by decide +kernel
theorem dX7_wordHere_232 : decode cX7_wordHere 232 = .ok (.bipush 101, 2) := by decide +kernel
theorem dX7_wordHere_234 : decode cX7_wordHere 234 = .ok (.if_icmp .ne 17, 3) := by decide +kernel
theorem dX7_wordHere_237 : decode cX7_wordHere 237 = .ok (.aload_n 0, 1) := by decide +kernel
theorem dX7_wordHere_238 : decode cX7_wordHere 238 = .ok (.iconst 4, 1) := by decide +kernel
theorem dX7_wordHere_239 : decode cX7_wordHere 239 = .ok (.invokevirtual 147, 3) := by decide +kernel
theorem dX7_wordHere_242 : decode cX7_wordHere 242 = .ok (.bipush 115, 2) := by decide +kernel
theorem dX7_wordHere_244 : decode cX7_wordHere 244 = .ok (.if_icmp .ne 7, 3) := by decide +kernel
theorem dX7_wordHere_247 : decode cX7_wordHere 247 = .ok (.iconst 5, 1) := by decide +kernel
theorem dX7_wordHere_248 : decode cX7_wordHere 248 = .ok (.goto 4, 3) := by decide +kernel
theorem dX7_wordHere_251 : decode cX7_wordHere 251 = .ok (.iconst (-1), 1) := by decide +kernel
theorem dX7_wordHere_252 : decode cX7_wordHere 252 = .ok (.ireturn, 1) := by decide +kernel
theorem dX7_wordHere_253 : decode cX7_wordHere 253 = .ok (.iload_n 1, 1) := by decide +kernel
theorem dX7_wordHere_254 : decode cX7_wordHere 254 = .ok (.bipush 6, 2) := by decide +kernel
theorem dX7_wordHere_256 : decode cX7_wordHere 256 = .ok (.if_icmp .eq 5, 3) := by decide +kernel
theorem dX7_wordHere_259 : decode cX7_wordHere 259 = .ok (.iconst (-1), 1) := by decide +kernel
theorem dX7_wordHere_260 : decode cX7_wordHere 260 = .ok (.ireturn, 1) := by decide +kernel
theorem dX7_wordHere_261 : decode cX7_wordHere 261 = .ok (.aload_n 0, 1) := by decide +kernel
theorem dX7_wordHere_262 : decode cX7_wordHere 262 = .ok (.iconst 0, 1) := by decide +kernel
theorem dX7_wordHere_263 : decode cX7_wordHere 263 = .ok (.invokevirtual 147, 3) := by decide +kernel
theorem dX7_wordHere_266 : decode cX7_wordHere 266 = .ok (.bipush 99, 2) := by decide +kernel
theorem dX7_wordHere_268 : decode cX7_wordHere 268 = .ok (.if_icmp .ne 57, 3) := by decide +kernel
theorem dX7_wordHere_271 : decode cX7_wordHere 271 = .ok (.aload_n 0, 1) := by decide +kernel
theorem dX7_wordHere_272 : decode cX7_wordHere 272 = .ok (.iconst 1, 1) := by decide +kernel
theorem dX7_wordHere_273 : decode cX7_wordHere 273 = .ok (.invokevirtual 147, 3) := by decide +kernel
theorem dX7_wordHere_276 : decode cX7_wordHere 276 = .ok (.bipush 97, 2) := by decide +kernel
theorem dX7_wordHere_278 : decode cX7_wordHere 278 = .ok (.if_icmp .ne 47, 3) := by decide +kernel
theorem dX7_wordHere_281 : decode cX7_wordHere 281 = .ok (.aload_n 0, 1) := by decide +kernel
theorem dX7_wordHere_282 : decode cX7_wordHere 282 = .ok (.iconst 2, 1) := by decide +kernel
theorem dX7_wordHere_283 : decode cX7_wordHere 283 = .ok (.invokevirtual 147, 3) := by decide +kernel
theorem dX7_wordHere_286 : decode cX7_wordHere 286 = .ok (.bipush 108, 2) := by decide +kernel
theorem dX7_wordHere_288 : decode cX7_wordHere 288 = .ok (.if_icmp .ne 37, 3) := by decide +kernel
theorem dX7_wordHere_291 : decode cX7_wordHere 291 = .ok (.aload_n 0, 1) := by decide +kernel
theorem dX7_wordHere_292 : decode cX7_wordHere 292 = .ok (.iconst 3, 1) := by decide +kernel
theorem dX7_wordHere_293 : decode cX7_wordHere 293 = .ok (.invokevirtual 147, 3) := by decide +kernel
theorem dX7_wordHere_296 : decode cX7_wordHere 296 = .ok (.bipush 108, 2) := by decide +kernel
theorem dX7_wordHere_298 : decode cX7_wordHere 298 = .ok (.if_icmp .ne 27, 3) := by decide +kernel
theorem dX7_wordHere_301 : decode cX7_wordHere 301 = .ok (.aload_n 0, 1) := by decide +kernel
theorem dX7_wordHere_302 : decode cX7_wordHere 302 = .ok (.iconst 4, 1) := by decide +kernel
theorem dX7_wordHere_303 : decode cX7_wordHere 303 = .ok (.invokevirtual 147, 3) := by decide +kernel
theorem dX7_wordHere_306 : decode cX7_wordHere 306 = .ok (.bipush 101, 2) := by decide +kernel
theorem dX7_wordHere_308 : decode cX7_wordHere 308 = .ok (.if_icmp .ne 17, 3) := by decide +kernel
theorem dX7_wordHere_311 : decode cX7_wordHere 311 = .ok (.aload_n 0, 1) := by decide +kernel
theorem dX7_wordHere_312 : decode cX7_wordHere 312 = .ok (.iconst 5, 1) := by decide +kernel
theorem dX7_wordHere_313 : decode cX7_wordHere 313 = .ok (.invokevirtual 147, 3) := by decide +kernel
theorem dX7_wordHere_316 : decode cX7_wordHere 316 = .ok (.bipush 114, 2) := by decide +kernel
theorem dX7_wordHere_318 : decode cX7_wordHere 318 = .ok (.if_icmp .ne 7, 3) := by decide +kernel
theorem dX7_wordHere_321 : decode cX7_wordHere 321 = .ok (.iconst 2, 1) := by decide +kernel
theorem dX7_wordHere_322 : decode cX7_wordHere 322 = .ok (.goto 4, 3) := by decide +kernel
theorem dX7_wordHere_325 : decode cX7_wordHere 325 = .ok (.iconst (-1), 1) := by decide +kernel
theorem dX7_wordHere_326 : decode cX7_wordHere 326 = .ok (.ireturn, 1) := by decide +kernel
theorem dX7_number_0 : decode cX7_number 0 = .ok (.aload_n 0, 1) := by decide +kernel
theorem dX7_number_1 : decode cX7_number 1 = .ok (.invokevirtual 150, 3) := by decide +kernel
theorem dX7_number_4 : decode cX7_number 4 = .ok (.iconst 0, 1) := by decide +kernel
theorem dX7_number_5 : decode cX7_number 5 = .ok (.istore_n 3, 1) := by decide +kernel
theorem dX7_number_6 : decode cX7_number 6 = .ok (.iconst 0, 1) := by decide +kernel
theorem dX7_number_7 : decode cX7_number 7 = .ok (.istore 4, 2) := by decide +kernel
theorem dX7_number_9 : decode cX7_number 9 = .ok (.aload_n 0, 1) := by decide +kernel
theorem dX7_number_10 : decode cX7_number 10 = .ok (.getfield 135, 3) := by decide +kernel
theorem dX7_number_13 : decode cX7_number 13 = .ok (.iload_n 3, 1) := by decide +kernel
theorem dX7_number_14 : decode cX7_number 14 = .ok (.iadd, 1) := by decide +kernel
theorem dX7_number_15 : decode cX7_number 15 = .ok (.aload_n 0, 1) := by decide +kernel
theorem dX7_number_16 : decode cX7_number 16 = .ok (.getfield 132, 3) := by decide +kernel
theorem dX7_number_19 : decode cX7_number 19 = .ok (.if_icmp .ge 58, 3) := by decide +kernel
theorem dX7_number_22 : decode cX7_number 22 = .ok (.aload_n 0, 1) := by decide +kernel
theorem dX7_number_23 : decode cX7_number 23 = .ok (.getfield 43, 3) := by decide +kernel
theorem dX7_number_26 : decode cX7_number 26 = .ok (.aload_n 0, 1) := by decide +kernel
theorem dX7_number_27 : decode cX7_number 27 = .ok (.getfield 135, 3) := by decide +kernel
theorem dX7_number_30 : decode cX7_number 30 = .ok (.iload_n 3, 1) := by decide +kernel
theorem dX7_number_31 : decode cX7_number 31 = .ok (.iadd, 1) := by decide +kernel
theorem dX7_number_32 : decode cX7_number 32 = .ok (.iaload, 1) := by decide +kernel
theorem dX7_number_33 : decode cX7_number 33 = .ok (.invokestatic 153, 3) := by decide +kernel
theorem dX7_number_36 : decode cX7_number 36 = .ok (.ifCond .eq 41, 3) := by decide +kernel
theorem dX7_number_39 : decode cX7_number 39 = .ok (.iload_n 3, 1) := by decide +kernel
theorem dX7_number_40 : decode cX7_number 40 = .ok (.iconst 2, 1) := by decide +kernel
theorem dX7_number_41 : decode cX7_number 41 = .ok (.if_icmp .ge 26, 3) := by decide +kernel
theorem dX7_number_44 : decode cX7_number 44 = .ok (.bipush 10, 2) := by decide +kernel
theorem dX7_number_46 : decode cX7_number 46 = .ok (.iload 4, 2) := by decide +kernel
theorem dX7_number_48 : decode cX7_number 48 = .ok (.imul, 1) := by decide +kernel
theorem dX7_number_49 : decode cX7_number 49 = .ok (.aload_n 0, 1) := by decide +kernel
theorem dX7_number_50 : decode cX7_number 50 = .ok (.getfield 43, 3) := by decide +kernel
theorem dX7_number_53 : decode cX7_number 53 = .ok (.aload_n 0, 1) := by decide +kernel
theorem dX7_number_54 : decode cX7_number 54 = .ok (.getfield 135, 3) := by decide +kernel
theorem dX7_number_57 : decode cX7_number 57 = .ok (.iload_n 3, 1) := by decide +kernel
theorem dX7_number_58 : decode cX7_number 58 = .ok (.iadd, 1) := by decide +kernel
theorem dX7_number_59 : decode cX7_number 59 = .ok (.iaload, 1) := by decide +kernel
theorem dX7_number_60 : decode cX7_number 60 = .ok (.iadd, 1) := by decide +kernel
theorem dX7_number_61 : decode cX7_number 61 = .ok (.bipush 48, 2) := by decide +kernel
theorem dX7_number_63 : decode cX7_number 63 = .ok (.isub, 1) := by decide +kernel
theorem dX7_number_64 : decode cX7_number 64 = .ok (.goto 5, 3) := by decide +kernel
theorem dX7_number_67 : decode cX7_number 67 = .ok (.iload 4, 2) := by decide +kernel
theorem dX7_number_69 : decode cX7_number 69 = .ok (.istore 4, 2) := by decide +kernel
theorem dX7_number_71 : decode cX7_number 71 = .ok (.iinc 3 1, 3) := by decide +kernel
theorem dX7_number_74 : decode cX7_number 74 = .ok (.goto (-65), 3) := by decide +kernel
theorem dX7_number_77 : decode cX7_number 77 = .ok (.iload_n 3, 1) := by decide +kernel
theorem dX7_number_78 : decode cX7_number 78 = .ok (.iconst 1, 1) := by decide +kernel
theorem dX7_number_79 : decode cX7_number 79 = .ok (.iconst 2, 1) := by decide +kernel
theorem dX7_number_80 : decode cX7_number 80 = .ok (.invokestatic 106, 3) := by decide +kernel
theorem dX7_number_83 : decode cX7_number 83 = .ok (.ifCond .eq 13, 3) := by decide +kernel
theorem dX7_number_86 : decode cX7_number 86 = .ok (.iload 4, 2) := by decide +kernel
theorem dX7_number_88 : decode cX7_number 88 = .ok (.iload_n 1, 1) := by decide +kernel
theorem dX7_number_89 : decode cX7_number 89 = .ok (.iload_n 2, 1) := by decide +kernel
theorem dX7_number_90 : decode cX7_number 90 = .ok (.invokestatic 106, 3) := by decide +kernel
theorem dX7_number_93 : decode cX7_number 93 = .ok (.ifCond .ne 5, 3) := by decide +kernel
theorem dX7_number_96 : decode cX7_number 96 = .ok (.iconst 0, 1) := by decide +kernel
theorem dX7_number_97 : decode cX7_number 97 = .ok (.ireturn, 1) := by decide +kernel
theorem dX7_number_98 : decode cX7_number 98 = .ok (.aload_n 0, 1) := by decide +kernel
theorem dX7_number_99 : decode cX7_number 99 = .ok (.iload 4, 2) := by decide +kernel
theorem dX7_number_101 : decode cX7_number 101 = .ok (.putfield 156, 3) := by decide +kernel
theorem dX7_number_104 : decode cX7_number 104 = .ok (.aload_n 0, 1) := by decide +kernel
theorem dX7_number_105 : decode cX7_number 105 = .ok (.dup, 1) := by decide +kernel
theorem dX7_number_106 : decode cX7_number 106 = .ok (.getfield 135, 3) := by decide +kernel
theorem dX7_number_109 : decode cX7_number 109 = .ok (.iload_n 3, 1) := by decide +kernel
theorem dX7_number_110 : decode cX7_number 110 = .ok (.iadd, 1) := by decide +kernel
theorem dX7_number_111 : decode cX7_number 111 = .ok (.putfield 135, 3) := by decide +kernel
theorem dX7_number_114 : decode cX7_number 114 = .ok (.iconst 1, 1) := by decide +kernel
theorem dX7_number_115 : decode cX7_number 115 = .ok (.ireturn, 1) := by decide +kernel
theorem dX7_ends_0 : decode cX7_ends 0 = .ok (.aload_n 0, 1) := by decide +kernel
theorem dX7_ends_1 : decode cX7_ends 1 = .ok (.invokevirtual 150, 3) := by decide +kernel
theorem dX7_ends_4 : decode cX7_ends 4 = .ok (.aload_n 0, 1) := by decide +kernel
theorem dX7_ends_5 : decode cX7_ends 5 = .ok (.invokevirtual 138, 3) := by decide +kernel
theorem dX7_ends_8 : decode cX7_ends 8 = .ok (.bipush 59, 2) := by decide +kernel
theorem dX7_ends_10 : decode cX7_ends 10 = .ok (.if_icmp .eq 5, 3) := by decide +kernel
theorem dX7_ends_13 : decode cX7_ends 13 = .ok (.iconst 0, 1) := by decide +kernel
theorem dX7_ends_14 : decode cX7_ends 14 = .ok (.ireturn, 1) := by decide +kernel
theorem dX7_ends_15 : decode cX7_ends 15 = .ok (.aload_n 0, 1) := by decide +kernel
theorem dX7_ends_16 : decode cX7_ends 16 = .ok (.dup, 1) := by decide +kernel
theorem dX7_ends_17 : decode cX7_ends 17 = .ok (.getfield 135, 3) := by decide +kernel
theorem dX7_ends_20 : decode cX7_ends 20 = .ok (.iconst 1, 1) := by decide +kernel
theorem dX7_ends_21 : decode cX7_ends 21 = .ok (.iadd, 1) := by decide +kernel
theorem dX7_ends_22 : decode cX7_ends 22 = .ok (.putfield 135, 3) := by decide +kernel
theorem dX7_ends_25 : decode cX7_ends 25 = .ok (.iconst 1, 1) := by decide +kernel
theorem dX7_ends_26 : decode cX7_ends 26 = .ok (.ireturn, 1) := by decide +kernel
theorem dX7_readsSoul_0 : decode cX7_readsSoul 0 = .ok (.aload_n 0, 1) := by decide +kernel
theorem dX7_readsSoul_1 : decode cX7_readsSoul 1 = .ok (.iconst 0, 1) := by decide +kernel
theorem dX7_readsSoul_2 : decode cX7_readsSoul 2 = .ok (.iconst 5, 1) := by decide +kernel
theorem dX7_readsSoul_3 : decode cX7_readsSoul 3 = .ok (.invokevirtual 159, 3) := by decide +kernel
theorem dX7_readsSoul_6 : decode cX7_readsSoul 6 = .ok (.ifCond .ne 5, 3) := by decide +kernel
theorem dX7_readsSoul_9 : decode cX7_readsSoul 9 = .ok (.iconst 0, 1) := by decide +kernel
theorem dX7_readsSoul_10 : decode cX7_readsSoul 10 = .ok (.ireturn, 1) := by decide +kernel
theorem dX7_readsSoul_11 : decode cX7_readsSoul 11 = .ok (.aload_n 0, 1) := by decide +kernel
theorem dX7_readsSoul_12 : decode cX7_readsSoul 12 = .ok (.getfield 156, 3) := by decide +kernel
theorem dX7_readsSoul_15 : decode cX7_readsSoul 15 = .ok (.istore_n 1, 1) := by decide +kernel
theorem dX7_readsSoul_16 : decode cX7_readsSoul 16 = .ok (.aload_n 0, 1) := by decide +kernel
theorem dX7_readsSoul_17 : decode cX7_readsSoul 17 = .ok (.iconst 1, 1) := by decide +kernel
theorem dX7_readsSoul_18 : decode cX7_readsSoul 18 = .ok (.bipush 9, 2) := by decide +kernel
theorem dX7_readsSoul_20 : decode cX7_readsSoul 20 = .ok (.invokevirtual 159, 3) := by decide +kernel
theorem dX7_readsSoul_23 : decode cX7_readsSoul 23 = .ok (.ifCond .ne 5, 3) := by decide +kernel
theorem dX7_readsSoul_26 : decode cX7_readsSoul 26 = .ok (.iconst 0, 1) := by decide +kernel
theorem dX7_readsSoul_27 : decode cX7_readsSoul 27 = .ok (.ireturn, 1) := by decide +kernel
theorem dX7_readsSoul_28 : decode cX7_readsSoul 28 = .ok (.aload_n 0, 1) := by decide +kernel
theorem dX7_readsSoul_29 : decode cX7_readsSoul 29 = .ok (.getfield 156, 3) := by decide +kernel
theorem dX7_readsSoul_32 : decode cX7_readsSoul 32 = .ok (.istore_n 2, 1) := by decide +kernel
theorem dX7_readsSoul_33 : decode cX7_readsSoul 33 = .ok (.aload_n 0, 1) := by decide +kernel
theorem dX7_readsSoul_34 : decode cX7_readsSoul 34 = .ok (.iconst 0, 1) := by decide +kernel
theorem dX7_readsSoul_35 : decode cX7_readsSoul 35 = .ok (.bipush 11, 2) := by decide +kernel
theorem dX7_readsSoul_37 : decode cX7_readsSoul 37 = .ok (.invokevirtual 159, 3) := by decide +kernel
theorem dX7_readsSoul_40 : decode cX7_readsSoul 40 = .ok (.ifCond .ne 5, 3) := by decide +kernel
theorem dX7_readsSoul_43 : decode cX7_readsSoul 43 = .ok (.iconst 0, 1) := by decide +kernel
theorem dX7_readsSoul_44 : decode cX7_readsSoul 44 = .ok (.ireturn, 1) := by decide +kernel
theorem dX7_readsSoul_45 : decode cX7_readsSoul 45 = .ok (.aload_n 0, 1) := by decide +kernel
theorem dX7_readsSoul_46 : decode cX7_readsSoul 46 = .ok (.getfield 156, 3) := by decide +kernel
theorem dX7_readsSoul_49 : decode cX7_readsSoul 49 = .ok (.istore_n 3, 1) := by decide +kernel
theorem dX7_readsSoul_50 : decode cX7_readsSoul 50 = .ok (.aload_n 0, 1) := by decide +kernel
theorem dX7_readsSoul_51 : decode cX7_readsSoul 51 = .ok (.invokevirtual 163, 3) := by decide +kernel
theorem dX7_readsSoul_54 : decode cX7_readsSoul 54 = .ok (.ifCond .ne 5, 3) := by decide +kernel
theorem dX7_readsSoul_57 : decode cX7_readsSoul 57 = .ok (.iconst 0, 1) := by decide +kernel
theorem dX7_readsSoul_58 : decode cX7_readsSoul 58 = .ok (.ireturn, 1) := by decide +kernel
theorem dX7_readsSoul_59 : decode cX7_readsSoul 59 = .ok (.aload_n 0, 1) := by decide +kernel
theorem dX7_readsSoul_60 : decode cX7_readsSoul 60 = .ok (.iload_n 1, 1) := by decide +kernel
theorem dX7_readsSoul_61 : decode cX7_readsSoul 61 = .ok (.iload_n 2, 1) := by decide +kernel
theorem dX7_readsSoul_62 : decode cX7_readsSoul 62 = .ok (.iload_n 3, 1) := by decide +kernel
theorem dX7_readsSoul_63 : decode cX7_readsSoul 63 = .ok (.invokevirtual 124, 3) := by decide +kernel
theorem dX7_readsSoul_66 : decode cX7_readsSoul 66 = .ok (.pop, 1) := by decide +kernel
theorem dX7_readsSoul_67 : decode cX7_readsSoul 67 = .ok (.iconst 1, 1) := by decide +kernel
theorem dX7_readsSoul_68 : decode cX7_readsSoul 68 = .ok (.ireturn, 1) := by decide +kernel
theorem dX7_readsCaller_0 : decode cX7_readsCaller 0 = .ok (.aload_n 0, 1) := by decide +kernel
theorem dX7_readsCaller_1 : decode cX7_readsCaller 1 = .ok (.iconst 0, 1) := by decide +kernel
theorem dX7_readsCaller_2 : decode cX7_readsCaller 2 = .ok (.iconst 5, 1) := by decide +kernel
theorem dX7_readsCaller_3 : decode cX7_readsCaller 3 = .ok (.invokevirtual 159, 3) := by decide +kernel
theorem dX7_readsCaller_6 : decode cX7_readsCaller 6 = .ok (.ifCond .ne 5, 3) := by decide +kernel
theorem dX7_readsCaller_9 : decode cX7_readsCaller 9 = .ok (.iconst 0, 1) := by decide +kernel
theorem dX7_readsCaller_10 : decode cX7_readsCaller 10 = .ok (.ireturn, 1) := by decide +kernel
theorem dX7_readsCaller_11 : decode cX7_readsCaller 11 = .ok (.aload_n 0, 1) := by decide +kernel
theorem dX7_readsCaller_12 : decode cX7_readsCaller 12 = .ok (.getfield 156, 3) := by decide +kernel
theorem dX7_readsCaller_15 : decode cX7_readsCaller 15 = .ok (.istore_n 1, 1) := by decide +kernel
theorem dX7_readsCaller_16 : decode cX7_readsCaller 16 = .ok (.aload_n 0, 1) := by decide +kernel
theorem dX7_readsCaller_17 : decode cX7_readsCaller 17 = .ok (.invokevirtual 163, 3) := by decide +kernel
theorem dX7_readsCaller_20 : decode cX7_readsCaller 20 = .ok (.ifCond .ne 5, 3) := by decide +kernel
theorem dX7_readsCaller_23 : decode cX7_readsCaller 23 = .ok (.iconst 0, 1) := by decide +kernel
theorem dX7_readsCaller_24 : decode cX7_readsCaller 24 = .ok (.ireturn, 1) := by decide +kernel
theorem dX7_readsCaller_25 : decode cX7_readsCaller 25 = .ok (.aload_n 0, 1) := by decide +kernel
theorem dX7_readsCaller_26 : decode cX7_readsCaller 26 = .ok (.iload_n 1, 1) := by decide +kernel
theorem dX7_readsCaller_27 : decode cX7_readsCaller 27 = .ok (.invokevirtual 128, 3) := by decide +kernel
theorem dX7_readsCaller_30 : decode cX7_readsCaller 30 = .ok (.pop, 1) := by decide +kernel
theorem dX7_readsCaller_31 : decode cX7_readsCaller 31 = .ok (.iconst 1, 1) := by decide +kernel
theorem dX7_readsCaller_32 : decode cX7_readsCaller 32 = .ok (.ireturn, 1) := by decide +kernel
theorem dX7_readsWalk_0 : decode cX7_readsWalk 0 = .ok (.aload_n 0, 1) := by decide +kernel
theorem dX7_readsWalk_1 : decode cX7_readsWalk 1 = .ok (.iconst 0, 1) := by decide +kernel
theorem dX7_readsWalk_2 : decode cX7_readsWalk 2 = .ok (.iconst 2, 1) := by decide +kernel
theorem dX7_readsWalk_3 : decode cX7_readsWalk 3 = .ok (.invokevirtual 159, 3) := by decide +kernel
theorem dX7_readsWalk_6 : decode cX7_readsWalk 6 = .ok (.ifCond .ne 5, 3) := by decide +kernel
theorem dX7_readsWalk_9 : decode cX7_readsWalk 9 = .ok (.iconst 0, 1) := by decide +kernel
theorem dX7_readsWalk_10 : decode cX7_readsWalk 10 = .ok (.ireturn, 1) := by decide +kernel
theorem dX7_readsWalk_11 : decode cX7_readsWalk 11 = .ok (.aload_n 0, 1) := by decide +kernel
theorem dX7_readsWalk_12 : decode cX7_readsWalk 12 = .ok (.aload_n 0, 1) := by decide +kernel
theorem dX7_readsWalk_13 : decode cX7_readsWalk 13 = .ok (.getfield 156, 3) := by decide +kernel
theorem dX7_readsWalk_16 : decode cX7_readsWalk 16 = .ok (.iconst 1, 1) := by decide +kernel
theorem dX7_readsWalk_17 : decode cX7_readsWalk 17 = .ok (.isub, 1) := by decide +kernel
theorem dX7_readsWalk_18 : decode cX7_readsWalk 18 = .ok (.invokevirtual 167, 3) := by decide +kernel
theorem dX7_readsWalk_21 : decode cX7_readsWalk 21 = .ok (.pop, 1) := by decide +kernel
theorem dX7_readsWalk_22 : decode cX7_readsWalk 22 = .ok (.aload_n 0, 1) := by decide +kernel
theorem dX7_readsWalk_23 : decode cX7_readsWalk 23 = .ok (.invokevirtual 163, 3) := by decide +kernel
theorem dX7_readsWalk_26 : decode cX7_readsWalk 26 = .ok (.ireturn, 1) := by decide +kernel
theorem dX7_readsCall_0 : decode cX7_readsCall 0 = .ok (.aload_n 0, 1) := by decide +kernel
theorem dX7_readsCall_1 : decode cX7_readsCall 1 = .ok (.invokevirtual 150, 3) := by decide +kernel
theorem dX7_readsCall_4 : decode cX7_readsCall 4 = .ok (.aload_n 0, 1) := by decide +kernel
theorem dX7_readsCall_5 : decode cX7_readsCall 5 = .ok (.getfield 135, 3) := by decide +kernel
theorem dX7_readsCall_8 : decode cX7_readsCall 8 = .ok (.istore_n 1, 1) := by decide +kernel
theorem dX7_readsCall_9 : decode cX7_readsCall 9 = .ok (.aload_n 0, 1) := by decide +kernel
theorem dX7_readsCall_10 : decode cX7_readsCall 10 = .ok (.iconst 0, 1) := by decide +kernel
theorem dX7_readsCall_11 : decode cX7_readsCall 11 = .ok (.aload_n 0, 1) := by decide +kernel
theorem dX7_readsCall_12 : decode cX7_readsCall 12 = .ok (.getfield 85, 3) := by decide +kernel
theorem dX7_readsCall_15 : decode cX7_readsCall 15 = .ok (.iconst 1, 1) := by decide +kernel
theorem dX7_readsCall_16 : decode cX7_readsCall 16 = .ok (.isub, 1) := by decide +kernel
theorem dX7_readsCall_17 : decode cX7_readsCall 17 = .ok (.invokevirtual 159, 3) := by decide +kernel
theorem dX7_readsCall_20 : decode cX7_readsCall 20 = .ok (.ifCond .ne 5, 3) := by decide +kernel
theorem dX7_readsCall_23 : decode cX7_readsCall 23 = .ok (.iconst 0, 1) := by decide +kernel
theorem dX7_readsCall_24 : decode cX7_readsCall 24 = .ok (.ireturn, 1) := by decide +kernel
theorem dX7_readsCall_25 : decode cX7_readsCall 25 = .ok (.aload_n 0, 1) := by decide +kernel
theorem dX7_readsCall_26 : decode cX7_readsCall 26 = .ok (.aload_n 0, 1) := by decide +kernel
theorem dX7_readsCall_27 : decode cX7_readsCall 27 = .ok (.getfield 156, 3) := by decide +kernel
theorem dX7_readsCall_30 : decode cX7_readsCall 30 = .ok (.invokevirtual 170, 3) := by decide +kernel
theorem dX7_readsCall_33 : decode cX7_readsCall 33 = .ok (.iconst (-1), 1) := by decide +kernel
theorem dX7_readsCall_34 : decode cX7_readsCall 34 = .ok (.if_icmp .ne 10, 3) := by decide +kernel
theorem dX7_readsCall_37 : decode cX7_readsCall 37 = .ok (.aload_n 0, 1) := by decide +kernel
theorem dX7_readsCall_38 : decode cX7_readsCall 38 = .ok (.iload_n 1, 1) := by decide +kernel
theorem dX7_readsCall_39 : decode cX7_readsCall 39 = .ok (.putfield 135, 3) := by decide +kernel
theorem dX7_readsCall_42 : decode cX7_readsCall 42 = .ok (.iconst 0, 1) := by decide +kernel
theorem dX7_readsCall_43 : decode cX7_readsCall 43 = .ok (.ireturn, 1) := by decide +kernel
theorem dX7_readsCall_44 : decode cX7_readsCall 44 = .ok (.aload_n 0, 1) := by decide +kernel
theorem dX7_readsCall_45 : decode cX7_readsCall 45 = .ok (.aload_n 0, 1) := by decide +kernel
theorem dX7_readsCall_46 : decode cX7_readsCall 46 = .ok (.getfield 156, 3) := by decide +kernel
theorem dX7_readsCall_49 : decode cX7_readsCall 49 = .ok (.aload_n 0, 1) := by decide +kernel
theorem dX7_readsCall_50 : decode cX7_readsCall 50 = .ok (.aload_n 0, 1) := by decide +kernel
theorem dX7_readsCall_51 : decode cX7_readsCall 51 = .ok (.getfield 156, 3) := by decide +kernel
theorem dX7_readsCall_54 : decode cX7_readsCall 54 = .ok (.invokevirtual 170, 3) := by decide +kernel
theorem dX7_readsCall_57 : decode cX7_readsCall 57 = .ok (.invokevirtual 173, 3) := by decide +kernel
theorem dX7_readsCall_60 : decode cX7_readsCall 60 = .ok (.aload_n 0, 1) := by decide +kernel
theorem dX7_readsCall_61 : decode cX7_readsCall 61 = .ok (.invokevirtual 163, 3) := by decide +kernel
theorem dX7_readsCall_64 : decode cX7_readsCall 64 = .ok (.ireturn, 1) := by decide +kernel
theorem dX7_readsTides_0 : decode cX7_readsTides 0 = .ok (.aload_n 0, 1) := by decide +kernel
theorem dX7_readsTides_1 : decode cX7_readsTides 1 = .ok (.iconst 1, 1) := by decide +kernel
theorem dX7_readsTides_2 : decode cX7_readsTides 2 = .ok (.bipush 99, 2) := by decide +kernel
theorem dX7_readsTides_4 : decode cX7_readsTides 4 = .ok (.invokevirtual 159, 3) := by decide +kernel
theorem dX7_readsTides_7 : decode cX7_readsTides 7 = .ok (.ifCond .ne 5, 3) := by decide +kernel
theorem dX7_readsTides_10 : decode cX7_readsTides 10 = .ok (.iconst 0, 1) := by decide +kernel
theorem dX7_readsTides_11 : decode cX7_readsTides 11 = .ok (.ireturn, 1) := by decide +kernel
theorem dX7_readsTides_12 : decode cX7_readsTides 12 = .ok (.aload_n 0, 1) := by decide +kernel
theorem dX7_readsTides_13 : decode cX7_readsTides 13 = .ok (.getfield 156, 3) := by decide +kernel
theorem dX7_readsTides_16 : decode cX7_readsTides 16 = .ok (.istore_n 1, 1) := by decide +kernel
theorem dX7_readsTides_17 : decode cX7_readsTides 17 = .ok (.iload_n 1, 1) := by decide +kernel
theorem dX7_readsTides_18 : decode cX7_readsTides 18 = .ok (.ifCond .le 23, 3) := by decide +kernel
theorem dX7_readsTides_21 : decode cX7_readsTides 21 = .ok (.aload_n 0, 1) := by decide +kernel
theorem dX7_readsTides_22 : decode cX7_readsTides 22 = .ok (.getfield 88, 3) := by decide +kernel
theorem dX7_readsTides_25 : decode cX7_readsTides 25 = .ok (.sipush 999, 3) := by decide +kernel
theorem dX7_readsTides_28 : decode cX7_readsTides 28 = .ok (.if_icmp .ge 13, 3) := by decide +kernel
theorem dX7_readsTides_31 : decode cX7_readsTides 31 = .ok (.aload_n 0, 1) := by decide +kernel
theorem dX7_readsTides_32 : decode cX7_readsTides 32 = .ok (.invokevirtual 177, 3) := by decide +kernel
theorem dX7_readsTides_35 : decode cX7_readsTides 35 = .ok (.iinc 1 (-1), 3) := by decide +kernel
theorem dX7_readsTides_38 : decode cX7_readsTides 38 = .ok (.goto (-21), 3) := by decide +kernel
theorem dX7_readsTides_41 : decode cX7_readsTides 41 = .ok (.aload_n 0, 1) := by decide +kernel
theorem dX7_readsTides_42 : decode cX7_readsTides 42 = .ok (.invokevirtual 163, 3) := by decide +kernel
theorem dX7_readsTides_45 : decode cX7_readsTides 45 = .ok (.ireturn, 1) := by decide +kernel
theorem dX7_readsItem_0 : decode cX7_readsItem 0 = .ok (.aload_n 0, 1) := by decide +kernel
theorem dX7_readsItem_1 : decode cX7_readsItem 1 = .ok (.invokevirtual 180, 3) := by decide +kernel
theorem dX7_readsItem_4 : decode cX7_readsItem 4 = .ok (.istore_n 1, 1) := by decide +kernel
theorem dX7_readsItem_5 : decode cX7_readsItem 5 = .ok (.iload_n 1, 1) := by decide +kernel
theorem dX7_readsItem_6 : decode cX7_readsItem 6 = .ok (.iconst 1, 1) := by decide +kernel
theorem dX7_readsItem_7 : decode cX7_readsItem 7 = .ok (.if_icmp .lt 31, 3) := by decide +kernel
theorem dX7_readsItem_10 : decode cX7_readsItem 10 = .ok (.iload_n 1, 1) := by decide +kernel
theorem dX7_readsItem_11 : decode cX7_readsItem 11 = .ok (.iconst 1, 1) := by decide +kernel
theorem dX7_readsItem_12 : decode cX7_readsItem 12 = .ok (.if_icmp .ne 12, 3) := by decide +kernel
theorem dX7_readsItem_15 : decode cX7_readsItem 15 = .ok (.aload_n 0, 1) := by decide +kernel
theorem dX7_readsItem_16 : decode cX7_readsItem 16 = .ok (.getfield 81, 3) := by decide +kernel
theorem dX7_readsItem_19 : decode cX7_readsItem 19 = .ok (.bipush 6, 2) := by decide +kernel
theorem dX7_readsItem_21 : decode cX7_readsItem 21 = .ok (.if_icmp .eq 17, 3) := by decide +kernel
theorem dX7_readsItem_24 : decode cX7_readsItem 24 = .ok (.iload_n 1, 1) := by decide +kernel
theorem dX7_readsItem_25 : decode cX7_readsItem 25 = .ok (.iconst 2, 1) := by decide +kernel
theorem dX7_readsItem_26 : decode cX7_readsItem 26 = .ok (.if_icmp .ne 14, 3) := by decide +kernel
theorem dX7_readsItem_29 : decode cX7_readsItem 29 = .ok (.aload_n 0, 1) := by decide +kernel
theorem dX7_readsItem_30 : decode cX7_readsItem 30 = .ok (.getfield 85, 3) := by decide +kernel
theorem dX7_readsItem_33 : decode cX7_readsItem 33 = .ok (.bipush 6, 2) := by decide +kernel
theorem dX7_readsItem_35 : decode cX7_readsItem 35 = .ok (.if_icmp .ne 5, 3) := by decide +kernel
theorem dX7_readsItem_38 : decode cX7_readsItem 38 = .ok (.iconst 0, 1) := by decide +kernel
theorem dX7_readsItem_39 : decode cX7_readsItem 39 = .ok (.ireturn, 1) := by decide +kernel
theorem dX7_readsItem_40 : decode cX7_readsItem 40 = .ok (.aload_n 0, 1) := by decide +kernel
theorem dX7_readsItem_41 : decode cX7_readsItem 41 = .ok (.dup, 1) := by decide +kernel
theorem dX7_readsItem_42 : decode cX7_readsItem 42 = .ok (.getfield 135, 3) := by decide +kernel
theorem dX7_readsItem_45 : decode cX7_readsItem 45 = .ok (.aload_n 0, 1) := by decide +kernel
theorem dX7_readsItem_46 : decode cX7_readsItem 46 = .ok (.invokevirtual 144, 3) := by decide +kernel
theorem dX7_readsItem_49 : decode cX7_readsItem 49 = .ok (.iadd, 1) := by decide +kernel
theorem dX7_readsItem_50 : decode cX7_readsItem 50 = .ok (.putfield 135, 3) := by decide +kernel
theorem dX7_readsItem_53 : decode cX7_readsItem 53 = .ok (.iload_n 1, 1) := by decide +kernel
theorem dX7_readsItem_54 : decode cX7_readsItem 54 = .ok (.iconst 1, 1) := by decide +kernel
theorem dX7_readsItem_55 : decode cX7_readsItem 55 = .ok (.if_icmp .ne 10, 3) := by decide +kernel
theorem dX7_readsItem_58 : decode cX7_readsItem 58 = .ok (.aload_n 0, 1) := by decide +kernel
theorem dX7_readsItem_59 : decode cX7_readsItem 59 = .ok (.invokevirtual 183, 3) := by decide +kernel
theorem dX7_readsItem_62 : decode cX7_readsItem 62 = .ok (.goto 43, 3) := by decide +kernel
theorem dX7_readsItem_65 : decode cX7_readsItem 65 = .ok (.iload_n 1, 1) := by decide +kernel
theorem dX7_readsItem_66 : decode cX7_readsItem 66 = .ok (.iconst 2, 1) := by decide +kernel
theorem dX7_readsItem_67 : decode cX7_readsItem 67 = .ok (.if_icmp .ne 10, 3) := by decide +kernel
theorem dX7_readsItem_70 : decode cX7_readsItem 70 = .ok (.aload_n 0, 1) := by decide +kernel
theorem dX7_readsItem_71 : decode cX7_readsItem 71 = .ok (.invokevirtual 186, 3) := by decide +kernel
theorem dX7_readsItem_74 : decode cX7_readsItem 74 = .ok (.goto 31, 3) := by decide +kernel
theorem dX7_readsItem_77 : decode cX7_readsItem 77 = .ok (.iload_n 1, 1) := by decide +kernel
theorem dX7_readsItem_78 : decode cX7_readsItem 78 = .ok (.iconst 3, 1) := by decide +kernel
theorem dX7_readsItem_79 : decode cX7_readsItem 79 = .ok (.if_icmp .ne 10, 3) := by decide +kernel
theorem dX7_readsItem_82 : decode cX7_readsItem 82 = .ok (.aload_n 0, 1) := by decide +kernel
theorem dX7_readsItem_83 : decode cX7_readsItem 83 = .ok (.invokevirtual 189, 3) := by decide +kernel
theorem dX7_readsItem_86 : decode cX7_readsItem 86 = .ok (.goto 19, 3) := by decide +kernel
theorem dX7_readsItem_89 : decode cX7_readsItem 89 = .ok (.iload_n 1, 1) := by decide +kernel
theorem dX7_readsItem_90 : decode cX7_readsItem 90 = .ok (.iconst 4, 1) := by decide +kernel
theorem dX7_readsItem_91 : decode cX7_readsItem 91 = .ok (.if_icmp .ne 10, 3) := by decide +kernel
theorem dX7_readsItem_94 : decode cX7_readsItem 94 = .ok (.aload_n 0, 1) := by decide +kernel
theorem dX7_readsItem_95 : decode cX7_readsItem 95 = .ok (.invokevirtual 192, 3) := by decide +kernel
theorem dX7_readsItem_98 : decode cX7_readsItem 98 = .ok (.goto 7, 3) := by decide +kernel
theorem dX7_readsItem_101 : decode cX7_readsItem 101 = .ok (.aload_n 0, 1) := by decide +kernel
theorem dX7_readsItem_102 : decode cX7_readsItem 102 = .ok (.invokevirtual 195, 3) := by decide +kernel
theorem dX7_readsItem_105 : decode cX7_readsItem 105 = .ok (.ireturn, 1) := by decide +kernel
theorem dX7_readsFirst_0 : decode cX7_readsFirst 0 = .ok (.aload_n 0, 1) := by decide +kernel
theorem dX7_readsFirst_1 : decode cX7_readsFirst 1 = .ok (.invokevirtual 150, 3) := by decide +kernel
theorem dX7_readsFirst_4 : decode cX7_readsFirst 4 = .ok (.aload_n 0, 1) := by decide +kernel
theorem dX7_readsFirst_5 : decode cX7_readsFirst 5 = .ok (.invokevirtual 180, 3) := by decide +kernel
theorem dX7_readsFirst_8 : decode cX7_readsFirst 8 = .ok (.ifCond .eq 5, 3) := by decide +kernel
theorem dX7_readsFirst_11 : decode cX7_readsFirst 11 = .ok (.iconst 0, 1) := by decide +kernel
theorem dX7_readsFirst_12 : decode cX7_readsFirst 12 = .ok (.ireturn, 1) := by decide +kernel
theorem dX7_readsFirst_13 : decode cX7_readsFirst 13 = .ok (.aload_n 0, 1) := by decide +kernel
theorem dX7_readsFirst_14 : decode cX7_readsFirst 14 = .ok (.dup, 1) := by decide +kernel
theorem dX7_readsFirst_15 : decode cX7_readsFirst 15 = .ok (.getfield 135, 3) := by decide +kernel
theorem dX7_readsFirst_18 : decode cX7_readsFirst 18 = .ok (.iconst 5, 1) := by decide +kernel
theorem dX7_readsFirst_19 : decode cX7_readsFirst 19 = .ok (.iadd, 1) := by decide +kernel
theorem dX7_readsFirst_20 : decode cX7_readsFirst 20 = .ok (.putfield 135, 3) := by decide +kernel
theorem dX7_readsFirst_23 : decode cX7_readsFirst 23 = .ok (.aload_n 0, 1) := by decide +kernel
theorem dX7_readsFirst_24 : decode cX7_readsFirst 24 = .ok (.invokevirtual 78, 3) := by decide +kernel
theorem dX7_readsFirst_27 : decode cX7_readsFirst 27 = .ok (.iconst 0, 1) := by decide +kernel
theorem dX7_readsFirst_28 : decode cX7_readsFirst 28 = .ok (.istore_n 1, 1) := by decide +kernel
theorem dX7_readsFirst_29 : decode cX7_readsFirst 29 = .ok (.iload_n 1, 1) := by decide +kernel
theorem dX7_readsFirst_30 : decode cX7_readsFirst 30 = .ok (.bipush 12, 2) := by decide +kernel
theorem dX7_readsFirst_32 : decode cX7_readsFirst 32 = .ok (.if_icmp .ge 32, 3) := by decide +kernel
theorem dX7_readsFirst_35 : decode cX7_readsFirst 35 = .ok (.aload_n 0, 1) := by decide +kernel
theorem dX7_readsFirst_36 : decode cX7_readsFirst 36 = .ok (.iconst 0, 1) := by decide +kernel
theorem dX7_readsFirst_37 : decode cX7_readsFirst 37 = .ok (.iconst 4, 1) := by decide +kernel
theorem dX7_readsFirst_38 : decode cX7_readsFirst 38 = .ok (.invokevirtual 159, 3) := by decide +kernel
theorem dX7_readsFirst_41 : decode cX7_readsFirst 41 = .ok (.ifCond .ne 5, 3) := by decide +kernel
theorem dX7_readsFirst_44 : decode cX7_readsFirst 44 = .ok (.iconst 0, 1) := by decide +kernel
theorem dX7_readsFirst_45 : decode cX7_readsFirst 45 = .ok (.ireturn, 1) := by decide +kernel
theorem dX7_readsFirst_46 : decode cX7_readsFirst 46 = .ok (.aload_n 0, 1) := by decide +kernel
theorem dX7_readsFirst_47 : decode cX7_readsFirst 47 = .ok (.getfield 13, 3) := by decide +kernel
theorem dX7_readsFirst_50 : decode cX7_readsFirst 50 = .ok (.iload_n 1, 1) := by decide +kernel
theorem dX7_readsFirst_51 : decode cX7_readsFirst 51 = .ok (.aload_n 0, 1) := by decide +kernel
theorem dX7_readsFirst_52 : decode cX7_readsFirst 52 = .ok (.getfield 156, 3) := by decide +kernel
theorem dX7_readsFirst_55 : decode cX7_readsFirst 55 = .ok (.iconst 2, 1) := by decide +kernel
theorem dX7_readsFirst_56 : decode cX7_readsFirst 56 = .ok (.isub, 1) := by decide +kernel
theorem dX7_readsFirst_57 : decode cX7_readsFirst 57 = .ok (.iastore, 1) := by decide +kernel
theorem dX7_readsFirst_58 : decode cX7_readsFirst 58 = .ok (.iinc 1 1, 3) := by decide +kernel
theorem dX7_readsFirst_61 : decode cX7_readsFirst 61 = .ok (.goto (-32), 3) := by decide +kernel
theorem dX7_readsFirst_64 : decode cX7_readsFirst 64 = .ok (.aload_n 0, 1) := by decide +kernel
theorem dX7_readsFirst_65 : decode cX7_readsFirst 65 = .ok (.invokevirtual 163, 3) := by decide +kernel
theorem dX7_readsFirst_68 : decode cX7_readsFirst 68 = .ok (.ireturn, 1) := by decide +kernel
theorem dX7_readsShore_0 : decode cX7_readsShore 0 = .ok (.aload_n 0, 1) := by decide +kernel
theorem dX7_readsShore_1 : decode cX7_readsShore 1 = .ok (.iconst 0, 1) := by decide +kernel
theorem dX7_readsShore_2 : decode cX7_readsShore 2 = .ok (.putfield 135, 3) := by decide +kernel
theorem dX7_readsShore_5 : decode cX7_readsShore 5 = .ok (.aload_n 0, 1) := by decide +kernel
theorem dX7_readsShore_6 : decode cX7_readsShore 6 = .ok (.invokevirtual 198, 3) := by decide +kernel
theorem dX7_readsShore_9 : decode cX7_readsShore 9 = .ok (.ifCond .ne 5, 3) := by decide +kernel
theorem dX7_readsShore_12 : decode cX7_readsShore 12 = .ok (.iconst (-1), 1) := by decide +kernel
theorem dX7_readsShore_13 : decode cX7_readsShore 13 = .ok (.ireturn, 1) := by decide +kernel
theorem dX7_readsShore_14 : decode cX7_readsShore 14 = .ok (.iconst 1, 1) := by decide +kernel
theorem dX7_readsShore_15 : decode cX7_readsShore 15 = .ok (.istore_n 1, 1) := by decide +kernel
theorem dX7_readsShore_16 : decode cX7_readsShore 16 = .ok (.aload_n 0, 1) := by decide +kernel
theorem dX7_readsShore_17 : decode cX7_readsShore 17 = .ok (.invokevirtual 150, 3) := by decide +kernel
theorem dX7_readsShore_20 : decode cX7_readsShore 20 = .ok (.aload_n 0, 1) := by decide +kernel
theorem dX7_readsShore_21 : decode cX7_readsShore 21 = .ok (.getfield 135, 3) := by decide +kernel
theorem dX7_readsShore_24 : decode cX7_readsShore 24 = .ok (.aload_n 0, 1) := by decide +kernel
theorem dX7_readsShore_25 : decode cX7_readsShore 25 = .ok (.getfield 132, 3) := by decide +kernel
theorem dX7_readsShore_28 : decode cX7_readsShore 28 = .ok (.if_icmp .ge 22, 3) := by decide +kernel
theorem dX7_readsShore_31 : decode cX7_readsShore 31 = .ok (.aload_n 0, 1) := by decide +kernel
theorem dX7_readsShore_32 : decode cX7_readsShore 32 = .ok (.invokevirtual 201, 3) := by decide +kernel
theorem dX7_readsShore_35 : decode cX7_readsShore 35 = .ok (.ifCond .ne 5, 3) := by decide +kernel
theorem dX7_readsShore_38 : decode cX7_readsShore 38 = .ok (.iconst (-1), 1) := by decide +kernel
theorem dX7_readsShore_39 : decode cX7_readsShore 39 = .ok (.ireturn, 1) := by decide +kernel
theorem dX7_readsShore_40 : decode cX7_readsShore 40 = .ok (.iinc 1 1, 3) := by decide +kernel
theorem dX7_readsShore_43 : decode cX7_readsShore 43 = .ok (.aload_n 0, 1) := by decide +kernel
theorem dX7_readsShore_44 : decode cX7_readsShore 44 = .ok (.invokevirtual 150, 3) := by decide +kernel
theorem dX7_readsShore_47 : decode cX7_readsShore 47 = .ok (.goto (-27), 3) := by decide +kernel
theorem dX7_readsShore_50 : decode cX7_readsShore 50 = .ok (.iload_n 1, 1) := by decide +kernel
theorem dX7_readsShore_51 : decode cX7_readsShore 51 = .ok (.ireturn, 1) := by decide +kernel
theorem dX7_read_0 : decode cX7_read 0 = .ok (.aload_n 0, 1) := by decide +kernel
theorem dX7_read_1 : decode cX7_read 1 = .ok (.aload_n 0, 1) := by decide +kernel
theorem dX7_read_2 : decode cX7_read 2 = .ok (.getfield 46, 3) := by decide +kernel
theorem dX7_read_5 : decode cX7_read 5 = .ok (.iconst 0, 1) := by decide +kernel
theorem dX7_read_6 : decode cX7_read 6 = .ok (.invokevirtual 204, 3) := by decide +kernel
theorem dX7_read_9 : decode cX7_read 9 = .ok (.aload_n 0, 1) := by decide +kernel
theorem dX7_read_10 : decode cX7_read 10 = .ok (.invokevirtual 208, 3) := by decide +kernel
theorem dX7_read_13 : decode cX7_read 13 = .ok (.istore_n 1, 1) := by decide +kernel
theorem dX7_read_14 : decode cX7_read 14 = .ok (.iload_n 1, 1) := by decide +kernel
theorem dX7_read_15 : decode cX7_read 15 = .ok (.ifCond .ge 20, 3) := by decide +kernel
theorem dX7_read_18 : decode cX7_read 18 = .ok (.aload_n 0, 1) := by decide +kernel
theorem dX7_read_19 : decode cX7_read 19 = .ok (.aload_n 0, 1) := by decide +kernel
theorem dX7_read_20 : decode cX7_read 20 = .ok (.getfield 46, 3) := by decide +kernel
theorem dX7_read_23 : decode cX7_read 23 = .ok (.iconst 0, 1) := by decide +kernel
theorem dX7_read_24 : decode cX7_read 24 = .ok (.invokevirtual 211, 3) := by decide +kernel
theorem dX7_read_27 : decode cX7_read 27 = .ok (.bipush (-10), 2) := by decide +kernel
theorem dX7_read_29 : decode cX7_read 29 = .ok (.aload_n 0, 1) := by decide +kernel
theorem dX7_read_30 : decode cX7_read 30 = .ok (.getfield 135, 3) := by decide +kernel
theorem dX7_read_33 : decode cX7_read 33 = .ok (.isub, 1) := by decide +kernel
theorem dX7_read_34 : decode cX7_read 34 = .ok (.ireturn, 1) := by decide +kernel
theorem dX7_read_35 : decode cX7_read 35 = .ok (.aload_n 0, 1) := by decide +kernel
theorem dX7_read_36 : decode cX7_read 36 = .ok (.iconst 0, 1) := by decide +kernel
theorem dX7_read_37 : decode cX7_read 37 = .ok (.putfield 103, 3) := by decide +kernel
theorem dX7_read_40 : decode cX7_read 40 = .ok (.iload_n 1, 1) := by decide +kernel
theorem dX7_read_41 : decode cX7_read 41 = .ok (.ireturn, 1) := by decide +kernel
theorem dX7_weighsBy_0 : decode cX7_weighsBy 0 = .ok (.iload_n 1, 1) := by decide +kernel
theorem dX7_weighsBy_1 : decode cX7_weighsBy 1 = .ok (.iconst 1, 1) := by decide +kernel
theorem dX7_weighsBy_2 : decode cX7_weighsBy 2 = .ok (.iadd, 1) := by decide +kernel
theorem dX7_weighsBy_3 : decode cX7_weighsBy 3 = .ok (.iconst 2, 1) := by decide +kernel
theorem dX7_weighsBy_4 : decode cX7_weighsBy 4 = .ok (.idiv, 1) := by decide +kernel
theorem dX7_weighsBy_5 : decode cX7_weighsBy 5 = .ok (.istore_n 3, 1) := by decide +kernel
theorem dX7_weighsBy_6 : decode cX7_weighsBy 6 = .ok (.iload_n 0, 1) := by decide +kernel
theorem dX7_weighsBy_7 : decode cX7_weighsBy 7 = .ok (.tableswitch 77 1 5 #[33, 37, 39, 56, 67], 33) := by decide +kernel
theorem dX7_weighsBy_40 : decode cX7_weighsBy 40 = .ok (.iload_n 1, 1) := by decide +kernel
theorem dX7_weighsBy_41 : decode cX7_weighsBy 41 = .ok (.iconst 2, 1) := by decide +kernel
theorem dX7_weighsBy_42 : decode cX7_weighsBy 42 = .ok (.iadd, 1) := by decide +kernel
theorem dX7_weighsBy_43 : decode cX7_weighsBy 43 = .ok (.ireturn, 1) := by decide +kernel
theorem dX7_weighsBy_44 : decode cX7_weighsBy 44 = .ok (.iload_n 3, 1) := by decide +kernel
theorem dX7_weighsBy_45 : decode cX7_weighsBy 45 = .ok (.ireturn, 1) := by decide +kernel
theorem dX7_weighsBy_46 : decode cX7_weighsBy 46 = .ok (.iload_n 2, 1) := by decide +kernel
theorem dX7_weighsBy_47 : decode cX7_weighsBy 47 = .ok (.iconst 3, 1) := by decide +kernel
theorem dX7_weighsBy_48 : decode cX7_weighsBy 48 = .ok (.if_icmp .lt 11, 3) := by decide +kernel
theorem dX7_weighsBy_51 : decode cX7_weighsBy 51 = .ok (.iconst 2, 1) := by decide +kernel
theorem dX7_weighsBy_52 : decode cX7_weighsBy 52 = .ok (.iload_n 1, 1) := by decide +kernel
theorem dX7_weighsBy_53 : decode cX7_weighsBy 53 = .ok (.iconst 2, 1) := by decide +kernel
theorem dX7_weighsBy_54 : decode cX7_weighsBy 54 = .ok (.iadd, 1) := by decide +kernel
theorem dX7_weighsBy_55 : decode cX7_weighsBy 55 = .ok (.imul, 1) := by decide +kernel
theorem dX7_weighsBy_56 : decode cX7_weighsBy 56 = .ok (.goto 6, 3) := by decide +kernel
theorem dX7_weighsBy_59 : decode cX7_weighsBy 59 = .ok (.iload_n 1, 1) := by decide +kernel
theorem dX7_weighsBy_60 : decode cX7_weighsBy 60 = .ok (.iconst 2, 1) := by decide +kernel
theorem dX7_weighsBy_61 : decode cX7_weighsBy 61 = .ok (.iadd, 1) := by decide +kernel
theorem dX7_weighsBy_62 : decode cX7_weighsBy 62 = .ok (.ireturn, 1) := by decide +kernel
theorem dX7_weighsBy_63 : decode cX7_weighsBy 63 = .ok (.iload_n 2, 1) := by decide +kernel
theorem dX7_weighsBy_64 : decode cX7_weighsBy 64 = .ok (.iconst 5, 1) := by decide +kernel
theorem dX7_weighsBy_65 : decode cX7_weighsBy 65 = .ok (.if_icmp .lt 7, 3) := by decide +kernel
theorem dX7_weighsBy_68 : decode cX7_weighsBy 68 = .ok (.iconst 0, 1) := by decide +kernel
theorem dX7_weighsBy_69 : decode cX7_weighsBy 69 = .ok (.goto 4, 3) := by decide +kernel
theorem dX7_weighsBy_72 : decode cX7_weighsBy 72 = .ok (.iload_n 3, 1) := by decide +kernel
theorem dX7_weighsBy_73 : decode cX7_weighsBy 73 = .ok (.ireturn, 1) := by decide +kernel
theorem dX7_weighsBy_74 : decode cX7_weighsBy 74 = .ok (.iload_n 1, 1) := by decide +kernel
theorem dX7_weighsBy_75 : decode cX7_weighsBy 75 = .ok (.iconst 0, 1) := by decide +kernel
theorem dX7_weighsBy_76 : decode cX7_weighsBy 76 = .ok (.iconst 3, 1) := by decide +kernel
theorem dX7_weighsBy_77 : decode cX7_weighsBy 77 = .ok (.iload_n 2, 1) := by decide +kernel
theorem dX7_weighsBy_78 : decode cX7_weighsBy 78 = .ok (.isub, 1) := by decide +kernel
theorem dX7_weighsBy_79 : decode cX7_weighsBy 79 = .ok (.invokestatic 214, 3) := by decide +kernel
theorem dX7_weighsBy_82 : decode cX7_weighsBy 82 = .ok (.iadd, 1) := by decide +kernel
theorem dX7_weighsBy_83 : decode cX7_weighsBy 83 = .ok (.ireturn, 1) := by decide +kernel
theorem dX7_weighsBy_84 : decode cX7_weighsBy 84 = .ok (.iload_n 1, 1) := by decide +kernel
theorem dX7_weighsBy_85 : decode cX7_weighsBy 85 = .ok (.ireturn, 1) := by decide +kernel
theorem dX7_feelsBy_0 : decode cX7_feelsBy 0 = .ok (.iload_n 1, 1) := by decide +kernel
theorem dX7_feelsBy_1 : decode cX7_feelsBy 1 = .ok (.iload_n 1, 1) := by decide +kernel
theorem dX7_feelsBy_2 : decode cX7_feelsBy 2 = .ok (.iconst 2, 1) := by decide +kernel
theorem dX7_feelsBy_3 : decode cX7_feelsBy 3 = .ok (.irem, 1) := by decide +kernel
theorem dX7_feelsBy_4 : decode cX7_feelsBy 4 = .ok (.isub, 1) := by decide +kernel
theorem dX7_feelsBy_5 : decode cX7_feelsBy 5 = .ok (.istore_n 2, 1) := by decide +kernel
theorem dX7_feelsBy_6 : decode cX7_feelsBy 6 = .ok (.iconst 5, 1) := by decide +kernel
theorem dX7_feelsBy_7 : decode cX7_feelsBy 7 = .ok (.iload_n 1, 1) := by decide +kernel
theorem dX7_feelsBy_8 : decode cX7_feelsBy 8 = .ok (.invokestatic 218, 3) := by decide +kernel
theorem dX7_feelsBy_11 : decode cX7_feelsBy 11 = .ok (.istore_n 3, 1) := by decide +kernel
theorem dX7_feelsBy_12 : decode cX7_feelsBy 12 = .ok (.iload_n 0, 1) := by decide +kernel
theorem dX7_feelsBy_13 : decode cX7_feelsBy 13 = .ok (.tableswitch 55 1 5 #[35, 37, 39, 43, 47], 35) := by decide +kernel
theorem dX7_feelsBy_48 : decode cX7_feelsBy 48 = .ok (.iload_n 2, 1) := by decide +kernel
theorem dX7_feelsBy_49 : decode cX7_feelsBy 49 = .ok (.ireturn, 1) := by decide +kernel
theorem dX7_feelsBy_50 : decode cX7_feelsBy 50 = .ok (.iload_n 3, 1) := by decide +kernel
theorem dX7_feelsBy_51 : decode cX7_feelsBy 51 = .ok (.ireturn, 1) := by decide +kernel
theorem dX7_feelsBy_52 : decode cX7_feelsBy 52 = .ok (.iload_n 2, 1) := by decide +kernel
theorem dX7_feelsBy_53 : decode cX7_feelsBy 53 = .ok (.iconst 1, 1) := by decide +kernel
theorem dX7_feelsBy_54 : decode cX7_feelsBy 54 = .ok (.iadd, 1) := by decide +kernel
theorem dX7_feelsBy_55 : decode cX7_feelsBy 55 = .ok (.ireturn, 1) := by decide +kernel
theorem dX7_feelsBy_56 : decode cX7_feelsBy 56 = .ok (.iconst 2, 1) := by decide +kernel
theorem dX7_feelsBy_57 : decode cX7_feelsBy 57 = .ok (.iload_n 1, 1) := by decide +kernel
theorem dX7_feelsBy_58 : decode cX7_feelsBy 58 = .ok (.imul, 1) := by decide +kernel
theorem dX7_feelsBy_59 : decode cX7_feelsBy 59 = .ok (.ireturn, 1) := by decide +kernel
theorem dX7_feelsBy_60 : decode cX7_feelsBy 60 = .ok (.iconst 0, 1) := by decide +kernel
theorem dX7_feelsBy_61 : decode cX7_feelsBy 61 = .ok (.iload_n 3, 1) := by decide +kernel
theorem dX7_feelsBy_62 : decode cX7_feelsBy 62 = .ok (.iconst 1, 1) := by decide +kernel
theorem dX7_feelsBy_63 : decode cX7_feelsBy 63 = .ok (.isub, 1) := by decide +kernel
theorem dX7_feelsBy_64 : decode cX7_feelsBy 64 = .ok (.invokestatic 214, 3) := by decide +kernel
theorem dX7_feelsBy_67 : decode cX7_feelsBy 67 = .ok (.ireturn, 1) := by decide +kernel
theorem dX7_feelsBy_68 : decode cX7_feelsBy 68 = .ok (.iload_n 1, 1) := by decide +kernel
theorem dX7_feelsBy_69 : decode cX7_feelsBy 69 = .ok (.ireturn, 1) := by decide +kernel
theorem dX7_weighs_0 : decode cX7_weighs 0 = .ok (.aload_n 0, 1) := by decide +kernel
theorem dX7_weighs_1 : decode cX7_weighs 1 = .ok (.getfield 16, 3) := by decide +kernel
theorem dX7_weighs_4 : decode cX7_weighs 4 = .ok (.iload_n 1, 1) := by decide +kernel
theorem dX7_weighs_5 : decode cX7_weighs 5 = .ok (.iaload, 1) := by decide +kernel
theorem dX7_weighs_6 : decode cX7_weighs 6 = .ok (.aload_n 0, 1) := by decide +kernel
theorem dX7_weighs_7 : decode cX7_weighs 7 = .ok (.getfield 19, 3) := by decide +kernel
theorem dX7_weighs_10 : decode cX7_weighs 10 = .ok (.iload_n 1, 1) := by decide +kernel
theorem dX7_weighs_11 : decode cX7_weighs 11 = .ok (.iaload, 1) := by decide +kernel
theorem dX7_weighs_12 : decode cX7_weighs 12 = .ok (.aload_n 0, 1) := by decide +kernel
theorem dX7_weighs_13 : decode cX7_weighs 13 = .ok (.getfield 28, 3) := by decide +kernel
theorem dX7_weighs_16 : decode cX7_weighs 16 = .ok (.iload_n 1, 1) := by decide +kernel
theorem dX7_weighs_17 : decode cX7_weighs 17 = .ok (.iaload, 1) := by decide +kernel
theorem dX7_weighs_18 : decode cX7_weighs 18 = .ok (.invokestatic 221, 3) := by decide +kernel
theorem dX7_weighs_21 : decode cX7_weighs 21 = .ok (.ireturn, 1) := by decide +kernel
theorem dX7_feltBy_0 : decode cX7_feltBy 0 = .ok (.aload_n 0, 1) := by decide +kernel
theorem dX7_feltBy_1 : decode cX7_feltBy 1 = .ok (.getfield 31, 3) := by decide +kernel
theorem dX7_feltBy_4 : decode cX7_feltBy 4 = .ok (.iload_n 2, 1) := by decide +kernel
theorem dX7_feltBy_5 : decode cX7_feltBy 5 = .ok (.iaload, 1) := by decide +kernel
theorem dX7_feltBy_6 : decode cX7_feltBy 6 = .ok (.aload_n 0, 1) := by decide +kernel
theorem dX7_feltBy_7 : decode cX7_feltBy 7 = .ok (.iload_n 1, 1) := by decide +kernel
theorem dX7_feltBy_8 : decode cX7_feltBy 8 = .ok (.invokevirtual 224, 3) := by decide +kernel
theorem dX7_feltBy_11 : decode cX7_feltBy 11 = .ok (.invokestatic 227, 3) := by decide +kernel
theorem dX7_feltBy_14 : decode cX7_feltBy 14 = .ok (.ireturn, 1) := by decide +kernel
theorem dX7_looksFor_0 : decode cX7_looksFor 0 = .ok (.aload_n 0, 1) := by decide +kernel
theorem dX7_looksFor_1 : decode cX7_looksFor 1 = .ok (.iload_n 1, 1) := by decide +kernel
theorem dX7_looksFor_2 : decode cX7_looksFor 2 = .ok (.invokevirtual 230, 3) := by decide +kernel
theorem dX7_looksFor_5 : decode cX7_looksFor 5 = .ok (.ifCond .eq 12, 3) := by decide +kernel
theorem dX7_looksFor_8 : decode cX7_looksFor 8 = .ok (.aload_n 0, 1) := by decide +kernel
theorem dX7_looksFor_9 : decode cX7_looksFor 9 = .ok (.getfield 19, 3) := by decide +kernel
theorem dX7_looksFor_12 : decode cX7_looksFor 12 = .ok (.iload_n 1, 1) := by decide +kernel
theorem dX7_looksFor_13 : decode cX7_looksFor 13 = .ok (.iaload, 1) := by decide +kernel
theorem dX7_looksFor_14 : decode cX7_looksFor 14 = .ok (.goto 4, 3) := by decide +kernel
theorem dX7_looksFor_17 : decode cX7_looksFor 17 = .ok (.iconst 5, 1) := by decide +kernel
theorem dX7_looksFor_18 : decode cX7_looksFor 18 = .ok (.ireturn, 1) := by decide +kernel
theorem dX7_off_0 : decode cX7_off 0 = .ok (.aload_n 0, 1) := by decide +kernel
theorem dX7_off_1 : decode cX7_off 1 = .ok (.iload_n 1, 1) := by decide +kernel
theorem dX7_off_2 : decode cX7_off 2 = .ok (.iload_n 2, 1) := by decide +kernel
theorem dX7_off_3 : decode cX7_off 3 = .ok (.invokevirtual 233, 3) := by decide +kernel
theorem dX7_off_6 : decode cX7_off 6 = .ok (.aload_n 0, 1) := by decide +kernel
theorem dX7_off_7 : decode cX7_off 7 = .ok (.iload_n 2, 1) := by decide +kernel
theorem dX7_off_8 : decode cX7_off 8 = .ok (.invokevirtual 236, 3) := by decide +kernel
theorem dX7_off_11 : decode cX7_off 11 = .ok (.isub, 1) := by decide +kernel
theorem dX7_off_12 : decode cX7_off 12 = .ok (.invokestatic 239, 3) := by decide +kernel
theorem dX7_off_15 : decode cX7_off 15 = .ok (.ireturn, 1) := by decide +kernel
theorem dX7_heldBy_0 : decode cX7_heldBy 0 = .ok (.aload_n 0, 1) := by decide +kernel
theorem dX7_heldBy_1 : decode cX7_heldBy 1 = .ok (.getfield 81, 3) := by decide +kernel
theorem dX7_heldBy_4 : decode cX7_heldBy 4 = .ok (.iconst 1, 1) := by decide +kernel
theorem dX7_heldBy_5 : decode cX7_heldBy 5 = .ok (.isub, 1) := by decide +kernel
theorem dX7_heldBy_6 : decode cX7_heldBy 6 = .ok (.istore_n 2, 1) := by decide +kernel
theorem dX7_heldBy_7 : decode cX7_heldBy 7 = .ok (.iload_n 2, 1) := by decide +kernel
theorem dX7_heldBy_8 : decode cX7_heldBy 8 = .ok (.ifCond .lt 19, 3) := by decide +kernel
theorem dX7_heldBy_11 : decode cX7_heldBy 11 = .ok (.aload_n 0, 1) := by decide +kernel
theorem dX7_heldBy_12 : decode cX7_heldBy 12 = .ok (.getfield 25, 3) := by decide +kernel
theorem dX7_heldBy_15 : decode cX7_heldBy 15 = .ok (.iload_n 2, 1) := by decide +kernel
theorem dX7_heldBy_16 : decode cX7_heldBy 16 = .ok (.iaload, 1) := by decide +kernel
theorem dX7_heldBy_17 : decode cX7_heldBy 17 = .ok (.iload_n 1, 1) := by decide +kernel
theorem dX7_heldBy_18 : decode cX7_heldBy 18 = .ok (.if_icmp .eq 9, 3) := by decide +kernel
theorem dX7_heldBy_21 : decode cX7_heldBy 21 = .ok (.iinc 2 (-1), 3) := by decide +kernel
theorem dX7_heldBy_24 : decode cX7_heldBy 24 = .ok (.goto (-17), 3) := by decide +kernel
theorem dX7_heldBy_27 : decode cX7_heldBy 27 = .ok (.iload_n 2, 1) := by decide +kernel
theorem dX7_heldBy_28 : decode cX7_heldBy 28 = .ok (.ireturn, 1) := by decide +kernel
theorem dX7_nearest_0 : decode cX7_nearest 0 = .ok (.iconst (-1), 1) := by decide +kernel
theorem dX7_nearest_1 : decode cX7_nearest 1 = .ok (.istore_n 2, 1) := by decide +kernel
theorem dX7_nearest_2 : decode cX7_nearest 2 = .ok (.iconst 0, 1) := by decide +kernel
theorem dX7_nearest_3 : decode cX7_nearest 3 = .ok (.istore_n 3, 1) := by decide +kernel
theorem dX7_nearest_4 : decode cX7_nearest 4 = .ok (.iload_n 3, 1) := by decide +kernel
theorem dX7_nearest_5 : decode cX7_nearest 5 = .ok (.aload_n 0, 1) := by decide +kernel
theorem dX7_nearest_6 : decode cX7_nearest 6 = .ok (.getfield 81, 3) := by decide +kernel
theorem dX7_nearest_9 : decode cX7_nearest 9 = .ok (.if_icmp .ge 45, 3) := by decide +kernel
theorem dX7_nearest_12 : decode cX7_nearest 12 = .ok (.aload_n 0, 1) := by decide +kernel
theorem dX7_nearest_13 : decode cX7_nearest 13 = .ok (.getfield 22, 3) := by decide +kernel
theorem dX7_nearest_16 : decode cX7_nearest 16 = .ok (.iload_n 3, 1) := by decide +kernel
theorem dX7_nearest_17 : decode cX7_nearest 17 = .ok (.iaload, 1) := by decide +kernel
theorem dX7_nearest_18 : decode cX7_nearest 18 = .ok (.iconst (-1), 1) := by decide +kernel
theorem dX7_nearest_19 : decode cX7_nearest 19 = .ok (.if_icmp .ne 27, 3) := by decide +kernel
theorem dX7_nearest_22 : decode cX7_nearest 22 = .ok (.iload_n 2, 1) := by decide +kernel
theorem dX7_nearest_23 : decode cX7_nearest 23 = .ok (.iconst (-1), 1) := by decide +kernel
theorem dX7_nearest_24 : decode cX7_nearest 24 = .ok (.if_icmp .eq 18, 3) := by decide +kernel
theorem dX7_nearest_27 : decode cX7_nearest 27 = .ok (.aload_n 0, 1) := by decide +kernel
theorem dX7_nearest_28 : decode cX7_nearest 28 = .ok (.iload_n 3, 1) := by decide +kernel
theorem dX7_nearest_29 : decode cX7_nearest 29 = .ok (.iload_n 1, 1) := by decide +kernel
theorem dX7_nearest_30 : decode cX7_nearest 30 = .ok (.invokevirtual 242, 3) := by decide +kernel
theorem dX7_nearest_33 : decode cX7_nearest 33 = .ok (.aload_n 0, 1) := by decide +kernel
theorem dX7_nearest_34 : decode cX7_nearest 34 = .ok (.iload_n 2, 1) := by decide +kernel
theorem dX7_nearest_35 : decode cX7_nearest 35 = .ok (.iload_n 1, 1) := by decide +kernel
theorem dX7_nearest_36 : decode cX7_nearest 36 = .ok (.invokevirtual 242, 3) := by decide +kernel
theorem dX7_nearest_39 : decode cX7_nearest 39 = .ok (.if_icmp .ge 7, 3) := by decide +kernel
theorem dX7_nearest_42 : decode cX7_nearest 42 = .ok (.iload_n 3, 1) := by decide +kernel
theorem dX7_nearest_43 : decode cX7_nearest 43 = .ok (.goto 4, 3) := by decide +kernel
theorem dX7_nearest_46 : decode cX7_nearest 46 = .ok (.iload_n 2, 1) := by decide +kernel
theorem dX7_nearest_47 : decode cX7_nearest 47 = .ok (.istore_n 2, 1) := by decide +kernel
theorem dX7_nearest_48 : decode cX7_nearest 48 = .ok (.iinc 3 1, 3) := by decide +kernel
theorem dX7_nearest_51 : decode cX7_nearest 51 = .ok (.goto (-47), 3) := by decide +kernel
theorem dX7_nearest_54 : decode cX7_nearest 54 = .ok (.iload_n 2, 1) := by decide +kernel
theorem dX7_nearest_55 : decode cX7_nearest 55 = .ok (.ireturn, 1) := by decide +kernel
theorem dX7_wouldTake_0 : decode cX7_wouldTake 0 = .ok (.aload_n 0, 1) := by decide +kernel
theorem dX7_wouldTake_1 : decode cX7_wouldTake 1 = .ok (.iload_n 1, 1) := by decide +kernel
theorem dX7_wouldTake_2 : decode cX7_wouldTake 2 = .ok (.invokevirtual 245, 3) := by decide +kernel
theorem dX7_wouldTake_5 : decode cX7_wouldTake 5 = .ok (.iconst (-1), 1) := by decide +kernel
theorem dX7_wouldTake_6 : decode cX7_wouldTake 6 = .ok (.if_icmp .ne 11, 3) := by decide +kernel
theorem dX7_wouldTake_9 : decode cX7_wouldTake 9 = .ok (.aload_n 0, 1) := by decide +kernel
theorem dX7_wouldTake_10 : decode cX7_wouldTake 10 = .ok (.iload_n 1, 1) := by decide +kernel
theorem dX7_wouldTake_11 : decode cX7_wouldTake 11 = .ok (.invokevirtual 248, 3) := by decide +kernel
theorem dX7_wouldTake_14 : decode cX7_wouldTake 14 = .ok (.goto 4, 3) := by decide +kernel
theorem dX7_wouldTake_17 : decode cX7_wouldTake 17 = .ok (.iconst (-1), 1) := by decide +kernel
theorem dX7_wouldTake_18 : decode cX7_wouldTake 18 = .ok (.ireturn, 1) := by decide +kernel
theorem dX7_takesOne_0 : decode cX7_takesOne 0 = .ok (.aload_n 0, 1) := by decide +kernel
theorem dX7_takesOne_1 : decode cX7_takesOne 1 = .ok (.getfield 22, 3) := by decide +kernel
theorem dX7_takesOne_4 : decode cX7_takesOne 4 = .ok (.iload_n 2, 1) := by decide +kernel
theorem dX7_takesOne_5 : decode cX7_takesOne 5 = .ok (.bipush (-2), 2) := by decide +kernel
theorem dX7_takesOne_7 : decode cX7_takesOne 7 = .ok (.iastore, 1) := by decide +kernel
theorem dX7_takesOne_8 : decode cX7_takesOne 8 = .ok (.aload_n 0, 1) := by decide +kernel
theorem dX7_takesOne_9 : decode cX7_takesOne 9 = .ok (.getfield 25, 3) := by decide +kernel
theorem dX7_takesOne_12 : decode cX7_takesOne 12 = .ok (.iload_n 2, 1) := by decide +kernel
theorem dX7_takesOne_13 : decode cX7_takesOne 13 = .ok (.iload_n 1, 1) := by decide +kernel
theorem dX7_takesOne_14 : decode cX7_takesOne 14 = .ok (.iastore, 1) := by decide +kernel
theorem dX7_takesOne_15 : decode cX7_takesOne 15 = .ok (.return_, 1) := by decide +kernel
theorem dX7_countAt_0 : decode cX7_countAt 0 = .ok (.iconst 0, 1) := by decide +kernel
theorem dX7_countAt_1 : decode cX7_countAt 1 = .ok (.istore_n 2, 1) := by decide +kernel
theorem dX7_countAt_2 : decode cX7_countAt 2 = .ok (.iconst 0, 1) := by decide +kernel
theorem dX7_countAt_3 : decode cX7_countAt 3 = .ok (.istore_n 3, 1) := by decide +kernel
theorem dX7_countAt_4 : decode cX7_countAt 4 = .ok (.iload_n 3, 1) := by decide +kernel
theorem dX7_countAt_5 : decode cX7_countAt 5 = .ok (.aload_n 0, 1) := by decide +kernel
theorem dX7_countAt_6 : decode cX7_countAt 6 = .ok (.getfield 81, 3) := by decide +kernel
theorem dX7_countAt_9 : decode cX7_countAt 9 = .ok (.if_icmp .ge 27, 3) := by decide +kernel
theorem dX7_countAt_12 : decode cX7_countAt 12 = .ok (.iload_n 2, 1) := by decide +kernel
theorem dX7_countAt_13 : decode cX7_countAt 13 = .ok (.aload_n 0, 1) := by decide +kernel
theorem dX7_countAt_14 : decode cX7_countAt 14 = .ok (.getfield 22, 3) := by decide +kernel
theorem dX7_countAt_17 : decode cX7_countAt 17 = .ok (.iload_n 3, 1) := by decide +kernel
theorem dX7_countAt_18 : decode cX7_countAt 18 = .ok (.iaload, 1) := by decide +kernel
theorem dX7_countAt_19 : decode cX7_countAt 19 = .ok (.iload_n 1, 1) := by decide +kernel
theorem dX7_countAt_20 : decode cX7_countAt 20 = .ok (.if_icmp .ne 7, 3) := by decide +kernel
theorem dX7_countAt_23 : decode cX7_countAt 23 = .ok (.iconst 1, 1) := by decide +kernel
theorem dX7_countAt_24 : decode cX7_countAt 24 = .ok (.goto 4, 3) := by decide +kernel
theorem dX7_countAt_27 : decode cX7_countAt 27 = .ok (.iconst 0, 1) := by decide +kernel
theorem dX7_countAt_28 : decode cX7_countAt 28 = .ok (.iadd, 1) := by decide +kernel
theorem dX7_countAt_29 : decode cX7_countAt 29 = .ok (.istore_n 2, 1) := by decide +kernel
theorem dX7_countAt_30 : decode cX7_countAt 30 = .ok (.iinc 3 1, 3) := by decide +kernel
theorem dX7_countAt_33 : decode cX7_countAt 33 = .ok (.goto (-29), 3) := by decide +kernel
theorem dX7_countAt_36 : decode cX7_countAt 36 = .ok (.iload_n 2, 1) := by decide +kernel
theorem dX7_countAt_37 : decode cX7_countAt 37 = .ok (.ireturn, 1) := by decide +kernel
theorem dX7_adriftMany_0 : decode cX7_adriftMany 0 = .ok (.aload_n 0, 1) := by decide +kernel
theorem dX7_adriftMany_1 : decode cX7_adriftMany 1 = .ok (.getfield 81, 3) := by decide +kernel
theorem dX7_adriftMany_4 : decode cX7_adriftMany 4 = .ok (.aload_n 0, 1) := by decide +kernel
theorem dX7_adriftMany_5 : decode cX7_adriftMany 5 = .ok (.iconst (-1), 1) := by decide +kernel
theorem dX7_adriftMany_6 : decode cX7_adriftMany 6 = .ok (.invokevirtual 251, 3) := by decide +kernel
theorem dX7_adriftMany_9 : decode cX7_adriftMany 9 = .ok (.isub, 1) := by decide +kernel
theorem dX7_adriftMany_10 : decode cX7_adriftMany 10 = .ok (.aload_n 0, 1) := by decide +kernel
theorem dX7_adriftMany_11 : decode cX7_adriftMany 11 = .ok (.bipush (-2), 2) := by decide +kernel
theorem dX7_adriftMany_13 : decode cX7_adriftMany 13 = .ok (.invokevirtual 251, 3) := by decide +kernel
theorem dX7_adriftMany_16 : decode cX7_adriftMany 16 = .ok (.isub, 1) := by decide +kernel
theorem dX7_adriftMany_17 : decode cX7_adriftMany 17 = .ok (.ireturn, 1) := by decide +kernel
theorem dX7_drift_0 : decode cX7_drift 0 = .ok (.iload_n 1, 1) := by decide +kernel
theorem dX7_drift_1 : decode cX7_drift 1 = .ok (.aload_n 0, 1) := by decide +kernel
theorem dX7_drift_2 : decode cX7_drift 2 = .ok (.getfield 13, 3) := by decide +kernel
theorem dX7_drift_5 : decode cX7_drift 5 = .ok (.iload_n 1, 1) := by decide +kernel
theorem dX7_drift_6 : decode cX7_drift 6 = .ok (.iaload, 1) := by decide +kernel
theorem dX7_drift_7 : decode cX7_drift 7 = .ok (.iadd, 1) := by decide +kernel
theorem dX7_drift_8 : decode cX7_drift 8 = .ok (.invokestatic 254, 3) := by decide +kernel
theorem dX7_drift_11 : decode cX7_drift 11 = .ok (.ireturn, 1) := by decide +kernel
theorem dX7_passes_0 : decode cX7_passes 0 = .ok (.iconst 0, 1) := by decide +kernel
theorem dX7_passes_1 : decode cX7_passes 1 = .ok (.istore_n 1, 1) := by decide +kernel
theorem dX7_passes_2 : decode cX7_passes 2 = .ok (.iload_n 1, 1) := by decide +kernel
theorem dX7_passes_3 : decode cX7_passes 3 = .ok (.aload_n 0, 1) := by decide +kernel
theorem dX7_passes_4 : decode cX7_passes 4 = .ok (.getfield 81, 3) := by decide +kernel
theorem dX7_passes_7 : decode cX7_passes 7 = .ok (.if_icmp .ge 66, 3) := by decide +kernel
theorem dX7_passes_10 : decode cX7_passes 10 = .ok (.aload_n 0, 1) := by decide +kernel
theorem dX7_passes_11 : decode cX7_passes 11 = .ok (.getfield 22, 3) := by decide +kernel
theorem dX7_passes_14 : decode cX7_passes 14 = .ok (.iload_n 1, 1) := by decide +kernel
theorem dX7_passes_15 : decode cX7_passes 15 = .ok (.iaload, 1) := by decide +kernel
theorem dX7_passes_16 : decode cX7_passes 16 = .ok (.ifCond .lt 22, 3) := by decide +kernel
theorem dX7_passes_19 : decode cX7_passes 19 = .ok (.aload_n 0, 1) := by decide +kernel
theorem dX7_passes_20 : decode cX7_passes 20 = .ok (.getfield 22, 3) := by decide +kernel
theorem dX7_passes_23 : decode cX7_passes 23 = .ok (.iload_n 1, 1) := by decide +kernel
theorem dX7_passes_24 : decode cX7_passes 24 = .ok (.aload_n 0, 1) := by decide +kernel
theorem dX7_passes_25 : decode cX7_passes 25 = .ok (.aload_n 0, 1) := by decide +kernel
theorem dX7_passes_26 : decode cX7_passes 26 = .ok (.getfield 22, 3) := by decide +kernel
theorem dX7_passes_29 : decode cX7_passes 29 = .ok (.iload_n 1, 1) := by decide +kernel
theorem dX7_passes_30 : decode cX7_passes 30 = .ok (.iaload, 1) := by decide +kernel
theorem dX7_passes_31 : decode cX7_passes 31 = .ok (.invokevirtual 257, 3) := by decide +kernel
theorem dX7_passes_34 : decode cX7_passes 34 = .ok (.iastore, 1) := by decide +kernel
theorem dX7_passes_35 : decode cX7_passes 35 = .ok (.goto 32, 3) := by decide +kernel
theorem dX7_passes_38 : decode cX7_passes 38 = .ok (.aload_n 0, 1) := by decide +kernel
theorem dX7_passes_39 : decode cX7_passes 39 = .ok (.getfield 22, 3) := by decide +kernel
theorem dX7_passes_42 : decode cX7_passes 42 = .ok (.iload_n 1, 1) := by decide +kernel
theorem dX7_passes_43 : decode cX7_passes 43 = .ok (.iaload, 1) := by decide +kernel
theorem dX7_passes_44 : decode cX7_passes 44 = .ok (.iconst (-1), 1) := by decide +kernel
theorem dX7_passes_45 : decode cX7_passes 45 = .ok (.if_icmp .ne 22, 3) := by decide +kernel
theorem dX7_passes_48 : decode cX7_passes 48 = .ok (.aload_n 0, 1) := by decide +kernel
theorem dX7_passes_49 : decode cX7_passes 49 = .ok (.getfield 28, 3) := by decide +kernel
theorem dX7_passes_52 : decode cX7_passes 52 = .ok (.iload_n 1, 1) := by decide +kernel
theorem dX7_passes_53 : decode cX7_passes 53 = .ok (.bipush 99, 2) := by decide +kernel
theorem dX7_passes_55 : decode cX7_passes 55 = .ok (.aload_n 0, 1) := by decide +kernel
theorem dX7_passes_56 : decode cX7_passes 56 = .ok (.getfield 28, 3) := by decide +kernel
theorem dX7_passes_59 : decode cX7_passes 59 = .ok (.iload_n 1, 1) := by decide +kernel
theorem dX7_passes_60 : decode cX7_passes 60 = .ok (.iaload, 1) := by decide +kernel
theorem dX7_passes_61 : decode cX7_passes 61 = .ok (.iconst 1, 1) := by decide +kernel
theorem dX7_passes_62 : decode cX7_passes 62 = .ok (.iadd, 1) := by decide +kernel
theorem dX7_passes_63 : decode cX7_passes 63 = .ok (.invokestatic 218, 3) := by decide +kernel
theorem dX7_passes_66 : decode cX7_passes 66 = .ok (.iastore, 1) := by decide +kernel
theorem dX7_passes_67 : decode cX7_passes 67 = .ok (.iinc 1 1, 3) := by decide +kernel
theorem dX7_passes_70 : decode cX7_passes 70 = .ok (.goto (-68), 3) := by decide +kernel
theorem dX7_passes_73 : decode cX7_passes 73 = .ok (.aload_n 0, 1) := by decide +kernel
theorem dX7_passes_74 : decode cX7_passes 74 = .ok (.dup, 1) := by decide +kernel
theorem dX7_passes_75 : decode cX7_passes 75 = .ok (.getfield 88, 3) := by decide +kernel
theorem dX7_passes_78 : decode cX7_passes 78 = .ok (.iconst 1, 1) := by decide +kernel
theorem dX7_passes_79 : decode cX7_passes 79 = .ok (.iadd, 1) := by decide +kernel
theorem dX7_passes_80 : decode cX7_passes 80 = .ok (.putfield 88, 3) := by decide +kernel
theorem dX7_passes_83 : decode cX7_passes 83 = .ok (.return_, 1) := by decide +kernel
theorem dX7_goesBy_0 : decode cX7_goesBy 0 = .ok (.aload_n 0, 1) := by decide +kernel
theorem dX7_goesBy_1 : decode cX7_goesBy 1 = .ok (.aload_n 0, 1) := by decide +kernel
theorem dX7_goesBy_2 : decode cX7_goesBy 2 = .ok (.getfield 91, 3) := by decide +kernel
theorem dX7_goesBy_5 : decode cX7_goesBy 5 = .ok (.iload_n 1, 1) := by decide +kernel
theorem dX7_goesBy_6 : decode cX7_goesBy 6 = .ok (.iadd, 1) := by decide +kernel
theorem dX7_goesBy_7 : decode cX7_goesBy 7 = .ok (.invokestatic 254, 3) := by decide +kernel
theorem dX7_goesBy_10 : decode cX7_goesBy 10 = .ok (.putfield 91, 3) := by decide +kernel
theorem dX7_goesBy_13 : decode cX7_goesBy 13 = .ok (.aload_n 0, 1) := by decide +kernel
theorem dX7_goesBy_14 : decode cX7_goesBy 14 = .ok (.aload_n 0, 1) := by decide +kernel
theorem dX7_goesBy_15 : decode cX7_goesBy 15 = .ok (.getfield 91, 3) := by decide +kernel
theorem dX7_goesBy_18 : decode cX7_goesBy 18 = .ok (.invokevirtual 251, 3) := by decide +kernel
theorem dX7_goesBy_21 : decode cX7_goesBy 21 = .ok (.istore_n 2, 1) := by decide +kernel
theorem dX7_goesBy_22 : decode cX7_goesBy 22 = .ok (.iconst 0, 1) := by decide +kernel
theorem dX7_goesBy_23 : decode cX7_goesBy 23 = .ok (.istore_n 3, 1) := by decide +kernel
theorem dX7_goesBy_24 : decode cX7_goesBy 24 = .ok (.iload_n 3, 1) := by decide +kernel
theorem dX7_goesBy_25 : decode cX7_goesBy 25 = .ok (.aload_n 0, 1) := by decide +kernel
theorem dX7_goesBy_26 : decode cX7_goesBy 26 = .ok (.getfield 81, 3) := by decide +kernel
theorem dX7_goesBy_29 : decode cX7_goesBy 29 = .ok (.if_icmp .ge 36, 3) := by decide +kernel
theorem dX7_goesBy_32 : decode cX7_goesBy 32 = .ok (.aload_n 0, 1) := by decide +kernel
theorem dX7_goesBy_33 : decode cX7_goesBy 33 = .ok (.getfield 22, 3) := by decide +kernel
theorem dX7_goesBy_36 : decode cX7_goesBy 36 = .ok (.iload_n 3, 1) := by decide +kernel
theorem dX7_goesBy_37 : decode cX7_goesBy 37 = .ok (.iaload, 1) := by decide +kernel
theorem dX7_goesBy_38 : decode cX7_goesBy 38 = .ok (.aload_n 0, 1) := by decide +kernel
theorem dX7_goesBy_39 : decode cX7_goesBy 39 = .ok (.getfield 91, 3) := by decide +kernel
theorem dX7_goesBy_42 : decode cX7_goesBy 42 = .ok (.if_icmp .ne 17, 3) := by decide +kernel
theorem dX7_goesBy_45 : decode cX7_goesBy 45 = .ok (.aload_n 0, 1) := by decide +kernel
theorem dX7_goesBy_46 : decode cX7_goesBy 46 = .ok (.getfield 22, 3) := by decide +kernel
theorem dX7_goesBy_49 : decode cX7_goesBy 49 = .ok (.iload_n 3, 1) := by decide +kernel
theorem dX7_goesBy_50 : decode cX7_goesBy 50 = .ok (.iconst (-1), 1) := by decide +kernel
theorem dX7_goesBy_51 : decode cX7_goesBy 51 = .ok (.iastore, 1) := by decide +kernel
theorem dX7_goesBy_52 : decode cX7_goesBy 52 = .ok (.aload_n 0, 1) := by decide +kernel
theorem dX7_goesBy_53 : decode cX7_goesBy 53 = .ok (.getfield 28, 3) := by decide +kernel
theorem dX7_goesBy_56 : decode cX7_goesBy 56 = .ok (.iload_n 3, 1) := by decide +kernel
theorem dX7_goesBy_57 : decode cX7_goesBy 57 = .ok (.iconst 0, 1) := by decide +kernel
theorem dX7_goesBy_58 : decode cX7_goesBy 58 = .ok (.iastore, 1) := by decide +kernel
theorem dX7_goesBy_59 : decode cX7_goesBy 59 = .ok (.iinc 3 1, 3) := by decide +kernel
theorem dX7_goesBy_62 : decode cX7_goesBy 62 = .ok (.goto (-38), 3) := by decide +kernel
theorem dX7_goesBy_65 : decode cX7_goesBy 65 = .ok (.aload_n 0, 1) := by decide +kernel
theorem dX7_goesBy_66 : decode cX7_goesBy 66 = .ok (.getfield 88, 3) := by decide +kernel
theorem dX7_goesBy_69 : decode cX7_goesBy 69 = .ok (.sipush 999, 3) := by decide +kernel
theorem dX7_goesBy_72 : decode cX7_goesBy 72 = .ok (.if_icmp .lt 10, 3) := by decide +kernel
theorem dX7_goesBy_75 : decode cX7_goesBy 75 = .ok (.aload_n 0, 1) := by decide +kernel
theorem dX7_goesBy_76 : decode cX7_goesBy 76 = .ok (.getfield 260, 3) := by decide +kernel
theorem dX7_goesBy_79 : decode cX7_goesBy 79 = .ok (.ifCond .eq 7, 3) := by decide +kernel
theorem dX7_goesBy_82 : decode cX7_goesBy 82 = .ok (.aload_n 0, 1) := by decide +kernel
theorem dX7_goesBy_83 : decode cX7_goesBy 83 = .ok (.invokevirtual 177, 3) := by decide +kernel
theorem dX7_goesBy_86 : decode cX7_goesBy 86 = .ok (.iload_n 2, 1) := by decide +kernel
theorem dX7_goesBy_87 : decode cX7_goesBy 87 = .ok (.ireturn, 1) := by decide +kernel
