theorem dX0_init_0 : decode cX0_init 0 = .ok (.aload_n 0, 1) := by decide +kernel
theorem dX0_init_1 : decode cX0_init 1 = .ok (.invokespecial 3, 3) := by decide +kernel
theorem dX0_init_4 : decode cX0_init 4 = .ok (.aload_n 0, 1) := by decide +kernel
theorem dX0_init_5 : decode cX0_init 5 = .ok (.bipush 12, 2) := by decide +kernel
theorem dX0_init_7 : decode cX0_init 7 = .ok (.newarray .int, 2) := by decide +kernel
theorem dX0_init_9 : decode cX0_init 9 = .ok (.putfield 9, 3) := by decide +kernel
theorem dX0_init_12 : decode cX0_init 12 = .ok (.aload_n 0, 1) := by decide +kernel
theorem dX0_init_13 : decode cX0_init 13 = .ok (.bipush 6, 2) := by decide +kernel
theorem dX0_init_15 : decode cX0_init 15 = .ok (.newarray .int, 2) := by decide +kernel
theorem dX0_init_17 : decode cX0_init 17 = .ok (.putfield 15, 3) := by decide +kernel
theorem dX0_init_20 : decode cX0_init 20 = .ok (.aload_n 0, 1) := by decide +kernel
theorem dX0_init_21 : decode cX0_init 21 = .ok (.bipush 6, 2) := by decide +kernel
theorem dX0_init_23 : decode cX0_init 23 = .ok (.newarray .int, 2) := by decide +kernel
theorem dX0_init_25 : decode cX0_init 25 = .ok (.putfield 18, 3) := by decide +kernel
theorem dX0_init_28 : decode cX0_init 28 = .ok (.aload_n 0, 1) := by decide +kernel
theorem dX0_init_29 : decode cX0_init 29 = .ok (.bipush 6, 2) := by decide +kernel
theorem dX0_init_31 : decode cX0_init 31 = .ok (.newarray .int, 2) := by decide +kernel
theorem dX0_init_33 : decode cX0_init 33 = .ok (.putfield 21, 3) := by decide +kernel
theorem dX0_init_36 : decode cX0_init 36 = .ok (.aload_n 0, 1) := by decide +kernel
theorem dX0_init_37 : decode cX0_init 37 = .ok (.new 24, 3) := by decide +kernel
theorem dX0_init_40 : decode cX0_init 40 = .ok (.dup, 1) := by decide +kernel
theorem dX0_init_41 : decode cX0_init 41 = .ok (.invokespecial 26, 3) := by decide +kernel
theorem dX0_init_44 : decode cX0_init 44 = .ok (.putfield 27, 3) := by decide +kernel
theorem dX0_init_47 : decode cX0_init 47 = .ok (.aload_n 0, 1) := by decide +kernel
theorem dX0_init_48 : decode cX0_init 48 = .ok (.bipush 8, 2) := by decide +kernel
theorem dX0_init_50 : decode cX0_init 50 = .ok (.anewarray 24, 3) := by decide +kernel
theorem dX0_init_53 : decode cX0_init 53 = .ok (.putfield 31, 3) := by decide +kernel
theorem dX0_init_56 : decode cX0_init 56 = .ok (.aload_n 0, 1) := by decide +kernel
theorem dX0_init_57 : decode cX0_init 57 = .ok (.new 35, 3) := by decide +kernel
theorem dX0_init_60 : decode cX0_init 60 = .ok (.dup, 1) := by decide +kernel
theorem dX0_init_61 : decode cX0_init 61 = .ok (.iconst 5, 1) := by decide +kernel
theorem dX0_init_62 : decode cX0_init 62 = .ok (.iconst 2, 1) := by decide +kernel
theorem dX0_init_63 : decode cX0_init 63 = .ok (.invokespecial 37, 3) := by decide +kernel
theorem dX0_init_66 : decode cX0_init 66 = .ok (.putfield 40, 3) := by decide +kernel
theorem dX0_init_69 : decode cX0_init 69 = .ok (.aload_n 0, 1) := by decide +kernel
theorem dX0_init_70 : decode cX0_init 70 = .ok (.new 35, 3) := by decide +kernel
theorem dX0_init_73 : decode cX0_init 73 = .ok (.dup, 1) := by decide +kernel
theorem dX0_init_74 : decode cX0_init 74 = .ok (.bipush 6, 2) := by decide +kernel
theorem dX0_init_76 : decode cX0_init 76 = .ok (.iconst 4, 1) := by decide +kernel
theorem dX0_init_77 : decode cX0_init 77 = .ok (.invokespecial 37, 3) := by decide +kernel
theorem dX0_init_80 : decode cX0_init 80 = .ok (.putfield 44, 3) := by decide +kernel
theorem dX0_init_83 : decode cX0_init 83 = .ok (.aload_n 0, 1) := by decide +kernel
theorem dX0_init_84 : decode cX0_init 84 = .ok (.new 35, 3) := by decide +kernel
theorem dX0_init_87 : decode cX0_init 87 = .ok (.dup, 1) := by decide +kernel
theorem dX0_init_88 : decode cX0_init 88 = .ok (.bipush 6, 2) := by decide +kernel
theorem dX0_init_90 : decode cX0_init 90 = .ok (.iconst 3, 1) := by decide +kernel
theorem dX0_init_91 : decode cX0_init 91 = .ok (.invokespecial 37, 3) := by decide +kernel
theorem dX0_init_94 : decode cX0_init 94 = .ok (.putfield 47, 3) := by decide +kernel
theorem dX0_init_97 : decode cX0_init 97 = .ok (.iconst 0, 1) := by decide +kernel
theorem dX0_init_98 : decode cX0_init 98 = .ok (.istore_n 1, 1) := by decide +kernel
theorem dX0_init_99 : decode cX0_init 99 = .ok (.iload_n 1, 1) := by decide +kernel
theorem dX0_init_100 : decode cX0_init 100 = .ok (.bipush 8, 2) := by decide +kernel
theorem dX0_init_102 : decode cX0_init 102 = .ok (.if_icmp .ge 22, 3) := by decide +kernel
theorem dX0_init_105 : decode cX0_init 105 = .ok (.aload_n 0, 1) := by decide +kernel
theorem dX0_init_106 : decode cX0_init 106 = .ok (.getfield 31, 3) := by decide +kernel
theorem dX0_init_109 : decode cX0_init 109 = .ok (.iload_n 1, 1) := by decide +kernel
theorem dX0_init_110 : decode cX0_init 110 = .ok (.new 24, 3) := by decide +kernel
theorem dX0_init_113 : decode cX0_init 113 = .ok (.dup, 1) := by decide +kernel
theorem dX0_init_114 : decode cX0_init 114 = .ok (.invokespecial 26, 3) := by decide +kernel
theorem dX0_init_117 : decode cX0_init 117 = .ok (.aastore, 1) := by decide +kernel
theorem dX0_init_118 : decode cX0_init 118 = .ok (.iinc 1 1, 3) := by decide +kernel
theorem dX0_init_121 : decode cX0_init 121 = .ok (.goto (-22), 3) := by decide +kernel
theorem dX0_init_124 : decode cX0_init 124 = .ok (.return_, 1) := by decide +kernel
theorem dX0_reset_0 : decode cX0_reset 0 = .ok (.iconst 0, 1) := by decide +kernel
theorem dX0_reset_1 : decode cX0_reset 1 = .ok (.istore_n 1, 1) := by decide +kernel
theorem dX0_reset_2 : decode cX0_reset 2 = .ok (.iload_n 1, 1) := by decide +kernel
theorem dX0_reset_3 : decode cX0_reset 3 = .ok (.bipush 12, 2) := by decide +kernel
theorem dX0_reset_5 : decode cX0_reset 5 = .ok (.if_icmp .ge 16, 3) := by decide +kernel
theorem dX0_reset_8 : decode cX0_reset 8 = .ok (.aload_n 0, 1) := by decide +kernel
theorem dX0_reset_9 : decode cX0_reset 9 = .ok (.getfield 9, 3) := by decide +kernel
theorem dX0_reset_12 : decode cX0_reset 12 = .ok (.iload_n 1, 1) := by decide +kernel
theorem dX0_reset_13 : decode cX0_reset 13 = .ok (.iconst 0, 1) := by decide +kernel
theorem dX0_reset_14 : decode cX0_reset 14 = .ok (.iastore, 1) := by decide +kernel
theorem dX0_reset_15 : decode cX0_reset 15 = .ok (.iinc 1 1, 3) := by decide +kernel
theorem dX0_reset_18 : decode cX0_reset 18 = .ok (.goto (-16), 3) := by decide +kernel
theorem dX0_reset_21 : decode cX0_reset 21 = .ok (.aload_n 0, 1) := by decide +kernel
theorem dX0_reset_22 : decode cX0_reset 22 = .ok (.getfield 27, 3) := by decide +kernel
theorem dX0_reset_25 : decode cX0_reset 25 = .ok (.iconst 0, 1) := by decide +kernel
theorem dX0_reset_26 : decode cX0_reset 26 = .ok (.putfield 50, 3) := by decide +kernel
theorem dX0_reset_29 : decode cX0_reset 29 = .ok (.aload_n 0, 1) := by decide +kernel
theorem dX0_reset_30 : decode cX0_reset 30 = .ok (.getfield 27, 3) := by decide +kernel
theorem dX0_reset_33 : decode cX0_reset 33 = .ok (.iconst 0, 1) := by decide +kernel
theorem dX0_reset_34 : decode cX0_reset 34 = .ok (.putfield 54, 3) := by decide +kernel
theorem dX0_reset_37 : decode cX0_reset 37 = .ok (.aload_n 0, 1) := by decide +kernel
theorem dX0_reset_38 : decode cX0_reset 38 = .ok (.getfield 40, 3) := by decide +kernel
theorem dX0_reset_41 : decode cX0_reset 41 = .ok (.invokevirtual 57, 3) := by decide +kernel
theorem dX0_reset_44 : decode cX0_reset 44 = .ok (.pop, 1) := by decide +kernel
theorem dX0_reset_45 : decode cX0_reset 45 = .ok (.aload_n 0, 1) := by decide +kernel
theorem dX0_reset_46 : decode cX0_reset 46 = .ok (.getfield 44, 3) := by decide +kernel
theorem dX0_reset_49 : decode cX0_reset 49 = .ok (.invokevirtual 57, 3) := by decide +kernel
theorem dX0_reset_52 : decode cX0_reset 52 = .ok (.pop, 1) := by decide +kernel
theorem dX0_reset_53 : decode cX0_reset 53 = .ok (.aload_n 0, 1) := by decide +kernel
theorem dX0_reset_54 : decode cX0_reset 54 = .ok (.getfield 47, 3) := by decide +kernel
theorem dX0_reset_57 : decode cX0_reset 57 = .ok (.invokevirtual 57, 3) := by decide +kernel
theorem dX0_reset_60 : decode cX0_reset 60 = .ok (.pop, 1) := by decide +kernel
theorem dX0_reset_61 : decode cX0_reset 61 = .ok (.aload_n 0, 1) := by decide +kernel
theorem dX0_reset_62 : decode cX0_reset 62 = .ok (.iconst 0, 1) := by decide +kernel
theorem dX0_reset_63 : decode cX0_reset 63 = .ok (.putfield 61, 3) := by decide +kernel
theorem dX0_reset_66 : decode cX0_reset 66 = .ok (.aload_n 0, 1) := by decide +kernel
theorem dX0_reset_67 : decode cX0_reset 67 = .ok (.iconst 0, 1) := by decide +kernel
theorem dX0_reset_68 : decode cX0_reset 68 = .ok (.putfield 64, 3) := by decide +kernel
theorem dX0_reset_71 : decode cX0_reset 71 = .ok (.aload_n 0, 1) := by decide +kernel
theorem dX0_reset_72 : decode cX0_reset 72 = .ok (.iconst 0, 1) := by decide +kernel
theorem dX0_reset_73 : decode cX0_reset 73 = .ok (.putfield 67, 3) := by decide +kernel
theorem dX0_reset_76 : decode cX0_reset 76 = .ok (.return_, 1) := by decide +kernel
theorem dX0_copy_0 : decode cX0_copy 0 = .ok (.aload_n 1, 1) := by decide +kernel
theorem dX0_copy_1 : decode cX0_copy 1 = .ok (.getfield 9, 3) := by decide +kernel
theorem dX0_copy_4 : decode cX0_copy 4 = .ok (.iconst 0, 1) := by decide +kernel
theorem dX0_copy_5 : decode cX0_copy 5 = .ok (.aload_n 0, 1) := by decide +kernel
theorem dX0_copy_6 : decode cX0_copy 6 = .ok (.getfield 9, 3) := by decide +kernel
theorem dX0_copy_9 : decode cX0_copy 9 = .ok (.iconst 0, 1) := by decide +kernel
theorem dX0_copy_10 : decode cX0_copy 10 = .ok (.bipush 12, 2) := by decide +kernel
theorem dX0_copy_12 : decode cX0_copy 12 = .ok (.invokestatic 70, 3) := by decide +kernel
theorem dX0_copy_15 : decode cX0_copy 15 = .ok (.aload_n 1, 1) := by decide +kernel
theorem dX0_copy_16 : decode cX0_copy 16 = .ok (.getfield 15, 3) := by decide +kernel
theorem dX0_copy_19 : decode cX0_copy 19 = .ok (.iconst 0, 1) := by decide +kernel
theorem dX0_copy_20 : decode cX0_copy 20 = .ok (.aload_n 0, 1) := by decide +kernel
theorem dX0_copy_21 : decode cX0_copy 21 = .ok (.getfield 15, 3) := by decide +kernel
theorem dX0_copy_24 : decode cX0_copy 24 = .ok (.iconst 0, 1) := by decide +kernel
theorem dX0_copy_25 : decode cX0_copy 25 = .ok (.bipush 6, 2) := by decide +kernel
theorem dX0_copy_27 : decode cX0_copy 27 = .ok (.invokestatic 70, 3) := by decide +kernel
theorem dX0_copy_30 : decode cX0_copy 30 = .ok (.aload_n 1, 1) := by decide +kernel
theorem dX0_copy_31 : decode cX0_copy 31 = .ok (.getfield 18, 3) := by decide +kernel
theorem dX0_copy_34 : decode cX0_copy 34 = .ok (.iconst 0, 1) := by decide +kernel
theorem dX0_copy_35 : decode cX0_copy 35 = .ok (.aload_n 0, 1) := by decide +kernel
theorem dX0_copy_36 : decode cX0_copy 36 = .ok (.getfield 18, 3) := by decide +kernel
theorem dX0_copy_39 : decode cX0_copy 39 = .ok (.iconst 0, 1) := by decide +kernel
theorem dX0_copy_40 : decode cX0_copy 40 = .ok (.bipush 6, 2) := by decide +kernel
theorem dX0_copy_42 : decode cX0_copy 42 = .ok (.invokestatic 70, 3) := by decide +kernel
theorem dX0_copy_45 : decode cX0_copy 45 = .ok (.aload_n 1, 1) := by decide +kernel
theorem dX0_copy_46 : decode cX0_copy 46 = .ok (.getfield 21, 3) := by decide +kernel
theorem dX0_copy_49 : decode cX0_copy 49 = .ok (.iconst 0, 1) := by decide +kernel
theorem dX0_copy_50 : decode cX0_copy 50 = .ok (.aload_n 0, 1) := by decide +kernel
theorem dX0_copy_51 : decode cX0_copy 51 = .ok (.getfield 21, 3) := by decide +kernel
theorem dX0_copy_54 : decode cX0_copy 54 = .ok (.iconst 0, 1) := by decide +kernel
theorem dX0_copy_55 : decode cX0_copy 55 = .ok (.bipush 6, 2) := by decide +kernel
theorem dX0_copy_57 : decode cX0_copy 57 = .ok (.invokestatic 70, 3) := by decide +kernel
theorem dX0_copy_60 : decode cX0_copy 60 = .ok (.aload_n 0, 1) := by decide +kernel
theorem dX0_copy_61 : decode cX0_copy 61 = .ok (.getfield 27, 3) := by decide +kernel
theorem dX0_copy_64 : decode cX0_copy 64 = .ok (.aload_n 1, 1) := by decide +kernel
theorem dX0_copy_65 : decode cX0_copy 65 = .ok (.getfield 27, 3) := by decide +kernel
theorem dX0_copy_68 : decode cX0_copy 68 = .ok (.invokevirtual 76, 3) := by decide +kernel
theorem dX0_copy_71 : decode cX0_copy 71 = .ok (.iconst 0, 1) := by decide +kernel
theorem dX0_copy_72 : decode cX0_copy 72 = .ok (.istore_n 2, 1) := by decide +kernel
theorem dX0_copy_73 : decode cX0_copy 73 = .ok (.iload_n 2, 1) := by decide +kernel
theorem dX0_copy_74 : decode cX0_copy 74 = .ok (.bipush 8, 2) := by decide +kernel
theorem dX0_copy_76 : decode cX0_copy 76 = .ok (.if_icmp .ge 24, 3) := by decide +kernel
theorem dX0_copy_79 : decode cX0_copy 79 = .ok (.aload_n 0, 1) := by decide +kernel
theorem dX0_copy_80 : decode cX0_copy 80 = .ok (.getfield 31, 3) := by decide +kernel
theorem dX0_copy_83 : decode cX0_copy 83 = .ok (.iload_n 2, 1) := by decide +kernel
theorem dX0_copy_84 : decode cX0_copy 84 = .ok (.aaload, 1) := by decide +kernel
theorem dX0_copy_85 : decode cX0_copy 85 = .ok (.aload_n 1, 1) := by decide +kernel
theorem dX0_copy_86 : decode cX0_copy 86 = .ok (.getfield 31, 3) := by decide +kernel
theorem dX0_copy_89 : decode cX0_copy 89 = .ok (.iload_n 2, 1) := by decide +kernel
theorem dX0_copy_90 : decode cX0_copy 90 = .ok (.aaload, 1) := by decide +kernel
theorem dX0_copy_91 : decode cX0_copy 91 = .ok (.invokevirtual 76, 3) := by decide +kernel
theorem dX0_copy_94 : decode cX0_copy 94 = .ok (.iinc 2 1, 3) := by decide +kernel
theorem dX0_copy_97 : decode cX0_copy 97 = .ok (.goto (-24), 3) := by decide +kernel
theorem dX0_copy_100 : decode cX0_copy 100 = .ok (.aload_n 0, 1) := by decide +kernel
theorem dX0_copy_101 : decode cX0_copy 101 = .ok (.getfield 40, 3) := by decide +kernel
theorem dX0_copy_104 : decode cX0_copy 104 = .ok (.aload_n 1, 1) := by decide +kernel
theorem dX0_copy_105 : decode cX0_copy 105 = .ok (.getfield 40, 3) := by decide +kernel
theorem dX0_copy_108 : decode cX0_copy 108 = .ok (.invokevirtual 80, 3) := by decide +kernel
theorem dX0_copy_111 : decode cX0_copy 111 = .ok (.aload_n 0, 1) := by decide +kernel
theorem dX0_copy_112 : decode cX0_copy 112 = .ok (.getfield 44, 3) := by decide +kernel
theorem dX0_copy_115 : decode cX0_copy 115 = .ok (.aload_n 1, 1) := by decide +kernel
theorem dX0_copy_116 : decode cX0_copy 116 = .ok (.getfield 44, 3) := by decide +kernel
theorem dX0_copy_119 : decode cX0_copy 119 = .ok (.invokevirtual 80, 3) := by decide +kernel
theorem dX0_copy_122 : decode cX0_copy 122 = .ok (.aload_n 0, 1) := by decide +kernel
theorem dX0_copy_123 : decode cX0_copy 123 = .ok (.getfield 47, 3) := by decide +kernel
theorem dX0_copy_126 : decode cX0_copy 126 = .ok (.aload_n 1, 1) := by decide +kernel
theorem dX0_copy_127 : decode cX0_copy 127 = .ok (.getfield 47, 3) := by decide +kernel
theorem dX0_copy_130 : decode cX0_copy 130 = .ok (.invokevirtual 80, 3) := by decide +kernel
theorem dX0_copy_133 : decode cX0_copy 133 = .ok (.aload_n 0, 1) := by decide +kernel
theorem dX0_copy_134 : decode cX0_copy 134 = .ok (.aload_n 1, 1) := by decide +kernel
theorem dX0_copy_135 : decode cX0_copy 135 = .ok (.getfield 61, 3) := by decide +kernel
theorem dX0_copy_138 : decode cX0_copy 138 = .ok (.putfield 61, 3) := by decide +kernel
theorem dX0_copy_141 : decode cX0_copy 141 = .ok (.aload_n 0, 1) := by decide +kernel
theorem dX0_copy_142 : decode cX0_copy 142 = .ok (.aload_n 1, 1) := by decide +kernel
theorem dX0_copy_143 : decode cX0_copy 143 = .ok (.getfield 64, 3) := by decide +kernel
theorem dX0_copy_146 : decode cX0_copy 146 = .ok (.putfield 64, 3) := by decide +kernel
theorem dX0_copy_149 : decode cX0_copy 149 = .ok (.aload_n 0, 1) := by decide +kernel
theorem dX0_copy_150 : decode cX0_copy 150 = .ok (.aload_n 1, 1) := by decide +kernel
theorem dX0_copy_151 : decode cX0_copy 151 = .ok (.getfield 67, 3) := by decide +kernel
theorem dX0_copy_154 : decode cX0_copy 154 = .ok (.putfield 67, 3) := by decide +kernel
theorem dX0_copy_157 : decode cX0_copy 157 = .ok (.return_, 1) := by decide +kernel
theorem dX0_addSoul_0 : decode cX0_addSoul 0 = .ok (.aload_n 0, 1) := by decide +kernel
theorem dX0_addSoul_1 : decode cX0_addSoul 1 = .ok (.getfield 61, 3) := by decide +kernel
theorem dX0_addSoul_4 : decode cX0_addSoul 4 = .ok (.istore 4, 2) := by decide +kernel
theorem dX0_addSoul_6 : decode cX0_addSoul 6 = .ok (.aload_n 0, 1) := by decide +kernel
theorem dX0_addSoul_7 : decode cX0_addSoul 7 = .ok (.getfield 15, 3) := by decide +kernel
theorem dX0_addSoul_10 : decode cX0_addSoul 10 = .ok (.iload 4, 2) := by decide +kernel
theorem dX0_addSoul_12 : decode cX0_addSoul 12 = .ok (.iload_n 1, 1) := by decide +kernel
theorem dX0_addSoul_13 : decode cX0_addSoul 13 = .ok (.iastore, 1) := by decide +kernel
theorem dX0_addSoul_14 : decode cX0_addSoul 14 = .ok (.aload_n 0, 1) := by decide +kernel
theorem dX0_addSoul_15 : decode cX0_addSoul 15 = .ok (.getfield 18, 3) := by decide +kernel
theorem dX0_addSoul_18 : decode cX0_addSoul 18 = .ok (.iload 4, 2) := by decide +kernel
theorem dX0_addSoul_20 : decode cX0_addSoul 20 = .ok (.iload_n 2, 1) := by decide +kernel
theorem dX0_addSoul_21 : decode cX0_addSoul 21 = .ok (.iastore, 1) := by decide +kernel
theorem dX0_addSoul_22 : decode cX0_addSoul 22 = .ok (.aload_n 0, 1) := by decide +kernel
theorem dX0_addSoul_23 : decode cX0_addSoul 23 = .ok (.getfield 27, 3) := by decide +kernel
theorem dX0_addSoul_26 : decode cX0_addSoul 26 = .ok (.getfield 83, 3) := by decide +kernel
theorem dX0_addSoul_29 : decode cX0_addSoul 29 = .ok (.iload 4, 2) := by decide +kernel
theorem dX0_addSoul_31 : decode cX0_addSoul 31 = .ok (.iload_n 3, 1) := by decide +kernel
theorem dX0_addSoul_32 : decode cX0_addSoul 32 = .ok (.iastore, 1) := by decide +kernel
theorem dX0_addSoul_33 : decode cX0_addSoul 33 = .ok (.aload_n 0, 1) := by decide +kernel
theorem dX0_addSoul_34 : decode cX0_addSoul 34 = .ok (.getfield 27, 3) := by decide +kernel
theorem dX0_addSoul_37 : decode cX0_addSoul 37 = .ok (.getfield 86, 3) := by decide +kernel
theorem dX0_addSoul_40 : decode cX0_addSoul 40 = .ok (.iload 4, 2) := by decide +kernel
theorem dX0_addSoul_42 : decode cX0_addSoul 42 = .ok (.iconst (-1), 1) := by decide +kernel
theorem dX0_addSoul_43 : decode cX0_addSoul 43 = .ok (.iastore, 1) := by decide +kernel
theorem dX0_addSoul_44 : decode cX0_addSoul 44 = .ok (.aload_n 0, 1) := by decide +kernel
theorem dX0_addSoul_45 : decode cX0_addSoul 45 = .ok (.getfield 27, 3) := by decide +kernel
theorem dX0_addSoul_48 : decode cX0_addSoul 48 = .ok (.getfield 89, 3) := by decide +kernel
theorem dX0_addSoul_51 : decode cX0_addSoul 51 = .ok (.iload 4, 2) := by decide +kernel
theorem dX0_addSoul_53 : decode cX0_addSoul 53 = .ok (.iconst 0, 1) := by decide +kernel
theorem dX0_addSoul_54 : decode cX0_addSoul 54 = .ok (.iastore, 1) := by decide +kernel
theorem dX0_addSoul_55 : decode cX0_addSoul 55 = .ok (.aload_n 0, 1) := by decide +kernel
theorem dX0_addSoul_56 : decode cX0_addSoul 56 = .ok (.dup, 1) := by decide +kernel
theorem dX0_addSoul_57 : decode cX0_addSoul 57 = .ok (.getfield 61, 3) := by decide +kernel
theorem dX0_addSoul_60 : decode cX0_addSoul 60 = .ok (.iconst 1, 1) := by decide +kernel
theorem dX0_addSoul_61 : decode cX0_addSoul 61 = .ok (.iadd, 1) := by decide +kernel
theorem dX0_addSoul_62 : decode cX0_addSoul 62 = .ok (.putfield 61, 3) := by decide +kernel
theorem dX0_addSoul_65 : decode cX0_addSoul 65 = .ok (.iload 4, 2) := by decide +kernel
theorem dX0_addSoul_67 : decode cX0_addSoul 67 = .ok (.ireturn, 1) := by decide +kernel
theorem dX0_addCaller_0 : decode cX0_addCaller 0 = .ok (.aload_n 0, 1) := by decide +kernel
theorem dX0_addCaller_1 : decode cX0_addCaller 1 = .ok (.getfield 64, 3) := by decide +kernel
theorem dX0_addCaller_4 : decode cX0_addCaller 4 = .ok (.istore_n 2, 1) := by decide +kernel
theorem dX0_addCaller_5 : decode cX0_addCaller 5 = .ok (.aload_n 0, 1) := by decide +kernel
theorem dX0_addCaller_6 : decode cX0_addCaller 6 = .ok (.getfield 21, 3) := by decide +kernel
theorem dX0_addCaller_9 : decode cX0_addCaller 9 = .ok (.iload_n 2, 1) := by decide +kernel
theorem dX0_addCaller_10 : decode cX0_addCaller 10 = .ok (.iload_n 1, 1) := by decide +kernel
theorem dX0_addCaller_11 : decode cX0_addCaller 11 = .ok (.iastore, 1) := by decide +kernel
theorem dX0_addCaller_12 : decode cX0_addCaller 12 = .ok (.aload_n 0, 1) := by decide +kernel
theorem dX0_addCaller_13 : decode cX0_addCaller 13 = .ok (.dup, 1) := by decide +kernel
theorem dX0_addCaller_14 : decode cX0_addCaller 14 = .ok (.getfield 64, 3) := by decide +kernel
theorem dX0_addCaller_17 : decode cX0_addCaller 17 = .ok (.iconst 1, 1) := by decide +kernel
theorem dX0_addCaller_18 : decode cX0_addCaller 18 = .ok (.iadd, 1) := by decide +kernel
theorem dX0_addCaller_19 : decode cX0_addCaller 19 = .ok (.putfield 64, 3) := by decide +kernel
theorem dX0_addCaller_22 : decode cX0_addCaller 22 = .ok (.iload_n 2, 1) := by decide +kernel
theorem dX0_addCaller_23 : decode cX0_addCaller 23 = .ok (.ireturn, 1) := by decide +kernel
theorem dX0_hasSoul_0 : decode cX0_hasSoul 0 = .ok (.iload_n 1, 1) := by decide +kernel
theorem dX0_hasSoul_1 : decode cX0_hasSoul 1 = .ok (.iconst 0, 1) := by decide +kernel
theorem dX0_hasSoul_2 : decode cX0_hasSoul 2 = .ok (.aload_n 0, 1) := by decide +kernel
theorem dX0_hasSoul_3 : decode cX0_hasSoul 3 = .ok (.getfield 61, 3) := by decide +kernel
theorem dX0_hasSoul_6 : decode cX0_hasSoul 6 = .ok (.iconst 1, 1) := by decide +kernel
theorem dX0_hasSoul_7 : decode cX0_hasSoul 7 = .ok (.isub, 1) := by decide +kernel
theorem dX0_hasSoul_8 : decode cX0_hasSoul 8 = .ok (.invokestatic 92, 3) := by decide +kernel
theorem dX0_hasSoul_11 : decode cX0_hasSoul 11 = .ok (.ireturn, 1) := by decide +kernel
theorem dX0_hasCaller_0 : decode cX0_hasCaller 0 = .ok (.iload_n 1, 1) := by decide +kernel
theorem dX0_hasCaller_1 : decode cX0_hasCaller 1 = .ok (.iconst 0, 1) := by decide +kernel
theorem dX0_hasCaller_2 : decode cX0_hasCaller 2 = .ok (.aload_n 0, 1) := by decide +kernel
theorem dX0_hasCaller_3 : decode cX0_hasCaller 3 = .ok (.getfield 64, 3) := by decide +kernel
theorem dX0_hasCaller_6 : decode cX0_hasCaller 6 = .ok (.iconst 1, 1) := by decide +kernel
theorem dX0_hasCaller_7 : decode cX0_hasCaller 7 = .ok (.isub, 1) := by decide +kernel
theorem dX0_hasCaller_8 : decode cX0_hasCaller 8 = .ok (.invokestatic 92, 3) := by decide +kernel
theorem dX0_hasCaller_11 : decode cX0_hasCaller 11 = .ok (.ireturn, 1) := by decide +kernel
theorem dX0_adrift_0 : decode cX0_adrift 0 = .ok (.aload_n 0, 1) := by decide +kernel
theorem dX0_adrift_1 : decode cX0_adrift 1 = .ok (.getfield 27, 3) := by decide +kernel
theorem dX0_adrift_4 : decode cX0_adrift 4 = .ok (.getfield 83, 3) := by decide +kernel
theorem dX0_adrift_7 : decode cX0_adrift 7 = .ok (.iload_n 1, 1) := by decide +kernel
theorem dX0_adrift_8 : decode cX0_adrift 8 = .ok (.iaload, 1) := by decide +kernel
theorem dX0_adrift_9 : decode cX0_adrift 9 = .ok (.iconst (-1), 1) := by decide +kernel
theorem dX0_adrift_10 : decode cX0_adrift 10 = .ok (.if_icmp .eq 7, 3) := by decide +kernel
theorem dX0_adrift_13 : decode cX0_adrift 13 = .ok (.iconst 1, 1) := by decide +kernel
theorem dX0_adrift_14 : decode cX0_adrift 14 = .ok (.goto 4, 3) := by decide +kernel
theorem dX0_adrift_17 : decode cX0_adrift 17 = .ok (.iconst 0, 1) := by decide +kernel
theorem dX0_adrift_18 : decode cX0_adrift 18 = .ok (.ireturn, 1) := by decide +kernel
theorem dX0_shelved_0 : decode cX0_shelved 0 = .ok (.aload_n 0, 1) := by decide +kernel
theorem dX0_shelved_1 : decode cX0_shelved 1 = .ok (.getfield 27, 3) := by decide +kernel
theorem dX0_shelved_4 : decode cX0_shelved 4 = .ok (.getfield 83, 3) := by decide +kernel
theorem dX0_shelved_7 : decode cX0_shelved 7 = .ok (.iload_n 1, 1) := by decide +kernel
theorem dX0_shelved_8 : decode cX0_shelved 8 = .ok (.iaload, 1) := by decide +kernel
theorem dX0_shelved_9 : decode cX0_shelved 9 = .ok (.iconst (-1), 1) := by decide +kernel
theorem dX0_shelved_10 : decode cX0_shelved 10 = .ok (.if_icmp .ne 20, 3) := by decide +kernel
theorem dX0_shelved_13 : decode cX0_shelved 13 = .ok (.aload_n 0, 1) := by decide +kernel
theorem dX0_shelved_14 : decode cX0_shelved 14 = .ok (.getfield 27, 3) := by decide +kernel
theorem dX0_shelved_17 : decode cX0_shelved 17 = .ok (.getfield 86, 3) := by decide +kernel
theorem dX0_shelved_20 : decode cX0_shelved 20 = .ok (.iload_n 1, 1) := by decide +kernel
theorem dX0_shelved_21 : decode cX0_shelved 21 = .ok (.iaload, 1) := by decide +kernel
theorem dX0_shelved_22 : decode cX0_shelved 22 = .ok (.iconst (-1), 1) := by decide +kernel
theorem dX0_shelved_23 : decode cX0_shelved 23 = .ok (.if_icmp .ne 7, 3) := by decide +kernel
theorem dX0_shelved_26 : decode cX0_shelved 26 = .ok (.iconst 1, 1) := by decide +kernel
theorem dX0_shelved_27 : decode cX0_shelved 27 = .ok (.goto 4, 3) := by decide +kernel
theorem dX0_shelved_30 : decode cX0_shelved 30 = .ok (.iconst 0, 1) := by decide +kernel
theorem dX0_shelved_31 : decode cX0_shelved 31 = .ok (.ireturn, 1) := by decide +kernel
theorem dX0_adriftCount_0 : decode cX0_adriftCount 0 = .ok (.iconst 0, 1) := by decide +kernel
theorem dX0_adriftCount_1 : decode cX0_adriftCount 1 = .ok (.istore_n 1, 1) := by decide +kernel
theorem dX0_adriftCount_2 : decode cX0_adriftCount 2 = .ok (.iconst 0, 1) := by decide +kernel
theorem dX0_adriftCount_3 : decode cX0_adriftCount 3 = .ok (.istore_n 2, 1) := by decide +kernel
theorem dX0_adriftCount_4 : decode cX0_adriftCount 4 = .ok (.iload_n 2, 1) := by decide +kernel
theorem dX0_adriftCount_5 : decode cX0_adriftCount 5 = .ok (.aload_n 0, 1) := by decide +kernel
theorem dX0_adriftCount_6 : decode cX0_adriftCount 6 = .ok (.getfield 61, 3) := by decide +kernel
theorem dX0_adriftCount_9 : decode cX0_adriftCount 9 = .ok (.if_icmp .ge 25, 3) := by decide +kernel
theorem dX0_adriftCount_12 : decode cX0_adriftCount 12 = .ok (.iload_n 1, 1) := by decide +kernel
theorem dX0_adriftCount_13 : decode cX0_adriftCount 13 = .ok (.aload_n 0, 1) := by decide +kernel
theorem dX0_adriftCount_14 : decode cX0_adriftCount 14 = .ok (.iload_n 2, 1) := by decide +kernel
theorem dX0_adriftCount_15 : decode cX0_adriftCount 15 = .ok (.invokevirtual 96, 3) := by decide +kernel
theorem dX0_adriftCount_18 : decode cX0_adriftCount 18 = .ok (.ifCond .eq 7, 3) := by decide +kernel
theorem dX0_adriftCount_21 : decode cX0_adriftCount 21 = .ok (.iconst 1, 1) := by decide +kernel
theorem dX0_adriftCount_22 : decode cX0_adriftCount 22 = .ok (.goto 4, 3) := by decide +kernel
theorem dX0_adriftCount_25 : decode cX0_adriftCount 25 = .ok (.iconst 0, 1) := by decide +kernel
theorem dX0_adriftCount_26 : decode cX0_adriftCount 26 = .ok (.iadd, 1) := by decide +kernel
theorem dX0_adriftCount_27 : decode cX0_adriftCount 27 = .ok (.istore_n 1, 1) := by decide +kernel
theorem dX0_adriftCount_28 : decode cX0_adriftCount 28 = .ok (.iinc 2 1, 3) := by decide +kernel
theorem dX0_adriftCount_31 : decode cX0_adriftCount 31 = .ok (.goto (-27), 3) := by decide +kernel
theorem dX0_adriftCount_34 : decode cX0_adriftCount 34 = .ok (.iload_n 1, 1) := by decide +kernel
theorem dX0_adriftCount_35 : decode cX0_adriftCount 35 = .ok (.ireturn, 1) := by decide +kernel
theorem dX0_shelfCount_0 : decode cX0_shelfCount 0 = .ok (.iconst 0, 1) := by decide +kernel
theorem dX0_shelfCount_1 : decode cX0_shelfCount 1 = .ok (.istore_n 1, 1) := by decide +kernel
theorem dX0_shelfCount_2 : decode cX0_shelfCount 2 = .ok (.iconst 0, 1) := by decide +kernel
theorem dX0_shelfCount_3 : decode cX0_shelfCount 3 = .ok (.istore_n 2, 1) := by decide +kernel
theorem dX0_shelfCount_4 : decode cX0_shelfCount 4 = .ok (.iload_n 2, 1) := by decide +kernel
theorem dX0_shelfCount_5 : decode cX0_shelfCount 5 = .ok (.aload_n 0, 1) := by decide +kernel
theorem dX0_shelfCount_6 : decode cX0_shelfCount 6 = .ok (.getfield 61, 3) := by decide +kernel
theorem dX0_shelfCount_9 : decode cX0_shelfCount 9 = .ok (.if_icmp .ge 25, 3) := by decide +kernel
theorem dX0_shelfCount_12 : decode cX0_shelfCount 12 = .ok (.iload_n 1, 1) := by decide +kernel
theorem dX0_shelfCount_13 : decode cX0_shelfCount 13 = .ok (.aload_n 0, 1) := by decide +kernel
theorem dX0_shelfCount_14 : decode cX0_shelfCount 14 = .ok (.iload_n 2, 1) := by decide +kernel
theorem dX0_shelfCount_15 : decode cX0_shelfCount 15 = .ok (.invokevirtual 100, 3) := by decide +kernel
theorem dX0_shelfCount_18 : decode cX0_shelfCount 18 = .ok (.ifCond .eq 7, 3) := by decide +kernel
theorem dX0_shelfCount_21 : decode cX0_shelfCount 21 = .ok (.iconst 1, 1) := by decide +kernel
theorem dX0_shelfCount_22 : decode cX0_shelfCount 22 = .ok (.goto 4, 3) := by decide +kernel
theorem dX0_shelfCount_25 : decode cX0_shelfCount 25 = .ok (.iconst 0, 1) := by decide +kernel
theorem dX0_shelfCount_26 : decode cX0_shelfCount 26 = .ok (.iadd, 1) := by decide +kernel
theorem dX0_shelfCount_27 : decode cX0_shelfCount 27 = .ok (.istore_n 1, 1) := by decide +kernel
theorem dX0_shelfCount_28 : decode cX0_shelfCount 28 = .ok (.iinc 2 1, 3) := by decide +kernel
theorem dX0_shelfCount_31 : decode cX0_shelfCount 31 = .ok (.goto (-27), 3) := by decide +kernel
theorem dX0_shelfCount_34 : decode cX0_shelfCount 34 = .ok (.iload_n 1, 1) := by decide +kernel
theorem dX0_shelfCount_35 : decode cX0_shelfCount 35 = .ok (.ireturn, 1) := by decide +kernel
theorem dX0_soulFact_0 : decode cX0_soulFact 0 = .ok (.iload_n 2, 1) := by decide +kernel
theorem dX0_soulFact_1 : decode cX0_soulFact 1 = .ok (.tableswitch 79 0 4 #[35, 42, 49, 59, 69], 35) := by decide +kernel
theorem dX0_soulFact_36 : decode cX0_soulFact 36 = .ok (.aload_n 0, 1) := by decide +kernel
theorem dX0_soulFact_37 : decode cX0_soulFact 37 = .ok (.getfield 15, 3) := by decide +kernel
theorem dX0_soulFact_40 : decode cX0_soulFact 40 = .ok (.iload_n 1, 1) := by decide +kernel
theorem dX0_soulFact_41 : decode cX0_soulFact 41 = .ok (.iaload, 1) := by decide +kernel
theorem dX0_soulFact_42 : decode cX0_soulFact 42 = .ok (.ireturn, 1) := by decide +kernel
theorem dX0_soulFact_43 : decode cX0_soulFact 43 = .ok (.aload_n 0, 1) := by decide +kernel
theorem dX0_soulFact_44 : decode cX0_soulFact 44 = .ok (.getfield 18, 3) := by decide +kernel
theorem dX0_soulFact_47 : decode cX0_soulFact 47 = .ok (.iload_n 1, 1) := by decide +kernel
theorem dX0_soulFact_48 : decode cX0_soulFact 48 = .ok (.iaload, 1) := by decide +kernel
theorem dX0_soulFact_49 : decode cX0_soulFact 49 = .ok (.ireturn, 1) := by decide +kernel
theorem dX0_soulFact_50 : decode cX0_soulFact 50 = .ok (.aload_n 0, 1) := by decide +kernel
theorem dX0_soulFact_51 : decode cX0_soulFact 51 = .ok (.getfield 27, 3) := by decide +kernel
theorem dX0_soulFact_54 : decode cX0_soulFact 54 = .ok (.getfield 83, 3) := by decide +kernel
theorem dX0_soulFact_57 : decode cX0_soulFact 57 = .ok (.iload_n 1, 1) := by decide +kernel
theorem dX0_soulFact_58 : decode cX0_soulFact 58 = .ok (.iaload, 1) := by decide +kernel
theorem dX0_soulFact_59 : decode cX0_soulFact 59 = .ok (.ireturn, 1) := by decide +kernel
theorem dX0_soulFact_60 : decode cX0_soulFact 60 = .ok (.aload_n 0, 1) := by decide +kernel
theorem dX0_soulFact_61 : decode cX0_soulFact 61 = .ok (.getfield 27, 3) := by decide +kernel
theorem dX0_soulFact_64 : decode cX0_soulFact 64 = .ok (.getfield 86, 3) := by decide +kernel
theorem dX0_soulFact_67 : decode cX0_soulFact 67 = .ok (.iload_n 1, 1) := by decide +kernel
theorem dX0_soulFact_68 : decode cX0_soulFact 68 = .ok (.iaload, 1) := by decide +kernel
theorem dX0_soulFact_69 : decode cX0_soulFact 69 = .ok (.ireturn, 1) := by decide +kernel
theorem dX0_soulFact_70 : decode cX0_soulFact 70 = .ok (.aload_n 0, 1) := by decide +kernel
theorem dX0_soulFact_71 : decode cX0_soulFact 71 = .ok (.getfield 27, 3) := by decide +kernel
theorem dX0_soulFact_74 : decode cX0_soulFact 74 = .ok (.getfield 89, 3) := by decide +kernel
theorem dX0_soulFact_77 : decode cX0_soulFact 77 = .ok (.iload_n 1, 1) := by decide +kernel
theorem dX0_soulFact_78 : decode cX0_soulFact 78 = .ok (.iaload, 1) := by decide +kernel
theorem dX0_soulFact_79 : decode cX0_soulFact 79 = .ok (.ireturn, 1) := by decide +kernel
theorem dX0_soulFact_80 : decode cX0_soulFact 80 = .ok (.aload_n 0, 1) := by decide +kernel
theorem dX0_soulFact_81 : decode cX0_soulFact 81 = .ok (.iload_n 1, 1) := by decide +kernel
theorem dX0_soulFact_82 : decode cX0_soulFact 82 = .ok (.invokevirtual 103, 3) := by decide +kernel
theorem dX0_soulFact_85 : decode cX0_soulFact 85 = .ok (.ireturn, 1) := by decide +kernel
theorem dX0_weighs_0 : decode cX0_weighs 0 = .ok (.aload_n 0, 1) := by decide +kernel
theorem dX0_weighs_1 : decode cX0_weighs 1 = .ok (.getfield 15, 3) := by decide +kernel
theorem dX0_weighs_4 : decode cX0_weighs 4 = .ok (.iload_n 1, 1) := by decide +kernel
theorem dX0_weighs_5 : decode cX0_weighs 5 = .ok (.iaload, 1) := by decide +kernel
theorem dX0_weighs_6 : decode cX0_weighs 6 = .ok (.aload_n 0, 1) := by decide +kernel
theorem dX0_weighs_7 : decode cX0_weighs 7 = .ok (.getfield 18, 3) := by decide +kernel
theorem dX0_weighs_10 : decode cX0_weighs 10 = .ok (.iload_n 1, 1) := by decide +kernel
theorem dX0_weighs_11 : decode cX0_weighs 11 = .ok (.iaload, 1) := by decide +kernel
theorem dX0_weighs_12 : decode cX0_weighs 12 = .ok (.aload_n 0, 1) := by decide +kernel
theorem dX0_weighs_13 : decode cX0_weighs 13 = .ok (.getfield 27, 3) := by decide +kernel
theorem dX0_weighs_16 : decode cX0_weighs 16 = .ok (.getfield 89, 3) := by decide +kernel
theorem dX0_weighs_19 : decode cX0_weighs 19 = .ok (.iload_n 1, 1) := by decide +kernel
theorem dX0_weighs_20 : decode cX0_weighs 20 = .ok (.iaload, 1) := by decide +kernel
theorem dX0_weighs_21 : decode cX0_weighs 21 = .ok (.invokestatic 107, 3) := by decide +kernel
theorem dX0_weighs_24 : decode cX0_weighs 24 = .ok (.ireturn, 1) := by decide +kernel
theorem dX0_felt_0 : decode cX0_felt 0 = .ok (.aload_n 0, 1) := by decide +kernel
theorem dX0_felt_1 : decode cX0_felt 1 = .ok (.getfield 21, 3) := by decide +kernel
theorem dX0_felt_4 : decode cX0_felt 4 = .ok (.iload_n 2, 1) := by decide +kernel
theorem dX0_felt_5 : decode cX0_felt 5 = .ok (.iaload, 1) := by decide +kernel
theorem dX0_felt_6 : decode cX0_felt 6 = .ok (.aload_n 0, 1) := by decide +kernel
theorem dX0_felt_7 : decode cX0_felt 7 = .ok (.getfield 15, 3) := by decide +kernel
theorem dX0_felt_10 : decode cX0_felt 10 = .ok (.iload_n 1, 1) := by decide +kernel
theorem dX0_felt_11 : decode cX0_felt 11 = .ok (.iaload, 1) := by decide +kernel
theorem dX0_felt_12 : decode cX0_felt 12 = .ok (.aload_n 0, 1) := by decide +kernel
theorem dX0_felt_13 : decode cX0_felt 13 = .ok (.getfield 18, 3) := by decide +kernel
theorem dX0_felt_16 : decode cX0_felt 16 = .ok (.iload_n 1, 1) := by decide +kernel
theorem dX0_felt_17 : decode cX0_felt 17 = .ok (.iaload, 1) := by decide +kernel
theorem dX0_felt_18 : decode cX0_felt 18 = .ok (.aload_n 0, 1) := by decide +kernel
theorem dX0_felt_19 : decode cX0_felt 19 = .ok (.getfield 27, 3) := by decide +kernel
theorem dX0_felt_22 : decode cX0_felt 22 = .ok (.getfield 89, 3) := by decide +kernel
theorem dX0_felt_25 : decode cX0_felt 25 = .ok (.iload_n 1, 1) := by decide +kernel
theorem dX0_felt_26 : decode cX0_felt 26 = .ok (.iaload, 1) := by decide +kernel
theorem dX0_felt_27 : decode cX0_felt 27 = .ok (.invokestatic 107, 3) := by decide +kernel
theorem dX0_felt_30 : decode cX0_felt 30 = .ok (.invokestatic 111, 3) := by decide +kernel
theorem dX0_felt_33 : decode cX0_felt 33 = .ok (.ireturn, 1) := by decide +kernel
theorem dX0_wanted_0 : decode cX0_wanted 0 = .ok (.iload_n 1, 1) := by decide +kernel
theorem dX0_wanted_1 : decode cX0_wanted 1 = .ok (.aload_n 0, 1) := by decide +kernel
theorem dX0_wanted_2 : decode cX0_wanted 2 = .ok (.getfield 61, 3) := by decide +kernel
theorem dX0_wanted_5 : decode cX0_wanted 5 = .ok (.if_icmp .ge 12, 3) := by decide +kernel
theorem dX0_wanted_8 : decode cX0_wanted 8 = .ok (.aload_n 0, 1) := by decide +kernel
theorem dX0_wanted_9 : decode cX0_wanted 9 = .ok (.getfield 18, 3) := by decide +kernel
theorem dX0_wanted_12 : decode cX0_wanted 12 = .ok (.iload_n 1, 1) := by decide +kernel
theorem dX0_wanted_13 : decode cX0_wanted 13 = .ok (.iaload, 1) := by decide +kernel
theorem dX0_wanted_14 : decode cX0_wanted 14 = .ok (.goto 4, 3) := by decide +kernel
theorem dX0_wanted_17 : decode cX0_wanted 17 = .ok (.iconst 5, 1) := by decide +kernel
theorem dX0_wanted_18 : decode cX0_wanted 18 = .ok (.ireturn, 1) := by decide +kernel
theorem dX0_distance_0 : decode cX0_distance 0 = .ok (.aload_n 0, 1) := by decide +kernel
theorem dX0_distance_1 : decode cX0_distance 1 = .ok (.iload_n 1, 1) := by decide +kernel
theorem dX0_distance_2 : decode cX0_distance 2 = .ok (.iload_n 2, 1) := by decide +kernel
theorem dX0_distance_3 : decode cX0_distance 3 = .ok (.invokevirtual 115, 3) := by decide +kernel
theorem dX0_distance_6 : decode cX0_distance 6 = .ok (.aload_n 0, 1) := by decide +kernel
theorem dX0_distance_7 : decode cX0_distance 7 = .ok (.iload_n 2, 1) := by decide +kernel
theorem dX0_distance_8 : decode cX0_distance 8 = .ok (.invokevirtual 118, 3) := by decide +kernel
theorem dX0_distance_11 : decode cX0_distance 11 = .ok (.isub, 1) := by decide +kernel
theorem dX0_distance_12 : decode cX0_distance 12 = .ok (.invokestatic 121, 3) := by decide +kernel
theorem dX0_distance_15 : decode cX0_distance 15 = .ok (.ireturn, 1) := by decide +kernel
theorem dX0_heldBy_0 : decode cX0_heldBy 0 = .ok (.iconst 0, 1) := by decide +kernel
theorem dX0_heldBy_1 : decode cX0_heldBy 1 = .ok (.istore_n 2, 1) := by decide +kernel
theorem dX0_heldBy_2 : decode cX0_heldBy 2 = .ok (.iload_n 2, 1) := by decide +kernel
theorem dX0_heldBy_3 : decode cX0_heldBy 3 = .ok (.aload_n 0, 1) := by decide +kernel
theorem dX0_heldBy_4 : decode cX0_heldBy 4 = .ok (.getfield 61, 3) := by decide +kernel
theorem dX0_heldBy_7 : decode cX0_heldBy 7 = .ok (.if_icmp .ge 24, 3) := by decide +kernel
theorem dX0_heldBy_10 : decode cX0_heldBy 10 = .ok (.aload_n 0, 1) := by decide +kernel
theorem dX0_heldBy_11 : decode cX0_heldBy 11 = .ok (.getfield 27, 3) := by decide +kernel
theorem dX0_heldBy_14 : decode cX0_heldBy 14 = .ok (.getfield 86, 3) := by decide +kernel
theorem dX0_heldBy_17 : decode cX0_heldBy 17 = .ok (.iload_n 2, 1) := by decide +kernel
theorem dX0_heldBy_18 : decode cX0_heldBy 18 = .ok (.iaload, 1) := by decide +kernel
theorem dX0_heldBy_19 : decode cX0_heldBy 19 = .ok (.iload_n 1, 1) := by decide +kernel
theorem dX0_heldBy_20 : decode cX0_heldBy 20 = .ok (.if_icmp .ne 5, 3) := by decide +kernel
theorem dX0_heldBy_23 : decode cX0_heldBy 23 = .ok (.iload_n 2, 1) := by decide +kernel
theorem dX0_heldBy_24 : decode cX0_heldBy 24 = .ok (.ireturn, 1) := by decide +kernel
theorem dX0_heldBy_25 : decode cX0_heldBy 25 = .ok (.iinc 2 1, 3) := by decide +kernel
theorem dX0_heldBy_28 : decode cX0_heldBy 28 = .ok (.goto (-26), 3) := by decide +kernel
theorem dX0_heldBy_31 : decode cX0_heldBy 31 = .ok (.iconst (-1), 1) := by decide +kernel
theorem dX0_heldBy_32 : decode cX0_heldBy 32 = .ok (.ireturn, 1) := by decide +kernel
theorem dX0_choice_0 : decode cX0_choice 0 = .ok (.aload_n 0, 1) := by decide +kernel
theorem dX0_choice_1 : decode cX0_choice 1 = .ok (.iload_n 1, 1) := by decide +kernel
theorem dX0_choice_2 : decode cX0_choice 2 = .ok (.invokevirtual 126, 3) := by decide +kernel
theorem dX0_choice_5 : decode cX0_choice 5 = .ok (.iconst (-1), 1) := by decide +kernel
theorem dX0_choice_6 : decode cX0_choice 6 = .ok (.if_icmp .eq 5, 3) := by decide +kernel
theorem dX0_choice_9 : decode cX0_choice 9 = .ok (.iconst (-1), 1) := by decide +kernel
theorem dX0_choice_10 : decode cX0_choice 10 = .ok (.ireturn, 1) := by decide +kernel
theorem dX0_choice_11 : decode cX0_choice 11 = .ok (.iconst (-1), 1) := by decide +kernel
theorem dX0_choice_12 : decode cX0_choice 12 = .ok (.istore_n 2, 1) := by decide +kernel
theorem dX0_choice_13 : decode cX0_choice 13 = .ok (.iconst 0, 1) := by decide +kernel
theorem dX0_choice_14 : decode cX0_choice 14 = .ok (.istore_n 3, 1) := by decide +kernel
theorem dX0_choice_15 : decode cX0_choice 15 = .ok (.iconst 0, 1) := by decide +kernel
theorem dX0_choice_16 : decode cX0_choice 16 = .ok (.istore 4, 2) := by decide +kernel
theorem dX0_choice_18 : decode cX0_choice 18 = .ok (.iload 4, 2) := by decide +kernel
theorem dX0_choice_20 : decode cX0_choice 20 = .ok (.aload_n 0, 1) := by decide +kernel
theorem dX0_choice_21 : decode cX0_choice 21 = .ok (.getfield 61, 3) := by decide +kernel
theorem dX0_choice_24 : decode cX0_choice 24 = .ok (.if_icmp .ge 45, 3) := by decide +kernel
theorem dX0_choice_27 : decode cX0_choice 27 = .ok (.aload_n 0, 1) := by decide +kernel
theorem dX0_choice_28 : decode cX0_choice 28 = .ok (.iload 4, 2) := by decide +kernel
theorem dX0_choice_30 : decode cX0_choice 30 = .ok (.invokevirtual 100, 3) := by decide +kernel
theorem dX0_choice_33 : decode cX0_choice 33 = .ok (.ifCond .eq 30, 3) := by decide +kernel
theorem dX0_choice_36 : decode cX0_choice 36 = .ok (.iload_n 2, 1) := by decide +kernel
theorem dX0_choice_37 : decode cX0_choice 37 = .ok (.iconst (-1), 1) := by decide +kernel
theorem dX0_choice_38 : decode cX0_choice 38 = .ok (.if_icmp .eq 14, 3) := by decide +kernel
theorem dX0_choice_41 : decode cX0_choice 41 = .ok (.aload_n 0, 1) := by decide +kernel
theorem dX0_choice_42 : decode cX0_choice 42 = .ok (.iload 4, 2) := by decide +kernel
theorem dX0_choice_44 : decode cX0_choice 44 = .ok (.iload_n 1, 1) := by decide +kernel
theorem dX0_choice_45 : decode cX0_choice 45 = .ok (.invokevirtual 129, 3) := by decide +kernel
theorem dX0_choice_48 : decode cX0_choice 48 = .ok (.iload_n 3, 1) := by decide +kernel
theorem dX0_choice_49 : decode cX0_choice 49 = .ok (.if_icmp .ge 14, 3) := by decide +kernel
theorem dX0_choice_52 : decode cX0_choice 52 = .ok (.iload 4, 2) := by decide +kernel
theorem dX0_choice_54 : decode cX0_choice 54 = .ok (.istore_n 2, 1) := by decide +kernel
theorem dX0_choice_55 : decode cX0_choice 55 = .ok (.aload_n 0, 1) := by decide +kernel
theorem dX0_choice_56 : decode cX0_choice 56 = .ok (.iload 4, 2) := by decide +kernel
theorem dX0_choice_58 : decode cX0_choice 58 = .ok (.iload_n 1, 1) := by decide +kernel
theorem dX0_choice_59 : decode cX0_choice 59 = .ok (.invokevirtual 129, 3) := by decide +kernel
theorem dX0_choice_62 : decode cX0_choice 62 = .ok (.istore_n 3, 1) := by decide +kernel
theorem dX0_choice_63 : decode cX0_choice 63 = .ok (.iinc 4 1, 3) := by decide +kernel
theorem dX0_choice_66 : decode cX0_choice 66 = .ok (.goto (-48), 3) := by decide +kernel
theorem dX0_choice_69 : decode cX0_choice 69 = .ok (.iload_n 2, 1) := by decide +kernel
theorem dX0_choice_70 : decode cX0_choice 70 = .ok (.ireturn, 1) := by decide +kernel
theorem dX0_rightCount_0 : decode cX0_rightCount 0 = .ok (.iconst 0, 1) := by decide +kernel
theorem dX0_rightCount_1 : decode cX0_rightCount 1 = .ok (.istore_n 1, 1) := by decide +kernel
theorem dX0_rightCount_2 : decode cX0_rightCount 2 = .ok (.iconst 0, 1) := by decide +kernel
theorem dX0_rightCount_3 : decode cX0_rightCount 3 = .ok (.istore_n 2, 1) := by decide +kernel
theorem dX0_rightCount_4 : decode cX0_rightCount 4 = .ok (.iload_n 2, 1) := by decide +kernel
theorem dX0_rightCount_5 : decode cX0_rightCount 5 = .ok (.aload_n 0, 1) := by decide +kernel
theorem dX0_rightCount_6 : decode cX0_rightCount 6 = .ok (.getfield 61, 3) := by decide +kernel
theorem dX0_rightCount_9 : decode cX0_rightCount 9 = .ok (.if_icmp .ge 30, 3) := by decide +kernel
theorem dX0_rightCount_12 : decode cX0_rightCount 12 = .ok (.iload_n 1, 1) := by decide +kernel
theorem dX0_rightCount_13 : decode cX0_rightCount 13 = .ok (.aload_n 0, 1) := by decide +kernel
theorem dX0_rightCount_14 : decode cX0_rightCount 14 = .ok (.getfield 27, 3) := by decide +kernel
theorem dX0_rightCount_17 : decode cX0_rightCount 17 = .ok (.getfield 86, 3) := by decide +kernel
theorem dX0_rightCount_20 : decode cX0_rightCount 20 = .ok (.iload_n 2, 1) := by decide +kernel
theorem dX0_rightCount_21 : decode cX0_rightCount 21 = .ok (.iaload, 1) := by decide +kernel
theorem dX0_rightCount_22 : decode cX0_rightCount 22 = .ok (.iload_n 2, 1) := by decide +kernel
theorem dX0_rightCount_23 : decode cX0_rightCount 23 = .ok (.if_icmp .ne 7, 3) := by decide +kernel
theorem dX0_rightCount_26 : decode cX0_rightCount 26 = .ok (.iconst 1, 1) := by decide +kernel
theorem dX0_rightCount_27 : decode cX0_rightCount 27 = .ok (.goto 4, 3) := by decide +kernel
theorem dX0_rightCount_30 : decode cX0_rightCount 30 = .ok (.iconst 0, 1) := by decide +kernel
theorem dX0_rightCount_31 : decode cX0_rightCount 31 = .ok (.iadd, 1) := by decide +kernel
theorem dX0_rightCount_32 : decode cX0_rightCount 32 = .ok (.istore_n 1, 1) := by decide +kernel
theorem dX0_rightCount_33 : decode cX0_rightCount 33 = .ok (.iinc 2 1, 3) := by decide +kernel
theorem dX0_rightCount_36 : decode cX0_rightCount 36 = .ok (.goto (-32), 3) := by decide +kernel
theorem dX0_rightCount_39 : decode cX0_rightCount 39 = .ok (.iload_n 1, 1) := by decide +kernel
theorem dX0_rightCount_40 : decode cX0_rightCount 40 = .ok (.ireturn, 1) := by decide +kernel
theorem dX0_drifted_0 : decode cX0_drifted 0 = .ok (.iload_n 1, 1) := by decide +kernel
theorem dX0_drifted_1 : decode cX0_drifted 1 = .ok (.istore_n 3, 1) := by decide +kernel
theorem dX0_drifted_2 : decode cX0_drifted 2 = .ok (.iconst 0, 1) := by decide +kernel
theorem dX0_drifted_3 : decode cX0_drifted 3 = .ok (.istore 4, 2) := by decide +kernel
theorem dX0_drifted_5 : decode cX0_drifted 5 = .ok (.iload 4, 2) := by decide +kernel
theorem dX0_drifted_7 : decode cX0_drifted 7 = .ok (.iload_n 2, 1) := by decide +kernel
theorem dX0_drifted_8 : decode cX0_drifted 8 = .ok (.if_icmp .ge 27, 3) := by decide +kernel
theorem dX0_drifted_11 : decode cX0_drifted 11 = .ok (.iconst 0, 1) := by decide +kernel
theorem dX0_drifted_12 : decode cX0_drifted 12 = .ok (.bipush 11, 2) := by decide +kernel
theorem dX0_drifted_14 : decode cX0_drifted 14 = .ok (.iload_n 3, 1) := by decide +kernel
theorem dX0_drifted_15 : decode cX0_drifted 15 = .ok (.aload_n 0, 1) := by decide +kernel
theorem dX0_drifted_16 : decode cX0_drifted 16 = .ok (.getfield 9, 3) := by decide +kernel
theorem dX0_drifted_19 : decode cX0_drifted 19 = .ok (.iload_n 3, 1) := by decide +kernel
theorem dX0_drifted_20 : decode cX0_drifted 20 = .ok (.iaload, 1) := by decide +kernel
theorem dX0_drifted_21 : decode cX0_drifted 21 = .ok (.iadd, 1) := by decide +kernel
theorem dX0_drifted_22 : decode cX0_drifted 22 = .ok (.invokestatic 132, 3) := by decide +kernel
theorem dX0_drifted_25 : decode cX0_drifted 25 = .ok (.invokestatic 135, 3) := by decide +kernel
theorem dX0_drifted_28 : decode cX0_drifted 28 = .ok (.istore_n 3, 1) := by decide +kernel
theorem dX0_drifted_29 : decode cX0_drifted 29 = .ok (.iinc 4 1, 3) := by decide +kernel
theorem dX0_drifted_32 : decode cX0_drifted 32 = .ok (.goto (-27), 3) := by decide +kernel
theorem dX0_drifted_35 : decode cX0_drifted 35 = .ok (.iload_n 3, 1) := by decide +kernel
theorem dX0_drifted_36 : decode cX0_drifted 36 = .ok (.ireturn, 1) := by decide +kernel
theorem dX0_cellAhead_0 : decode cX0_cellAhead 0 = .ok (.aload_n 0, 1) := by decide +kernel
theorem dX0_cellAhead_1 : decode cX0_cellAhead 1 = .ok (.iload_n 1, 1) := by decide +kernel
theorem dX0_cellAhead_2 : decode cX0_cellAhead 2 = .ok (.invokevirtual 96, 3) := by decide +kernel
theorem dX0_cellAhead_5 : decode cX0_cellAhead 5 = .ok (.ifCond .eq 20, 3) := by decide +kernel
theorem dX0_cellAhead_8 : decode cX0_cellAhead 8 = .ok (.aload_n 0, 1) := by decide +kernel
theorem dX0_cellAhead_9 : decode cX0_cellAhead 9 = .ok (.aload_n 0, 1) := by decide +kernel
theorem dX0_cellAhead_10 : decode cX0_cellAhead 10 = .ok (.getfield 27, 3) := by decide +kernel
theorem dX0_cellAhead_13 : decode cX0_cellAhead 13 = .ok (.getfield 83, 3) := by decide +kernel
theorem dX0_cellAhead_16 : decode cX0_cellAhead 16 = .ok (.iload_n 1, 1) := by decide +kernel
theorem dX0_cellAhead_17 : decode cX0_cellAhead 17 = .ok (.iaload, 1) := by decide +kernel
theorem dX0_cellAhead_18 : decode cX0_cellAhead 18 = .ok (.iload_n 2, 1) := by decide +kernel
theorem dX0_cellAhead_19 : decode cX0_cellAhead 19 = .ok (.invokevirtual 138, 3) := by decide +kernel
theorem dX0_cellAhead_22 : decode cX0_cellAhead 22 = .ok (.goto 4, 3) := by decide +kernel
theorem dX0_cellAhead_25 : decode cX0_cellAhead 25 = .ok (.iconst (-1), 1) := by decide +kernel
theorem dX0_cellAhead_26 : decode cX0_cellAhead 26 = .ok (.ireturn, 1) := by decide +kernel
theorem dX0_flow_0 : decode cX0_flow 0 = .ok (.iconst 0, 1) := by decide +kernel
theorem dX0_flow_1 : decode cX0_flow 1 = .ok (.istore_n 1, 1) := by decide +kernel
theorem dX0_flow_2 : decode cX0_flow 2 = .ok (.iload_n 1, 1) := by decide +kernel
theorem dX0_flow_3 : decode cX0_flow 3 = .ok (.aload_n 0, 1) := by decide +kernel
theorem dX0_flow_4 : decode cX0_flow 4 = .ok (.getfield 61, 3) := by decide +kernel
theorem dX0_flow_7 : decode cX0_flow 7 = .ok (.if_icmp .ge 76, 3) := by decide +kernel
theorem dX0_flow_10 : decode cX0_flow 10 = .ok (.aload_n 0, 1) := by decide +kernel
theorem dX0_flow_11 : decode cX0_flow 11 = .ok (.iload_n 1, 1) := by decide +kernel
theorem dX0_flow_12 : decode cX0_flow 12 = .ok (.invokevirtual 96, 3) := by decide +kernel
theorem dX0_flow_15 : decode cX0_flow 15 = .ok (.ifCond .eq 29, 3) := by decide +kernel
theorem dX0_flow_18 : decode cX0_flow 18 = .ok (.aload_n 0, 1) := by decide +kernel
theorem dX0_flow_19 : decode cX0_flow 19 = .ok (.getfield 27, 3) := by decide +kernel
theorem dX0_flow_22 : decode cX0_flow 22 = .ok (.getfield 83, 3) := by decide +kernel
theorem dX0_flow_25 : decode cX0_flow 25 = .ok (.iload_n 1, 1) := by decide +kernel
theorem dX0_flow_26 : decode cX0_flow 26 = .ok (.aload_n 0, 1) := by decide +kernel
theorem dX0_flow_27 : decode cX0_flow 27 = .ok (.aload_n 0, 1) := by decide +kernel
theorem dX0_flow_28 : decode cX0_flow 28 = .ok (.getfield 27, 3) := by decide +kernel
theorem dX0_flow_31 : decode cX0_flow 31 = .ok (.getfield 83, 3) := by decide +kernel
theorem dX0_flow_34 : decode cX0_flow 34 = .ok (.iload_n 1, 1) := by decide +kernel
theorem dX0_flow_35 : decode cX0_flow 35 = .ok (.iaload, 1) := by decide +kernel
theorem dX0_flow_36 : decode cX0_flow 36 = .ok (.iconst 1, 1) := by decide +kernel
theorem dX0_flow_37 : decode cX0_flow 37 = .ok (.invokevirtual 138, 3) := by decide +kernel
theorem dX0_flow_40 : decode cX0_flow 40 = .ok (.iastore, 1) := by decide +kernel
theorem dX0_flow_41 : decode cX0_flow 41 = .ok (.goto 36, 3) := by decide +kernel
theorem dX0_flow_44 : decode cX0_flow 44 = .ok (.aload_n 0, 1) := by decide +kernel
theorem dX0_flow_45 : decode cX0_flow 45 = .ok (.iload_n 1, 1) := by decide +kernel
theorem dX0_flow_46 : decode cX0_flow 46 = .ok (.invokevirtual 100, 3) := by decide +kernel
theorem dX0_flow_49 : decode cX0_flow 49 = .ok (.ifCond .eq 28, 3) := by decide +kernel
theorem dX0_flow_52 : decode cX0_flow 52 = .ok (.aload_n 0, 1) := by decide +kernel
theorem dX0_flow_53 : decode cX0_flow 53 = .ok (.getfield 27, 3) := by decide +kernel
theorem dX0_flow_56 : decode cX0_flow 56 = .ok (.getfield 89, 3) := by decide +kernel
theorem dX0_flow_59 : decode cX0_flow 59 = .ok (.iload_n 1, 1) := by decide +kernel
theorem dX0_flow_60 : decode cX0_flow 60 = .ok (.aload_n 0, 1) := by decide +kernel
theorem dX0_flow_61 : decode cX0_flow 61 = .ok (.getfield 27, 3) := by decide +kernel
theorem dX0_flow_64 : decode cX0_flow 64 = .ok (.getfield 89, 3) := by decide +kernel
theorem dX0_flow_67 : decode cX0_flow 67 = .ok (.iload_n 1, 1) := by decide +kernel
theorem dX0_flow_68 : decode cX0_flow 68 = .ok (.iaload, 1) := by decide +kernel
theorem dX0_flow_69 : decode cX0_flow 69 = .ok (.iconst 1, 1) := by decide +kernel
theorem dX0_flow_70 : decode cX0_flow 70 = .ok (.iadd, 1) := by decide +kernel
theorem dX0_flow_71 : decode cX0_flow 71 = .ok (.bipush 99, 2) := by decide +kernel
theorem dX0_flow_73 : decode cX0_flow 73 = .ok (.invokestatic 132, 3) := by decide +kernel
theorem dX0_flow_76 : decode cX0_flow 76 = .ok (.iastore, 1) := by decide +kernel
theorem dX0_flow_77 : decode cX0_flow 77 = .ok (.iinc 1 1, 3) := by decide +kernel
theorem dX0_flow_80 : decode cX0_flow 80 = .ok (.goto (-78), 3) := by decide +kernel
theorem dX0_flow_83 : decode cX0_flow 83 = .ok (.aload_n 0, 1) := by decide +kernel
theorem dX0_flow_84 : decode cX0_flow 84 = .ok (.getfield 27, 3) := by decide +kernel
theorem dX0_flow_87 : decode cX0_flow 87 = .ok (.dup, 1) := by decide +kernel
theorem dX0_flow_88 : decode cX0_flow 88 = .ok (.getfield 54, 3) := by decide +kernel
theorem dX0_flow_91 : decode cX0_flow 91 = .ok (.iconst 1, 1) := by decide +kernel
theorem dX0_flow_92 : decode cX0_flow 92 = .ok (.iadd, 1) := by decide +kernel
theorem dX0_flow_93 : decode cX0_flow 93 = .ok (.putfield 54, 3) := by decide +kernel
theorem dX0_flow_96 : decode cX0_flow 96 = .ok (.return_, 1) := by decide +kernel
theorem dX0_passTides_0 : decode cX0_passTides 0 = .ok (.iconst 0, 1) := by decide +kernel
theorem dX0_passTides_1 : decode cX0_passTides 1 = .ok (.istore_n 2, 1) := by decide +kernel
theorem dX0_passTides_2 : decode cX0_passTides 2 = .ok (.iload_n 2, 1) := by decide +kernel
theorem dX0_passTides_3 : decode cX0_passTides 3 = .ok (.iload_n 1, 1) := by decide +kernel
theorem dX0_passTides_4 : decode cX0_passTides 4 = .ok (.if_icmp .ge 26, 3) := by decide +kernel
theorem dX0_passTides_7 : decode cX0_passTides 7 = .ok (.aload_n 0, 1) := by decide +kernel
theorem dX0_passTides_8 : decode cX0_passTides 8 = .ok (.getfield 27, 3) := by decide +kernel
theorem dX0_passTides_11 : decode cX0_passTides 11 = .ok (.getfield 54, 3) := by decide +kernel
theorem dX0_passTides_14 : decode cX0_passTides 14 = .ok (.sipush 999, 3) := by decide +kernel
theorem dX0_passTides_17 : decode cX0_passTides 17 = .ok (.if_icmp .ge 13, 3) := by decide +kernel
theorem dX0_passTides_20 : decode cX0_passTides 20 = .ok (.aload_n 0, 1) := by decide +kernel
theorem dX0_passTides_21 : decode cX0_passTides 21 = .ok (.invokevirtual 141, 3) := by decide +kernel
theorem dX0_passTides_24 : decode cX0_passTides 24 = .ok (.iinc 2 1, 3) := by decide +kernel
theorem dX0_passTides_27 : decode cX0_passTides 27 = .ok (.goto (-25), 3) := by decide +kernel
theorem dX0_passTides_30 : decode cX0_passTides 30 = .ok (.return_, 1) := by decide +kernel
theorem dX0_gather_0 : decode cX0_gather 0 = .ok (.aload_n 0, 1) := by decide +kernel
theorem dX0_gather_1 : decode cX0_gather 1 = .ok (.getfield 27, 3) := by decide +kernel
theorem dX0_gather_4 : decode cX0_gather 4 = .ok (.iconst 0, 1) := by decide +kernel
theorem dX0_gather_5 : decode cX0_gather 5 = .ok (.bipush 11, 2) := by decide +kernel
theorem dX0_gather_7 : decode cX0_gather 7 = .ok (.aload_n 0, 1) := by decide +kernel
theorem dX0_gather_8 : decode cX0_gather 8 = .ok (.getfield 27, 3) := by decide +kernel
theorem dX0_gather_11 : decode cX0_gather 11 = .ok (.getfield 50, 3) := by decide +kernel
theorem dX0_gather_14 : decode cX0_gather 14 = .ok (.iload_n 1, 1) := by decide +kernel
theorem dX0_gather_15 : decode cX0_gather 15 = .ok (.iadd, 1) := by decide +kernel
theorem dX0_gather_16 : decode cX0_gather 16 = .ok (.invokestatic 132, 3) := by decide +kernel
theorem dX0_gather_19 : decode cX0_gather 19 = .ok (.invokestatic 135, 3) := by decide +kernel
theorem dX0_gather_22 : decode cX0_gather 22 = .ok (.putfield 50, 3) := by decide +kernel
theorem dX0_gather_25 : decode cX0_gather 25 = .ok (.iconst 0, 1) := by decide +kernel
theorem dX0_gather_26 : decode cX0_gather 26 = .ok (.istore_n 2, 1) := by decide +kernel
theorem dX0_gather_27 : decode cX0_gather 27 = .ok (.iconst 0, 1) := by decide +kernel
theorem dX0_gather_28 : decode cX0_gather 28 = .ok (.istore_n 3, 1) := by decide +kernel
theorem dX0_gather_29 : decode cX0_gather 29 = .ok (.iload_n 3, 1) := by decide +kernel
theorem dX0_gather_30 : decode cX0_gather 30 = .ok (.aload_n 0, 1) := by decide +kernel
theorem dX0_gather_31 : decode cX0_gather 31 = .ok (.getfield 61, 3) := by decide +kernel
theorem dX0_gather_34 : decode cX0_gather 34 = .ok (.if_icmp .ge 51, 3) := by decide +kernel
theorem dX0_gather_37 : decode cX0_gather 37 = .ok (.aload_n 0, 1) := by decide +kernel
theorem dX0_gather_38 : decode cX0_gather 38 = .ok (.getfield 27, 3) := by decide +kernel
theorem dX0_gather_41 : decode cX0_gather 41 = .ok (.getfield 83, 3) := by decide +kernel
theorem dX0_gather_44 : decode cX0_gather 44 = .ok (.iload_n 3, 1) := by decide +kernel
theorem dX0_gather_45 : decode cX0_gather 45 = .ok (.iaload, 1) := by decide +kernel
theorem dX0_gather_46 : decode cX0_gather 46 = .ok (.aload_n 0, 1) := by decide +kernel
theorem dX0_gather_47 : decode cX0_gather 47 = .ok (.getfield 27, 3) := by decide +kernel
theorem dX0_gather_50 : decode cX0_gather 50 = .ok (.getfield 50, 3) := by decide +kernel
theorem dX0_gather_53 : decode cX0_gather 53 = .ok (.if_icmp .ne 26, 3) := by decide +kernel
theorem dX0_gather_56 : decode cX0_gather 56 = .ok (.aload_n 0, 1) := by decide +kernel
theorem dX0_gather_57 : decode cX0_gather 57 = .ok (.getfield 27, 3) := by decide +kernel
theorem dX0_gather_60 : decode cX0_gather 60 = .ok (.getfield 83, 3) := by decide +kernel
theorem dX0_gather_63 : decode cX0_gather 63 = .ok (.iload_n 3, 1) := by decide +kernel
theorem dX0_gather_64 : decode cX0_gather 64 = .ok (.iconst (-1), 1) := by decide +kernel
theorem dX0_gather_65 : decode cX0_gather 65 = .ok (.iastore, 1) := by decide +kernel
theorem dX0_gather_66 : decode cX0_gather 66 = .ok (.aload_n 0, 1) := by decide +kernel
theorem dX0_gather_67 : decode cX0_gather 67 = .ok (.getfield 27, 3) := by decide +kernel
theorem dX0_gather_70 : decode cX0_gather 70 = .ok (.getfield 89, 3) := by decide +kernel
theorem dX0_gather_73 : decode cX0_gather 73 = .ok (.iload_n 3, 1) := by decide +kernel
theorem dX0_gather_74 : decode cX0_gather 74 = .ok (.iconst 0, 1) := by decide +kernel
theorem dX0_gather_75 : decode cX0_gather 75 = .ok (.iastore, 1) := by decide +kernel
theorem dX0_gather_76 : decode cX0_gather 76 = .ok (.iinc 2 1, 3) := by decide +kernel
theorem dX0_gather_79 : decode cX0_gather 79 = .ok (.iinc 3 1, 3) := by decide +kernel
theorem dX0_gather_82 : decode cX0_gather 82 = .ok (.goto (-53), 3) := by decide +kernel
theorem dX0_gather_85 : decode cX0_gather 85 = .ok (.iload_n 2, 1) := by decide +kernel
theorem dX0_gather_86 : decode cX0_gather 86 = .ok (.ireturn, 1) := by decide +kernel
theorem dX0_remember_0 : decode cX0_remember 0 = .ok (.aload_n 0, 1) := by decide +kernel
theorem dX0_remember_1 : decode cX0_remember 1 = .ok (.getfield 67, 3) := by decide +kernel
theorem dX0_remember_4 : decode cX0_remember 4 = .ok (.bipush 8, 2) := by decide +kernel
theorem dX0_remember_6 : decode cX0_remember 6 = .ok (.if_icmp .lt 40, 3) := by decide +kernel
theorem dX0_remember_9 : decode cX0_remember 9 = .ok (.iconst 1, 1) := by decide +kernel
theorem dX0_remember_10 : decode cX0_remember 10 = .ok (.istore_n 1, 1) := by decide +kernel
theorem dX0_remember_11 : decode cX0_remember 11 = .ok (.iload_n 1, 1) := by decide +kernel
theorem dX0_remember_12 : decode cX0_remember 12 = .ok (.bipush 8, 2) := by decide +kernel
theorem dX0_remember_14 : decode cX0_remember 14 = .ok (.if_icmp .ge 26, 3) := by decide +kernel
theorem dX0_remember_17 : decode cX0_remember 17 = .ok (.aload_n 0, 1) := by decide +kernel
theorem dX0_remember_18 : decode cX0_remember 18 = .ok (.getfield 31, 3) := by decide +kernel
theorem dX0_remember_21 : decode cX0_remember 21 = .ok (.iload_n 1, 1) := by decide +kernel
theorem dX0_remember_22 : decode cX0_remember 22 = .ok (.iconst 1, 1) := by decide +kernel
theorem dX0_remember_23 : decode cX0_remember 23 = .ok (.isub, 1) := by decide +kernel
theorem dX0_remember_24 : decode cX0_remember 24 = .ok (.aaload, 1) := by decide +kernel
theorem dX0_remember_25 : decode cX0_remember 25 = .ok (.aload_n 0, 1) := by decide +kernel
theorem dX0_remember_26 : decode cX0_remember 26 = .ok (.getfield 31, 3) := by decide +kernel
theorem dX0_remember_29 : decode cX0_remember 29 = .ok (.iload_n 1, 1) := by decide +kernel
theorem dX0_remember_30 : decode cX0_remember 30 = .ok (.aaload, 1) := by decide +kernel
theorem dX0_remember_31 : decode cX0_remember 31 = .ok (.invokevirtual 76, 3) := by decide +kernel
theorem dX0_remember_34 : decode cX0_remember 34 = .ok (.iinc 1 1, 3) := by decide +kernel
theorem dX0_remember_37 : decode cX0_remember 37 = .ok (.goto (-26), 3) := by decide +kernel
theorem dX0_remember_40 : decode cX0_remember 40 = .ok (.aload_n 0, 1) := by decide +kernel
theorem dX0_remember_41 : decode cX0_remember 41 = .ok (.bipush 7, 2) := by decide +kernel
theorem dX0_remember_43 : decode cX0_remember 43 = .ok (.putfield 67, 3) := by decide +kernel
theorem dX0_remember_46 : decode cX0_remember 46 = .ok (.aload_n 0, 1) := by decide +kernel
theorem dX0_remember_47 : decode cX0_remember 47 = .ok (.getfield 31, 3) := by decide +kernel
theorem dX0_remember_50 : decode cX0_remember 50 = .ok (.aload_n 0, 1) := by decide +kernel
theorem dX0_remember_51 : decode cX0_remember 51 = .ok (.getfield 67, 3) := by decide +kernel
theorem dX0_remember_54 : decode cX0_remember 54 = .ok (.aaload, 1) := by decide +kernel
theorem dX0_remember_55 : decode cX0_remember 55 = .ok (.aload_n 0, 1) := by decide +kernel
theorem dX0_remember_56 : decode cX0_remember 56 = .ok (.getfield 27, 3) := by decide +kernel
theorem dX0_remember_59 : decode cX0_remember 59 = .ok (.invokevirtual 76, 3) := by decide +kernel
theorem dX0_remember_62 : decode cX0_remember 62 = .ok (.aload_n 0, 1) := by decide +kernel
theorem dX0_remember_63 : decode cX0_remember 63 = .ok (.dup, 1) := by decide +kernel
theorem dX0_remember_64 : decode cX0_remember 64 = .ok (.getfield 67, 3) := by decide +kernel
theorem dX0_remember_67 : decode cX0_remember 67 = .ok (.iconst 1, 1) := by decide +kernel
theorem dX0_remember_68 : decode cX0_remember 68 = .ok (.iadd, 1) := by decide +kernel
theorem dX0_remember_69 : decode cX0_remember 69 = .ok (.putfield 67, 3) := by decide +kernel
theorem dX0_remember_72 : decode cX0_remember 72 = .ok (.return_, 1) := by decide +kernel
theorem dX0_stepBack_0 : decode cX0_stepBack 0 = .ok (.aload_n 0, 1) := by decide +kernel
theorem dX0_stepBack_1 : decode cX0_stepBack 1 = .ok (.getfield 67, 3) := by decide +kernel
theorem dX0_stepBack_4 : decode cX0_stepBack 4 = .ok (.ifCond .le 29, 3) := by decide +kernel
theorem dX0_stepBack_7 : decode cX0_stepBack 7 = .ok (.aload_n 0, 1) := by decide +kernel
theorem dX0_stepBack_8 : decode cX0_stepBack 8 = .ok (.dup, 1) := by decide +kernel
theorem dX0_stepBack_9 : decode cX0_stepBack 9 = .ok (.getfield 67, 3) := by decide +kernel
theorem dX0_stepBack_12 : decode cX0_stepBack 12 = .ok (.iconst 1, 1) := by decide +kernel
theorem dX0_stepBack_13 : decode cX0_stepBack 13 = .ok (.isub, 1) := by decide +kernel
theorem dX0_stepBack_14 : decode cX0_stepBack 14 = .ok (.putfield 67, 3) := by decide +kernel
theorem dX0_stepBack_17 : decode cX0_stepBack 17 = .ok (.aload_n 0, 1) := by decide +kernel
theorem dX0_stepBack_18 : decode cX0_stepBack 18 = .ok (.getfield 27, 3) := by decide +kernel
theorem dX0_stepBack_21 : decode cX0_stepBack 21 = .ok (.aload_n 0, 1) := by decide +kernel
theorem dX0_stepBack_22 : decode cX0_stepBack 22 = .ok (.getfield 31, 3) := by decide +kernel
theorem dX0_stepBack_25 : decode cX0_stepBack 25 = .ok (.aload_n 0, 1) := by decide +kernel
theorem dX0_stepBack_26 : decode cX0_stepBack 26 = .ok (.getfield 67, 3) := by decide +kernel
theorem dX0_stepBack_29 : decode cX0_stepBack 29 = .ok (.aaload, 1) := by decide +kernel
theorem dX0_stepBack_30 : decode cX0_stepBack 30 = .ok (.invokevirtual 76, 3) := by decide +kernel
theorem dX0_stepBack_33 : decode cX0_stepBack 33 = .ok (.return_, 1) := by decide +kernel
theorem dX1_init_0 : decode cX1_init 0 = .ok (.aload_n 0, 1) := by decide +kernel
theorem dX1_init_1 : decode cX1_init 1 = .ok (.invokespecial 3, 3) := by decide +kernel
theorem dX1_init_4 : decode cX1_init 4 = .ok (.aload_n 0, 1) := by decide +kernel
theorem dX1_init_5 : decode cX1_init 5 = .ok (.bipush 6, 2) := by decide +kernel
theorem dX1_init_7 : decode cX1_init 7 = .ok (.newarray .int, 2) := by decide +kernel
theorem dX1_init_9 : decode cX1_init 9 = .ok (.putfield 9, 3) := by decide +kernel
theorem dX1_init_12 : decode cX1_init 12 = .ok (.aload_n 0, 1) := by decide +kernel
theorem dX1_init_13 : decode cX1_init 13 = .ok (.bipush 6, 2) := by decide +kernel
theorem dX1_init_15 : decode cX1_init 15 = .ok (.newarray .int, 2) := by decide +kernel
theorem dX1_init_17 : decode cX1_init 17 = .ok (.putfield 15, 3) := by decide +kernel
theorem dX1_init_20 : decode cX1_init 20 = .ok (.aload_n 0, 1) := by decide +kernel
theorem dX1_init_21 : decode cX1_init 21 = .ok (.bipush 6, 2) := by decide +kernel
theorem dX1_init_23 : decode cX1_init 23 = .ok (.newarray .int, 2) := by decide +kernel
theorem dX1_init_25 : decode cX1_init 25 = .ok (.putfield 18, 3) := by decide +kernel
theorem dX1_init_28 : decode cX1_init 28 = .ok (.return_, 1) := by decide +kernel
theorem dX1_copy_0 : decode cX1_copy 0 = .ok (.aload_n 1, 1) := by decide +kernel
theorem dX1_copy_1 : decode cX1_copy 1 = .ok (.getfield 9, 3) := by decide +kernel
theorem dX1_copy_4 : decode cX1_copy 4 = .ok (.iconst 0, 1) := by decide +kernel
theorem dX1_copy_5 : decode cX1_copy 5 = .ok (.aload_n 0, 1) := by decide +kernel
theorem dX1_copy_6 : decode cX1_copy 6 = .ok (.getfield 9, 3) := by decide +kernel
theorem dX1_copy_9 : decode cX1_copy 9 = .ok (.iconst 0, 1) := by decide +kernel
theorem dX1_copy_10 : decode cX1_copy 10 = .ok (.bipush 6, 2) := by decide +kernel
theorem dX1_copy_12 : decode cX1_copy 12 = .ok (.invokestatic 21, 3) := by decide +kernel
theorem dX1_copy_15 : decode cX1_copy 15 = .ok (.aload_n 1, 1) := by decide +kernel
theorem dX1_copy_16 : decode cX1_copy 16 = .ok (.getfield 15, 3) := by decide +kernel
theorem dX1_copy_19 : decode cX1_copy 19 = .ok (.iconst 0, 1) := by decide +kernel
theorem dX1_copy_20 : decode cX1_copy 20 = .ok (.aload_n 0, 1) := by decide +kernel
theorem dX1_copy_21 : decode cX1_copy 21 = .ok (.getfield 15, 3) := by decide +kernel
theorem dX1_copy_24 : decode cX1_copy 24 = .ok (.iconst 0, 1) := by decide +kernel
theorem dX1_copy_25 : decode cX1_copy 25 = .ok (.bipush 6, 2) := by decide +kernel
theorem dX1_copy_27 : decode cX1_copy 27 = .ok (.invokestatic 21, 3) := by decide +kernel
theorem dX1_copy_30 : decode cX1_copy 30 = .ok (.aload_n 1, 1) := by decide +kernel
theorem dX1_copy_31 : decode cX1_copy 31 = .ok (.getfield 18, 3) := by decide +kernel
theorem dX1_copy_34 : decode cX1_copy 34 = .ok (.iconst 0, 1) := by decide +kernel
theorem dX1_copy_35 : decode cX1_copy 35 = .ok (.aload_n 0, 1) := by decide +kernel
theorem dX1_copy_36 : decode cX1_copy 36 = .ok (.getfield 18, 3) := by decide +kernel
theorem dX1_copy_39 : decode cX1_copy 39 = .ok (.iconst 0, 1) := by decide +kernel
theorem dX1_copy_40 : decode cX1_copy 40 = .ok (.bipush 6, 2) := by decide +kernel
theorem dX1_copy_42 : decode cX1_copy 42 = .ok (.invokestatic 21, 3) := by decide +kernel
theorem dX1_copy_45 : decode cX1_copy 45 = .ok (.aload_n 0, 1) := by decide +kernel
theorem dX1_copy_46 : decode cX1_copy 46 = .ok (.aload_n 1, 1) := by decide +kernel
theorem dX1_copy_47 : decode cX1_copy 47 = .ok (.getfield 27, 3) := by decide +kernel
theorem dX1_copy_50 : decode cX1_copy 50 = .ok (.putfield 27, 3) := by decide +kernel
theorem dX1_copy_53 : decode cX1_copy 53 = .ok (.aload_n 0, 1) := by decide +kernel
theorem dX1_copy_54 : decode cX1_copy 54 = .ok (.aload_n 1, 1) := by decide +kernel
theorem dX1_copy_55 : decode cX1_copy 55 = .ok (.getfield 31, 3) := by decide +kernel
theorem dX1_copy_58 : decode cX1_copy 58 = .ok (.putfield 31, 3) := by decide +kernel
theorem dX1_copy_61 : decode cX1_copy 61 = .ok (.return_, 1) := by decide +kernel
theorem dX4_init_0 : decode cX4_init 0 = .ok (.aload_n 0, 1) := by decide +kernel
theorem dX4_init_1 : decode cX4_init 1 = .ok (.invokespecial 1, 3) := by decide +kernel
theorem dX4_init_4 : decode cX4_init 4 = .ok (.aload_n 0, 1) := by decide +kernel
theorem dX4_init_5 : decode cX4_init 5 = .ok (.iload_n 1, 1) := by decide +kernel
theorem dX4_init_6 : decode cX4_init 6 = .ok (.putfield 7, 3) := by decide +kernel
theorem dX4_init_9 : decode cX4_init 9 = .ok (.aload_n 0, 1) := by decide +kernel
theorem dX4_init_10 : decode cX4_init 10 = .ok (.iload_n 2, 1) := by decide +kernel
theorem dX4_init_11 : decode cX4_init 11 = .ok (.putfield 13, 3) := by decide +kernel
theorem dX4_init_14 : decode cX4_init 14 = .ok (.aload_n 0, 1) := by decide +kernel
theorem dX4_init_15 : decode cX4_init 15 = .ok (.iload_n 1, 1) := by decide +kernel
theorem dX4_init_16 : decode cX4_init 16 = .ok (.iload_n 2, 1) := by decide +kernel
theorem dX4_init_17 : decode cX4_init 17 = .ok (.imul, 1) := by decide +kernel
theorem dX4_init_18 : decode cX4_init 18 = .ok (.newarray .int, 2) := by decide +kernel
theorem dX4_init_20 : decode cX4_init 20 = .ok (.putfield 16, 3) := by decide +kernel
theorem dX4_init_23 : decode cX4_init 23 = .ok (.return_, 1) := by decide +kernel
theorem dX4_add_0 : decode cX4_add 0 = .ok (.aload_n 0, 1) := by decide +kernel
theorem dX4_add_1 : decode cX4_add 1 = .ok (.getfield 20, 3) := by decide +kernel
theorem dX4_add_4 : decode cX4_add 4 = .ok (.aload_n 0, 1) := by decide +kernel
theorem dX4_add_5 : decode cX4_add 5 = .ok (.getfield 7, 3) := by decide +kernel
theorem dX4_add_8 : decode cX4_add 8 = .ok (.if_icmp .ge 38, 3) := by decide +kernel
theorem dX4_add_11 : decode cX4_add 11 = .ok (.aload_n 0, 1) := by decide +kernel
theorem dX4_add_12 : decode cX4_add 12 = .ok (.iconst 0, 1) := by decide +kernel
theorem dX4_add_13 : decode cX4_add 13 = .ok (.iload_n 1, 1) := by decide +kernel
theorem dX4_add_14 : decode cX4_add 14 = .ok (.invokevirtual 23, 3) := by decide +kernel
theorem dX4_add_17 : decode cX4_add 17 = .ok (.aload_n 0, 1) := by decide +kernel
theorem dX4_add_18 : decode cX4_add 18 = .ok (.iconst 1, 1) := by decide +kernel
theorem dX4_add_19 : decode cX4_add 19 = .ok (.iload_n 2, 1) := by decide +kernel
theorem dX4_add_20 : decode cX4_add 20 = .ok (.invokevirtual 23, 3) := by decide +kernel
theorem dX4_add_23 : decode cX4_add 23 = .ok (.aload_n 0, 1) := by decide +kernel
theorem dX4_add_24 : decode cX4_add 24 = .ok (.iconst 2, 1) := by decide +kernel
theorem dX4_add_25 : decode cX4_add 25 = .ok (.iload_n 3, 1) := by decide +kernel
theorem dX4_add_26 : decode cX4_add 26 = .ok (.invokevirtual 23, 3) := by decide +kernel
theorem dX4_add_29 : decode cX4_add 29 = .ok (.aload_n 0, 1) := by decide +kernel
theorem dX4_add_30 : decode cX4_add 30 = .ok (.iconst 3, 1) := by decide +kernel
theorem dX4_add_31 : decode cX4_add 31 = .ok (.iload 4, 2) := by decide +kernel
theorem dX4_add_33 : decode cX4_add 33 = .ok (.invokevirtual 23, 3) := by decide +kernel
theorem dX4_add_36 : decode cX4_add 36 = .ok (.aload_n 0, 1) := by decide +kernel
theorem dX4_add_37 : decode cX4_add 37 = .ok (.dup, 1) := by decide +kernel
theorem dX4_add_38 : decode cX4_add 38 = .ok (.getfield 20, 3) := by decide +kernel
theorem dX4_add_41 : decode cX4_add 41 = .ok (.iconst 1, 1) := by decide +kernel
theorem dX4_add_42 : decode cX4_add 42 = .ok (.iadd, 1) := by decide +kernel
theorem dX4_add_43 : decode cX4_add 43 = .ok (.putfield 20, 3) := by decide +kernel
theorem dX4_add_46 : decode cX4_add 46 = .ok (.aload_n 0, 1) := by decide +kernel
theorem dX4_add_47 : decode cX4_add 47 = .ok (.getfield 20, 3) := by decide +kernel
theorem dX4_add_50 : decode cX4_add 50 = .ok (.ireturn, 1) := by decide +kernel
theorem dX4_put_0 : decode cX4_put 0 = .ok (.iload_n 1, 1) := by decide +kernel
theorem dX4_put_1 : decode cX4_put 1 = .ok (.aload_n 0, 1) := by decide +kernel
theorem dX4_put_2 : decode cX4_put 2 = .ok (.getfield 13, 3) := by decide +kernel
theorem dX4_put_5 : decode cX4_put 5 = .ok (.if_icmp .ge 20, 3) := by decide +kernel
theorem dX4_put_8 : decode cX4_put 8 = .ok (.aload_n 0, 1) := by decide +kernel
theorem dX4_put_9 : decode cX4_put 9 = .ok (.getfield 16, 3) := by decide +kernel
theorem dX4_put_12 : decode cX4_put 12 = .ok (.aload_n 0, 1) := by decide +kernel
theorem dX4_put_13 : decode cX4_put 13 = .ok (.getfield 20, 3) := by decide +kernel
theorem dX4_put_16 : decode cX4_put 16 = .ok (.aload_n 0, 1) := by decide +kernel
theorem dX4_put_17 : decode cX4_put 17 = .ok (.getfield 13, 3) := by decide +kernel
theorem dX4_put_20 : decode cX4_put 20 = .ok (.imul, 1) := by decide +kernel
theorem dX4_put_21 : decode cX4_put 21 = .ok (.iload_n 1, 1) := by decide +kernel
theorem dX4_put_22 : decode cX4_put 22 = .ok (.iadd, 1) := by decide +kernel
theorem dX4_put_23 : decode cX4_put 23 = .ok (.iload_n 2, 1) := by decide +kernel
theorem dX4_put_24 : decode cX4_put 24 = .ok (.iastore, 1) := by decide +kernel
theorem dX4_put_25 : decode cX4_put 25 = .ok (.return_, 1) := by decide +kernel
theorem dX4_get_0 : decode cX4_get 0 = .ok (.aload_n 0, 1) := by decide +kernel
theorem dX4_get_1 : decode cX4_get 1 = .ok (.getfield 16, 3) := by decide +kernel
theorem dX4_get_4 : decode cX4_get 4 = .ok (.iload_n 1, 1) := by decide +kernel
theorem dX4_get_5 : decode cX4_get 5 = .ok (.aload_n 0, 1) := by decide +kernel
theorem dX4_get_6 : decode cX4_get 6 = .ok (.getfield 13, 3) := by decide +kernel
theorem dX4_get_9 : decode cX4_get 9 = .ok (.imul, 1) := by decide +kernel
theorem dX4_get_10 : decode cX4_get 10 = .ok (.iload_n 2, 1) := by decide +kernel
theorem dX4_get_11 : decode cX4_get 11 = .ok (.iadd, 1) := by decide +kernel
theorem dX4_get_12 : decode cX4_get 12 = .ok (.iaload, 1) := by decide +kernel
theorem dX4_get_13 : decode cX4_get 13 = .ok (.ireturn, 1) := by decide +kernel
theorem dX4_drop_0 : decode cX4_drop 0 = .ok (.aload_n 0, 1) := by decide +kernel
theorem dX4_drop_1 : decode cX4_drop 1 = .ok (.getfield 20, 3) := by decide +kernel
theorem dX4_drop_4 : decode cX4_drop 4 = .ok (.istore_n 1, 1) := by decide +kernel
theorem dX4_drop_5 : decode cX4_drop 5 = .ok (.aload_n 0, 1) := by decide +kernel
theorem dX4_drop_6 : decode cX4_drop 6 = .ok (.iconst 0, 1) := by decide +kernel
theorem dX4_drop_7 : decode cX4_drop 7 = .ok (.putfield 20, 3) := by decide +kernel
theorem dX4_drop_10 : decode cX4_drop 10 = .ok (.iload_n 1, 1) := by decide +kernel
theorem dX4_drop_11 : decode cX4_drop 11 = .ok (.ireturn, 1) := by decide +kernel
theorem dX4_copy_0 : decode cX4_copy 0 = .ok (.aload_n 1, 1) := by decide +kernel
theorem dX4_copy_1 : decode cX4_copy 1 = .ok (.getfield 16, 3) := by decide +kernel
theorem dX4_copy_4 : decode cX4_copy 4 = .ok (.iconst 0, 1) := by decide +kernel
theorem dX4_copy_5 : decode cX4_copy 5 = .ok (.aload_n 0, 1) := by decide +kernel
theorem dX4_copy_6 : decode cX4_copy 6 = .ok (.getfield 16, 3) := by decide +kernel
theorem dX4_copy_9 : decode cX4_copy 9 = .ok (.iconst 0, 1) := by decide +kernel
theorem dX4_copy_10 : decode cX4_copy 10 = .ok (.aload_n 0, 1) := by decide +kernel
theorem dX4_copy_11 : decode cX4_copy 11 = .ok (.getfield 16, 3) := by decide +kernel
theorem dX4_copy_14 : decode cX4_copy 14 = .ok (.arraylength, 1) := by decide +kernel
theorem dX4_copy_15 : decode cX4_copy 15 = .ok (.aload_n 1, 1) := by decide +kernel
theorem dX4_copy_16 : decode cX4_copy 16 = .ok (.getfield 16, 3) := by decide +kernel
theorem dX4_copy_19 : decode cX4_copy 19 = .ok (.arraylength, 1) := by decide +kernel
theorem dX4_copy_20 : decode cX4_copy 20 = .ok (.invokestatic 27, 3) := by decide +kernel
theorem dX4_copy_23 : decode cX4_copy 23 = .ok (.invokestatic 33, 3) := by decide +kernel
theorem dX4_copy_26 : decode cX4_copy 26 = .ok (.aload_n 0, 1) := by decide +kernel
theorem dX4_copy_27 : decode cX4_copy 27 = .ok (.aload_n 1, 1) := by decide +kernel
theorem dX4_copy_28 : decode cX4_copy 28 = .ok (.getfield 20, 3) := by decide +kernel
theorem dX4_copy_31 : decode cX4_copy 31 = .ok (.putfield 20, 3) := by decide +kernel
theorem dX4_copy_34 : decode cX4_copy 34 = .ok (.return_, 1) := by decide +kernel
theorem dX4_mixInto_0 : decode cX4_mixInto 0 = .ok (.lload_n 1, 1) := by decide +kernel
theorem dX4_mixInto_1 : decode cX4_mixInto 1 = .ok (.lstore_n 3, 1) := by decide +kernel
theorem dX4_mixInto_2 : decode cX4_mixInto 2 = .ok (.iconst 0, 1) := by decide +kernel
theorem dX4_mixInto_3 : decode cX4_mixInto 3 = .ok (.istore 5, 2) := by decide +kernel
theorem dX4_mixInto_5 : decode cX4_mixInto 5 = .ok (.iload 5, 2) := by decide +kernel
theorem dX4_mixInto_7 : decode cX4_mixInto 7 = .ok (.aload_n 0, 1) := by decide +kernel
theorem dX4_mixInto_8 : decode cX4_mixInto 8 = .ok (.getfield 20, 3) := by decide +kernel
theorem dX4_mixInto_11 : decode cX4_mixInto 11 = .ok (.aload_n 0, 1) := by decide +kernel
theorem dX4_mixInto_12 : decode cX4_mixInto 12 = .ok (.getfield 13, 3) := by decide +kernel
theorem dX4_mixInto_15 : decode cX4_mixInto 15 = .ok (.imul, 1) := by decide +kernel
theorem dX4_mixInto_16 : decode cX4_mixInto 16 = .ok (.if_icmp .ge 24, 3) := by decide +kernel
theorem dX4_mixInto_19 : decode cX4_mixInto 19 = .ok (.ldc2_w 39, 3) := by decide +kernel
theorem dX4_mixInto_22 : decode cX4_mixInto 22 = .ok (.lload_n 3, 1) := by decide +kernel
theorem dX4_mixInto_23 : decode cX4_mixInto 23 = .ok (.lmul, 1) := by decide +kernel
theorem dX4_mixInto_24 : decode cX4_mixInto 24 = .ok (.aload_n 0, 1) := by decide +kernel
theorem dX4_mixInto_25 : decode cX4_mixInto 25 = .ok (.getfield 16, 3) := by decide +kernel
theorem dX4_mixInto_28 : decode cX4_mixInto 28 = .ok (.iload 5, 2) := by decide +kernel
theorem dX4_mixInto_30 : decode cX4_mixInto 30 = .ok (.iaload, 1) := by decide +kernel
theorem dX4_mixInto_31 : decode cX4_mixInto 31 = .ok (.i2l, 1) := by decide +kernel
theorem dX4_mixInto_32 : decode cX4_mixInto 32 = .ok (.ladd, 1) := by decide +kernel
theorem dX4_mixInto_33 : decode cX4_mixInto 33 = .ok (.lstore_n 3, 1) := by decide +kernel
theorem dX4_mixInto_34 : decode cX4_mixInto 34 = .ok (.iinc 5 1, 3) := by decide +kernel
theorem dX4_mixInto_37 : decode cX4_mixInto 37 = .ok (.goto (-32), 3) := by decide +kernel
theorem dX4_mixInto_40 : decode cX4_mixInto 40 = .ok (.lload_n 3, 1) := by decide +kernel
theorem dX4_mixInto_41 : decode cX4_mixInto 41 = .ok (.lreturn, 1) := by decide +kernel
