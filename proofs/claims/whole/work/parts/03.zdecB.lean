theorem dX2_init_0 : decode cX2_init 0 = .ok (.aload_n 0, 1) := by decide +kernel
theorem dX2_init_1 : decode cX2_init 1 = .ok (.invokespecial 3, 3) := by decide +kernel
theorem dX2_init_4 : decode cX2_init 4 = .ok (.aload_n 0, 1) := by decide +kernel
theorem dX2_init_5 : decode cX2_init 5 = .ok (.bipush 6, 2) := by decide +kernel
theorem dX2_init_7 : decode cX2_init 7 = .ok (.newarray .int, 2) := by decide +kernel
theorem dX2_init_9 : decode cX2_init 9 = .ok (.putfield 9, 3) := by decide +kernel
theorem dX2_init_12 : decode cX2_init 12 = .ok (.aload_n 0, 1) := by decide +kernel
theorem dX2_init_13 : decode cX2_init 13 = .ok (.bipush 6, 2) := by decide +kernel
theorem dX2_init_15 : decode cX2_init 15 = .ok (.newarray .int, 2) := by decide +kernel
theorem dX2_init_17 : decode cX2_init 17 = .ok (.putfield 15, 3) := by decide +kernel
theorem dX2_init_20 : decode cX2_init 20 = .ok (.aload_n 0, 1) := by decide +kernel
theorem dX2_init_21 : decode cX2_init 21 = .ok (.bipush 36, 2) := by decide +kernel
theorem dX2_init_23 : decode cX2_init 23 = .ok (.newarray .int, 2) := by decide +kernel
theorem dX2_init_25 : decode cX2_init 25 = .ok (.putfield 18, 3) := by decide +kernel
theorem dX2_init_28 : decode cX2_init 28 = .ok (.return_, 1) := by decide +kernel
theorem dX2_find_0 : decode cX2_find 0 = .ok (.aload_n 0, 1) := by decide +kernel
theorem dX2_find_1 : decode cX2_find 1 = .ok (.aload_n 1, 1) := by decide +kernel
theorem dX2_find_2 : decode cX2_find 2 = .ok (.invokevirtual 21, 3) := by decide +kernel
theorem dX2_find_5 : decode cX2_find 5 = .ok (.aload_n 0, 1) := by decide +kernel
theorem dX2_find_6 : decode cX2_find 6 = .ok (.aload_n 1, 1) := by decide +kernel
theorem dX2_find_7 : decode cX2_find 7 = .ok (.invokevirtual 25, 3) := by decide +kernel
theorem dX2_find_10 : decode cX2_find 10 = .ok (.aload_n 0, 1) := by decide +kernel
theorem dX2_find_11 : decode cX2_find 11 = .ok (.iconst (-1), 1) := by decide +kernel
theorem dX2_find_12 : decode cX2_find 12 = .ok (.putfield 28, 3) := by decide +kernel
theorem dX2_find_15 : decode cX2_find 15 = .ok (.iconst 1, 1) := by decide +kernel
theorem dX2_find_16 : decode cX2_find 16 = .ok (.istore_n 2, 1) := by decide +kernel
theorem dX2_find_17 : decode cX2_find 17 = .ok (.iconst 0, 1) := by decide +kernel
theorem dX2_find_18 : decode cX2_find 18 = .ok (.istore_n 3, 1) := by decide +kernel
theorem dX2_find_19 : decode cX2_find 19 = .ok (.iload_n 3, 1) := by decide +kernel
theorem dX2_find_20 : decode cX2_find 20 = .ok (.sipush 720, 3) := by decide +kernel
theorem dX2_find_23 : decode cX2_find 23 = .ok (.if_icmp .ge 75, 3) := by decide +kernel
theorem dX2_find_26 : decode cX2_find 26 = .ok (.iload_n 2, 1) := by decide +kernel
theorem dX2_find_27 : decode cX2_find 27 = .ok (.ifCond .eq 71, 3) := by decide +kernel
theorem dX2_find_30 : decode cX2_find 30 = .ok (.aload_n 0, 1) := by decide +kernel
theorem dX2_find_31 : decode cX2_find 31 = .ok (.invokevirtual 32, 3) := by decide +kernel
theorem dX2_find_34 : decode cX2_find 34 = .ok (.istore 4, 2) := by decide +kernel
theorem dX2_find_36 : decode cX2_find 36 = .ok (.iload 4, 2) := by decide +kernel
theorem dX2_find_38 : decode cX2_find 38 = .ok (.aload_n 0, 1) := by decide +kernel
theorem dX2_find_39 : decode cX2_find 39 = .ok (.getfield 28, 3) := by decide +kernel
theorem dX2_find_42 : decode cX2_find 42 = .ok (.if_icmp .le 26, 3) := by decide +kernel
theorem dX2_find_45 : decode cX2_find 45 = .ok (.aload_n 0, 1) := by decide +kernel
theorem dX2_find_46 : decode cX2_find 46 = .ok (.iload 4, 2) := by decide +kernel
theorem dX2_find_48 : decode cX2_find 48 = .ok (.putfield 28, 3) := by decide +kernel
theorem dX2_find_51 : decode cX2_find 51 = .ok (.aload_n 0, 1) := by decide +kernel
theorem dX2_find_52 : decode cX2_find 52 = .ok (.getfield 9, 3) := by decide +kernel
theorem dX2_find_55 : decode cX2_find 55 = .ok (.iconst 0, 1) := by decide +kernel
theorem dX2_find_56 : decode cX2_find 56 = .ok (.aload_n 0, 1) := by decide +kernel
theorem dX2_find_57 : decode cX2_find 57 = .ok (.getfield 15, 3) := by decide +kernel
theorem dX2_find_60 : decode cX2_find 60 = .ok (.iconst 0, 1) := by decide +kernel
theorem dX2_find_61 : decode cX2_find 61 = .ok (.aload_n 0, 1) := by decide +kernel
theorem dX2_find_62 : decode cX2_find 62 = .ok (.getfield 36, 3) := by decide +kernel
theorem dX2_find_65 : decode cX2_find 65 = .ok (.invokestatic 39, 3) := by decide +kernel
theorem dX2_find_68 : decode cX2_find 68 = .ok (.aload_n 0, 1) := by decide +kernel
theorem dX2_find_69 : decode cX2_find 69 = .ok (.getfield 28, 3) := by decide +kernel
theorem dX2_find_72 : decode cX2_find 72 = .ok (.aload_n 0, 1) := by decide +kernel
theorem dX2_find_73 : decode cX2_find 73 = .ok (.getfield 45, 3) := by decide +kernel
theorem dX2_find_76 : decode cX2_find 76 = .ok (.if_icmp .ge 14, 3) := by decide +kernel
theorem dX2_find_79 : decode cX2_find 79 = .ok (.aload_n 0, 1) := by decide +kernel
theorem dX2_find_80 : decode cX2_find 80 = .ok (.invokevirtual 48, 3) := by decide +kernel
theorem dX2_find_83 : decode cX2_find 83 = .ok (.ifCond .eq 7, 3) := by decide +kernel
theorem dX2_find_86 : decode cX2_find 86 = .ok (.iconst 1, 1) := by decide +kernel
theorem dX2_find_87 : decode cX2_find 87 = .ok (.goto 4, 3) := by decide +kernel
theorem dX2_find_90 : decode cX2_find 90 = .ok (.iconst 0, 1) := by decide +kernel
theorem dX2_find_91 : decode cX2_find 91 = .ok (.istore_n 2, 1) := by decide +kernel
theorem dX2_find_92 : decode cX2_find 92 = .ok (.iinc 3 1, 3) := by decide +kernel
theorem dX2_find_95 : decode cX2_find 95 = .ok (.goto (-76), 3) := by decide +kernel
theorem dX2_find_98 : decode cX2_find 98 = .ok (.aload_n 0, 1) := by decide +kernel
theorem dX2_find_99 : decode cX2_find 99 = .ok (.dup, 1) := by decide +kernel
theorem dX2_find_100 : decode cX2_find 100 = .ok (.getfield 28, 3) := by decide +kernel
theorem dX2_find_103 : decode cX2_find 103 = .ok (.aload_n 1, 1) := by decide +kernel
theorem dX2_find_104 : decode cX2_find 104 = .ok (.invokevirtual 52, 3) := by decide +kernel
theorem dX2_find_107 : decode cX2_find 107 = .ok (.iadd, 1) := by decide +kernel
theorem dX2_find_108 : decode cX2_find 108 = .ok (.putfield 28, 3) := by decide +kernel
theorem dX2_find_111 : decode cX2_find 111 = .ok (.return_, 1) := by decide +kernel
theorem dX2_listFree_0 : decode cX2_listFree 0 = .ok (.aload_n 0, 1) := by decide +kernel
theorem dX2_listFree_1 : decode cX2_listFree 1 = .ok (.iconst 0, 1) := by decide +kernel
theorem dX2_listFree_2 : decode cX2_listFree 2 = .ok (.putfield 36, 3) := by decide +kernel
theorem dX2_listFree_5 : decode cX2_listFree 5 = .ok (.iconst 0, 1) := by decide +kernel
theorem dX2_listFree_6 : decode cX2_listFree 6 = .ok (.istore_n 2, 1) := by decide +kernel
theorem dX2_listFree_7 : decode cX2_listFree 7 = .ok (.iload_n 2, 1) := by decide +kernel
theorem dX2_listFree_8 : decode cX2_listFree 8 = .ok (.aload_n 1, 1) := by decide +kernel
theorem dX2_listFree_9 : decode cX2_listFree 9 = .ok (.getfield 57, 3) := by decide +kernel
theorem dX2_listFree_12 : decode cX2_listFree 12 = .ok (.if_icmp .ge 38, 3) := by decide +kernel
theorem dX2_listFree_15 : decode cX2_listFree 15 = .ok (.aload_n 1, 1) := by decide +kernel
theorem dX2_listFree_16 : decode cX2_listFree 16 = .ok (.iload_n 2, 1) := by decide +kernel
theorem dX2_listFree_17 : decode cX2_listFree 17 = .ok (.invokevirtual 60, 3) := by decide +kernel
theorem dX2_listFree_20 : decode cX2_listFree 20 = .ok (.iconst (-1), 1) := by decide +kernel
theorem dX2_listFree_21 : decode cX2_listFree 21 = .ok (.if_icmp .ne 23, 3) := by decide +kernel
theorem dX2_listFree_24 : decode cX2_listFree 24 = .ok (.aload_n 0, 1) := by decide +kernel
theorem dX2_listFree_25 : decode cX2_listFree 25 = .ok (.getfield 9, 3) := by decide +kernel
theorem dX2_listFree_28 : decode cX2_listFree 28 = .ok (.aload_n 0, 1) := by decide +kernel
theorem dX2_listFree_29 : decode cX2_listFree 29 = .ok (.getfield 36, 3) := by decide +kernel
theorem dX2_listFree_32 : decode cX2_listFree 32 = .ok (.iload_n 2, 1) := by decide +kernel
theorem dX2_listFree_33 : decode cX2_listFree 33 = .ok (.iastore, 1) := by decide +kernel
theorem dX2_listFree_34 : decode cX2_listFree 34 = .ok (.aload_n 0, 1) := by decide +kernel
theorem dX2_listFree_35 : decode cX2_listFree 35 = .ok (.dup, 1) := by decide +kernel
theorem dX2_listFree_36 : decode cX2_listFree 36 = .ok (.getfield 36, 3) := by decide +kernel
theorem dX2_listFree_39 : decode cX2_listFree 39 = .ok (.iconst 1, 1) := by decide +kernel
theorem dX2_listFree_40 : decode cX2_listFree 40 = .ok (.iadd, 1) := by decide +kernel
theorem dX2_listFree_41 : decode cX2_listFree 41 = .ok (.putfield 36, 3) := by decide +kernel
theorem dX2_listFree_44 : decode cX2_listFree 44 = .ok (.iinc 2 1, 3) := by decide +kernel
theorem dX2_listFree_47 : decode cX2_listFree 47 = .ok (.goto (-40), 3) := by decide +kernel
theorem dX2_listFree_50 : decode cX2_listFree 50 = .ok (.return_, 1) := by decide +kernel
theorem dX2_measure_0 : decode cX2_measure 0 = .ok (.aload_n 0, 1) := by decide +kernel
theorem dX2_measure_1 : decode cX2_measure 1 = .ok (.iconst 0, 1) := by decide +kernel
theorem dX2_measure_2 : decode cX2_measure 2 = .ok (.putfield 64, 3) := by decide +kernel
theorem dX2_measure_5 : decode cX2_measure 5 = .ok (.iconst 0, 1) := by decide +kernel
theorem dX2_measure_6 : decode cX2_measure 6 = .ok (.istore_n 2, 1) := by decide +kernel
theorem dX2_measure_7 : decode cX2_measure 7 = .ok (.iload_n 2, 1) := by decide +kernel
theorem dX2_measure_8 : decode cX2_measure 8 = .ok (.aload_n 1, 1) := by decide +kernel
theorem dX2_measure_9 : decode cX2_measure 9 = .ok (.getfield 67, 3) := by decide +kernel
theorem dX2_measure_12 : decode cX2_measure 12 = .ok (.if_icmp .ge 29, 3) := by decide +kernel
theorem dX2_measure_15 : decode cX2_measure 15 = .ok (.aload_n 1, 1) := by decide +kernel
theorem dX2_measure_16 : decode cX2_measure 16 = .ok (.iload_n 2, 1) := by decide +kernel
theorem dX2_measure_17 : decode cX2_measure 17 = .ok (.invokevirtual 70, 3) := by decide +kernel
theorem dX2_measure_20 : decode cX2_measure 20 = .ok (.ifCond .eq 15, 3) := by decide +kernel
theorem dX2_measure_23 : decode cX2_measure 23 = .ok (.aload_n 0, 1) := by decide +kernel
theorem dX2_measure_24 : decode cX2_measure 24 = .ok (.dup, 1) := by decide +kernel
theorem dX2_measure_25 : decode cX2_measure 25 = .ok (.getfield 64, 3) := by decide +kernel
theorem dX2_measure_28 : decode cX2_measure 28 = .ok (.iconst 1, 1) := by decide +kernel
theorem dX2_measure_29 : decode cX2_measure 29 = .ok (.iload_n 2, 1) := by decide +kernel
theorem dX2_measure_30 : decode cX2_measure 30 = .ok (.ishl, 1) := by decide +kernel
theorem dX2_measure_31 : decode cX2_measure 31 = .ok (.ior, 1) := by decide +kernel
theorem dX2_measure_32 : decode cX2_measure 32 = .ok (.putfield 64, 3) := by decide +kernel
theorem dX2_measure_35 : decode cX2_measure 35 = .ok (.iinc 2 1, 3) := by decide +kernel
theorem dX2_measure_38 : decode cX2_measure 38 = .ok (.goto (-31), 3) := by decide +kernel
theorem dX2_measure_41 : decode cX2_measure 41 = .ok (.aload_n 0, 1) := by decide +kernel
theorem dX2_measure_42 : decode cX2_measure 42 = .ok (.iconst 0, 1) := by decide +kernel
theorem dX2_measure_43 : decode cX2_measure 43 = .ok (.putfield 45, 3) := by decide +kernel
theorem dX2_measure_46 : decode cX2_measure 46 = .ok (.iconst 0, 1) := by decide +kernel
theorem dX2_measure_47 : decode cX2_measure 47 = .ok (.istore_n 2, 1) := by decide +kernel
theorem dX2_measure_48 : decode cX2_measure 48 = .ok (.iload_n 2, 1) := by decide +kernel
theorem dX2_measure_49 : decode cX2_measure 49 = .ok (.aload_n 0, 1) := by decide +kernel
theorem dX2_measure_50 : decode cX2_measure 50 = .ok (.getfield 36, 3) := by decide +kernel
theorem dX2_measure_53 : decode cX2_measure 53 = .ok (.if_icmp .ge 39, 3) := by decide +kernel
theorem dX2_measure_56 : decode cX2_measure 56 = .ok (.aload_n 0, 1) := by decide +kernel
theorem dX2_measure_57 : decode cX2_measure 57 = .ok (.dup, 1) := by decide +kernel
theorem dX2_measure_58 : decode cX2_measure 58 = .ok (.getfield 45, 3) := by decide +kernel
theorem dX2_measure_61 : decode cX2_measure 61 = .ok (.aload_n 0, 1) := by decide +kernel
theorem dX2_measure_62 : decode cX2_measure 62 = .ok (.getfield 64, 3) := by decide +kernel
theorem dX2_measure_65 : decode cX2_measure 65 = .ok (.aload_n 0, 1) := by decide +kernel
theorem dX2_measure_66 : decode cX2_measure 66 = .ok (.getfield 9, 3) := by decide +kernel
theorem dX2_measure_69 : decode cX2_measure 69 = .ok (.iload_n 2, 1) := by decide +kernel
theorem dX2_measure_70 : decode cX2_measure 70 = .ok (.iaload, 1) := by decide +kernel
theorem dX2_measure_71 : decode cX2_measure 71 = .ok (.invokestatic 74, 3) := by decide +kernel
theorem dX2_measure_74 : decode cX2_measure 74 = .ok (.ifCond .eq 7, 3) := by decide +kernel
theorem dX2_measure_77 : decode cX2_measure 77 = .ok (.iconst 1, 1) := by decide +kernel
theorem dX2_measure_78 : decode cX2_measure 78 = .ok (.goto 4, 3) := by decide +kernel
theorem dX2_measure_81 : decode cX2_measure 81 = .ok (.iconst 0, 1) := by decide +kernel
theorem dX2_measure_82 : decode cX2_measure 82 = .ok (.iadd, 1) := by decide +kernel
theorem dX2_measure_83 : decode cX2_measure 83 = .ok (.putfield 45, 3) := by decide +kernel
theorem dX2_measure_86 : decode cX2_measure 86 = .ok (.iinc 2 1, 3) := by decide +kernel
theorem dX2_measure_89 : decode cX2_measure 89 = .ok (.goto (-41), 3) := by decide +kernel
theorem dX2_measure_92 : decode cX2_measure 92 = .ok (.iconst 0, 1) := by decide +kernel
theorem dX2_measure_93 : decode cX2_measure 93 = .ok (.istore_n 2, 1) := by decide +kernel
theorem dX2_measure_94 : decode cX2_measure 94 = .ok (.iload_n 2, 1) := by decide +kernel
theorem dX2_measure_95 : decode cX2_measure 95 = .ok (.aload_n 1, 1) := by decide +kernel
theorem dX2_measure_96 : decode cX2_measure 96 = .ok (.getfield 67, 3) := by decide +kernel
theorem dX2_measure_99 : decode cX2_measure 99 = .ok (.if_icmp .ge 42, 3) := by decide +kernel
theorem dX2_measure_102 : decode cX2_measure 102 = .ok (.iconst 0, 1) := by decide +kernel
theorem dX2_measure_103 : decode cX2_measure 103 = .ok (.istore_n 3, 1) := by decide +kernel
theorem dX2_measure_104 : decode cX2_measure 104 = .ok (.iload_n 3, 1) := by decide +kernel
theorem dX2_measure_105 : decode cX2_measure 105 = .ok (.aload_n 1, 1) := by decide +kernel
theorem dX2_measure_106 : decode cX2_measure 106 = .ok (.getfield 57, 3) := by decide +kernel
theorem dX2_measure_109 : decode cX2_measure 109 = .ok (.if_icmp .ge 26, 3) := by decide +kernel
theorem dX2_measure_112 : decode cX2_measure 112 = .ok (.aload_n 0, 1) := by decide +kernel
theorem dX2_measure_113 : decode cX2_measure 113 = .ok (.getfield 18, 3) := by decide +kernel
theorem dX2_measure_116 : decode cX2_measure 116 = .ok (.iload_n 3, 1) := by decide +kernel
theorem dX2_measure_117 : decode cX2_measure 117 = .ok (.bipush 6, 2) := by decide +kernel
theorem dX2_measure_119 : decode cX2_measure 119 = .ok (.imul, 1) := by decide +kernel
theorem dX2_measure_120 : decode cX2_measure 120 = .ok (.iload_n 2, 1) := by decide +kernel
theorem dX2_measure_121 : decode cX2_measure 121 = .ok (.iadd, 1) := by decide +kernel
theorem dX2_measure_122 : decode cX2_measure 122 = .ok (.aload_n 1, 1) := by decide +kernel
theorem dX2_measure_123 : decode cX2_measure 123 = .ok (.iload_n 2, 1) := by decide +kernel
theorem dX2_measure_124 : decode cX2_measure 124 = .ok (.iload_n 3, 1) := by decide +kernel
theorem dX2_measure_125 : decode cX2_measure 125 = .ok (.invokevirtual 78, 3) := by decide +kernel
theorem dX2_measure_128 : decode cX2_measure 128 = .ok (.iastore, 1) := by decide +kernel
theorem dX2_measure_129 : decode cX2_measure 129 = .ok (.iinc 3 1, 3) := by decide +kernel
theorem dX2_measure_132 : decode cX2_measure 132 = .ok (.goto (-28), 3) := by decide +kernel
theorem dX2_measure_135 : decode cX2_measure 135 = .ok (.iinc 2 1, 3) := by decide +kernel
theorem dX2_measure_138 : decode cX2_measure 138 = .ok (.goto (-44), 3) := by decide +kernel
theorem dX2_measure_141 : decode cX2_measure 141 = .ok (.return_, 1) := by decide +kernel
theorem dX2_ownBehindRow_0 : decode cX2_ownBehindRow 0 = .ok (.aload_n 0, 1) := by decide +kernel
theorem dX2_ownBehindRow_1 : decode cX2_ownBehindRow 1 = .ok (.getfield 64, 3) := by decide +kernel
theorem dX2_ownBehindRow_4 : decode cX2_ownBehindRow 4 = .ok (.istore_n 1, 1) := by decide +kernel
theorem dX2_ownBehindRow_5 : decode cX2_ownBehindRow 5 = .ok (.iconst 0, 1) := by decide +kernel
theorem dX2_ownBehindRow_6 : decode cX2_ownBehindRow 6 = .ok (.istore_n 2, 1) := by decide +kernel
theorem dX2_ownBehindRow_7 : decode cX2_ownBehindRow 7 = .ok (.iconst 0, 1) := by decide +kernel
theorem dX2_ownBehindRow_8 : decode cX2_ownBehindRow 8 = .ok (.istore_n 3, 1) := by decide +kernel
theorem dX2_ownBehindRow_9 : decode cX2_ownBehindRow 9 = .ok (.iload_n 3, 1) := by decide +kernel
theorem dX2_ownBehindRow_10 : decode cX2_ownBehindRow 10 = .ok (.aload_n 0, 1) := by decide +kernel
theorem dX2_ownBehindRow_11 : decode cX2_ownBehindRow 11 = .ok (.getfield 36, 3) := by decide +kernel
theorem dX2_ownBehindRow_14 : decode cX2_ownBehindRow 14 = .ok (.if_icmp .ge 54, 3) := by decide +kernel
theorem dX2_ownBehindRow_17 : decode cX2_ownBehindRow 17 = .ok (.iload_n 1, 1) := by decide +kernel
theorem dX2_ownBehindRow_18 : decode cX2_ownBehindRow 18 = .ok (.ifCond .eq 50, 3) := by decide +kernel
theorem dX2_ownBehindRow_21 : decode cX2_ownBehindRow 21 = .ok (.aload_n 0, 1) := by decide +kernel
theorem dX2_ownBehindRow_22 : decode cX2_ownBehindRow 22 = .ok (.aload_n 0, 1) := by decide +kernel
theorem dX2_ownBehindRow_23 : decode cX2_ownBehindRow 23 = .ok (.getfield 9, 3) := by decide +kernel
theorem dX2_ownBehindRow_26 : decode cX2_ownBehindRow 26 = .ok (.iload_n 3, 1) := by decide +kernel
theorem dX2_ownBehindRow_27 : decode cX2_ownBehindRow 27 = .ok (.iaload, 1) := by decide +kernel
theorem dX2_ownBehindRow_28 : decode cX2_ownBehindRow 28 = .ok (.iload_n 1, 1) := by decide +kernel
theorem dX2_ownBehindRow_29 : decode cX2_ownBehindRow 29 = .ok (.invokevirtual 82, 3) := by decide +kernel
theorem dX2_ownBehindRow_32 : decode cX2_ownBehindRow 32 = .ok (.istore 4, 2) := by decide +kernel
theorem dX2_ownBehindRow_34 : decode cX2_ownBehindRow 34 = .ok (.iload_n 1, 1) := by decide +kernel
theorem dX2_ownBehindRow_35 : decode cX2_ownBehindRow 35 = .ok (.iconst 1, 1) := by decide +kernel
theorem dX2_ownBehindRow_36 : decode cX2_ownBehindRow 36 = .ok (.iload 4, 2) := by decide +kernel
theorem dX2_ownBehindRow_38 : decode cX2_ownBehindRow 38 = .ok (.ishl, 1) := by decide +kernel
theorem dX2_ownBehindRow_39 : decode cX2_ownBehindRow 39 = .ok (.iconst (-1), 1) := by decide +kernel
theorem dX2_ownBehindRow_40 : decode cX2_ownBehindRow 40 = .ok (.ixor, 1) := by decide +kernel
theorem dX2_ownBehindRow_41 : decode cX2_ownBehindRow 41 = .ok (.iand, 1) := by decide +kernel
theorem dX2_ownBehindRow_42 : decode cX2_ownBehindRow 42 = .ok (.istore_n 1, 1) := by decide +kernel
theorem dX2_ownBehindRow_43 : decode cX2_ownBehindRow 43 = .ok (.iload_n 2, 1) := by decide +kernel
theorem dX2_ownBehindRow_44 : decode cX2_ownBehindRow 44 = .ok (.iload 4, 2) := by decide +kernel
theorem dX2_ownBehindRow_46 : decode cX2_ownBehindRow 46 = .ok (.aload_n 0, 1) := by decide +kernel
theorem dX2_ownBehindRow_47 : decode cX2_ownBehindRow 47 = .ok (.getfield 9, 3) := by decide +kernel
theorem dX2_ownBehindRow_50 : decode cX2_ownBehindRow 50 = .ok (.iload_n 3, 1) := by decide +kernel
theorem dX2_ownBehindRow_51 : decode cX2_ownBehindRow 51 = .ok (.iaload, 1) := by decide +kernel
theorem dX2_ownBehindRow_52 : decode cX2_ownBehindRow 52 = .ok (.if_icmp .ne 7, 3) := by decide +kernel
theorem dX2_ownBehindRow_55 : decode cX2_ownBehindRow 55 = .ok (.iconst 1, 1) := by decide +kernel
theorem dX2_ownBehindRow_56 : decode cX2_ownBehindRow 56 = .ok (.goto 4, 3) := by decide +kernel
theorem dX2_ownBehindRow_59 : decode cX2_ownBehindRow 59 = .ok (.iconst 0, 1) := by decide +kernel
theorem dX2_ownBehindRow_60 : decode cX2_ownBehindRow 60 = .ok (.iadd, 1) := by decide +kernel
theorem dX2_ownBehindRow_61 : decode cX2_ownBehindRow 61 = .ok (.istore_n 2, 1) := by decide +kernel
theorem dX2_ownBehindRow_62 : decode cX2_ownBehindRow 62 = .ok (.iinc 3 1, 3) := by decide +kernel
theorem dX2_ownBehindRow_65 : decode cX2_ownBehindRow 65 = .ok (.goto (-56), 3) := by decide +kernel
theorem dX2_ownBehindRow_68 : decode cX2_ownBehindRow 68 = .ok (.iload_n 2, 1) := by decide +kernel
theorem dX2_ownBehindRow_69 : decode cX2_ownBehindRow 69 = .ok (.ireturn, 1) := by decide +kernel
theorem dX2_nearest_0 : decode cX2_nearest 0 = .ok (.iconst (-1), 1) := by decide +kernel
theorem dX2_nearest_1 : decode cX2_nearest 1 = .ok (.istore_n 3, 1) := by decide +kernel
theorem dX2_nearest_2 : decode cX2_nearest 2 = .ok (.iconst 0, 1) := by decide +kernel
theorem dX2_nearest_3 : decode cX2_nearest 3 = .ok (.istore 4, 2) := by decide +kernel
theorem dX2_nearest_5 : decode cX2_nearest 5 = .ok (.iconst 0, 1) := by decide +kernel
theorem dX2_nearest_6 : decode cX2_nearest 6 = .ok (.istore 5, 2) := by decide +kernel
theorem dX2_nearest_8 : decode cX2_nearest 8 = .ok (.iload 5, 2) := by decide +kernel
theorem dX2_nearest_10 : decode cX2_nearest 10 = .ok (.bipush 6, 2) := by decide +kernel
theorem dX2_nearest_12 : decode cX2_nearest 12 = .ok (.if_icmp .ge 57, 3) := by decide +kernel
theorem dX2_nearest_15 : decode cX2_nearest 15 = .ok (.iload_n 2, 1) := by decide +kernel
theorem dX2_nearest_16 : decode cX2_nearest 16 = .ok (.iload 5, 2) := by decide +kernel
theorem dX2_nearest_18 : decode cX2_nearest 18 = .ok (.invokestatic 74, 3) := by decide +kernel
theorem dX2_nearest_21 : decode cX2_nearest 21 = .ok (.ifCond .eq 42, 3) := by decide +kernel
theorem dX2_nearest_24 : decode cX2_nearest 24 = .ok (.iload_n 3, 1) := by decide +kernel
theorem dX2_nearest_25 : decode cX2_nearest 25 = .ok (.iconst (-1), 1) := by decide +kernel
theorem dX2_nearest_26 : decode cX2_nearest 26 = .ok (.if_icmp .eq 20, 3) := by decide +kernel
theorem dX2_nearest_29 : decode cX2_nearest 29 = .ok (.aload_n 0, 1) := by decide +kernel
theorem dX2_nearest_30 : decode cX2_nearest 30 = .ok (.getfield 18, 3) := by decide +kernel
theorem dX2_nearest_33 : decode cX2_nearest 33 = .ok (.iload_n 1, 1) := by decide +kernel
theorem dX2_nearest_34 : decode cX2_nearest 34 = .ok (.bipush 6, 2) := by decide +kernel
theorem dX2_nearest_36 : decode cX2_nearest 36 = .ok (.imul, 1) := by decide +kernel
theorem dX2_nearest_37 : decode cX2_nearest 37 = .ok (.iload 5, 2) := by decide +kernel
theorem dX2_nearest_39 : decode cX2_nearest 39 = .ok (.iadd, 1) := by decide +kernel
theorem dX2_nearest_40 : decode cX2_nearest 40 = .ok (.iaload, 1) := by decide +kernel
theorem dX2_nearest_41 : decode cX2_nearest 41 = .ok (.iload 4, 2) := by decide +kernel
theorem dX2_nearest_43 : decode cX2_nearest 43 = .ok (.if_icmp .ge 20, 3) := by decide +kernel
theorem dX2_nearest_46 : decode cX2_nearest 46 = .ok (.aload_n 0, 1) := by decide +kernel
theorem dX2_nearest_47 : decode cX2_nearest 47 = .ok (.getfield 18, 3) := by decide +kernel
theorem dX2_nearest_50 : decode cX2_nearest 50 = .ok (.iload_n 1, 1) := by decide +kernel
theorem dX2_nearest_51 : decode cX2_nearest 51 = .ok (.bipush 6, 2) := by decide +kernel
theorem dX2_nearest_53 : decode cX2_nearest 53 = .ok (.imul, 1) := by decide +kernel
theorem dX2_nearest_54 : decode cX2_nearest 54 = .ok (.iload 5, 2) := by decide +kernel
theorem dX2_nearest_56 : decode cX2_nearest 56 = .ok (.iadd, 1) := by decide +kernel
theorem dX2_nearest_57 : decode cX2_nearest 57 = .ok (.iaload, 1) := by decide +kernel
theorem dX2_nearest_58 : decode cX2_nearest 58 = .ok (.istore 4, 2) := by decide +kernel
theorem dX2_nearest_60 : decode cX2_nearest 60 = .ok (.iload 5, 2) := by decide +kernel
theorem dX2_nearest_62 : decode cX2_nearest 62 = .ok (.istore_n 3, 1) := by decide +kernel
theorem dX2_nearest_63 : decode cX2_nearest 63 = .ok (.iinc 5 1, 3) := by decide +kernel
theorem dX2_nearest_66 : decode cX2_nearest 66 = .ok (.goto (-58), 3) := by decide +kernel
theorem dX2_nearest_69 : decode cX2_nearest 69 = .ok (.iload_n 3, 1) := by decide +kernel
theorem dX2_nearest_70 : decode cX2_nearest 70 = .ok (.ireturn, 1) := by decide +kernel
theorem dX2_nextRow_0 : decode cX2_nextRow 0 = .ok (.aload_n 0, 1) := by decide +kernel
theorem dX2_nextRow_1 : decode cX2_nextRow 1 = .ok (.getfield 36, 3) := by decide +kernel
theorem dX2_nextRow_4 : decode cX2_nextRow 4 = .ok (.iconst 2, 1) := by decide +kernel
theorem dX2_nextRow_5 : decode cX2_nextRow 5 = .ok (.isub, 1) := by decide +kernel
theorem dX2_nextRow_6 : decode cX2_nextRow 6 = .ok (.istore_n 1, 1) := by decide +kernel
theorem dX2_nextRow_7 : decode cX2_nextRow 7 = .ok (.iload_n 1, 1) := by decide +kernel
theorem dX2_nextRow_8 : decode cX2_nextRow 8 = .ok (.ifCond .lt 26, 3) := by decide +kernel
theorem dX2_nextRow_11 : decode cX2_nextRow 11 = .ok (.aload_n 0, 1) := by decide +kernel
theorem dX2_nextRow_12 : decode cX2_nextRow 12 = .ok (.getfield 9, 3) := by decide +kernel
theorem dX2_nextRow_15 : decode cX2_nextRow 15 = .ok (.iload_n 1, 1) := by decide +kernel
theorem dX2_nextRow_16 : decode cX2_nextRow 16 = .ok (.iaload, 1) := by decide +kernel
theorem dX2_nextRow_17 : decode cX2_nextRow 17 = .ok (.aload_n 0, 1) := by decide +kernel
theorem dX2_nextRow_18 : decode cX2_nextRow 18 = .ok (.getfield 9, 3) := by decide +kernel
theorem dX2_nextRow_21 : decode cX2_nextRow 21 = .ok (.iload_n 1, 1) := by decide +kernel
theorem dX2_nextRow_22 : decode cX2_nextRow 22 = .ok (.iconst 1, 1) := by decide +kernel
theorem dX2_nextRow_23 : decode cX2_nextRow 23 = .ok (.iadd, 1) := by decide +kernel
theorem dX2_nextRow_24 : decode cX2_nextRow 24 = .ok (.iaload, 1) := by decide +kernel
theorem dX2_nextRow_25 : decode cX2_nextRow 25 = .ok (.if_icmp .le 9, 3) := by decide +kernel
theorem dX2_nextRow_28 : decode cX2_nextRow 28 = .ok (.iinc 1 (-1), 3) := by decide +kernel
theorem dX2_nextRow_31 : decode cX2_nextRow 31 = .ok (.goto (-24), 3) := by decide +kernel
theorem dX2_nextRow_34 : decode cX2_nextRow 34 = .ok (.iload_n 1, 1) := by decide +kernel
theorem dX2_nextRow_35 : decode cX2_nextRow 35 = .ok (.ifCond .ge 5, 3) := by decide +kernel
theorem dX2_nextRow_38 : decode cX2_nextRow 38 = .ok (.iconst 0, 1) := by decide +kernel
theorem dX2_nextRow_39 : decode cX2_nextRow 39 = .ok (.ireturn, 1) := by decide +kernel
theorem dX2_nextRow_40 : decode cX2_nextRow 40 = .ok (.aload_n 0, 1) := by decide +kernel
theorem dX2_nextRow_41 : decode cX2_nextRow 41 = .ok (.getfield 36, 3) := by decide +kernel
theorem dX2_nextRow_44 : decode cX2_nextRow 44 = .ok (.iconst 1, 1) := by decide +kernel
theorem dX2_nextRow_45 : decode cX2_nextRow 45 = .ok (.isub, 1) := by decide +kernel
theorem dX2_nextRow_46 : decode cX2_nextRow 46 = .ok (.istore_n 2, 1) := by decide +kernel
theorem dX2_nextRow_47 : decode cX2_nextRow 47 = .ok (.iload_n 2, 1) := by decide +kernel
theorem dX2_nextRow_48 : decode cX2_nextRow 48 = .ok (.iload_n 1, 1) := by decide +kernel
theorem dX2_nextRow_49 : decode cX2_nextRow 49 = .ok (.if_icmp .le 24, 3) := by decide +kernel
theorem dX2_nextRow_52 : decode cX2_nextRow 52 = .ok (.aload_n 0, 1) := by decide +kernel
theorem dX2_nextRow_53 : decode cX2_nextRow 53 = .ok (.getfield 9, 3) := by decide +kernel
theorem dX2_nextRow_56 : decode cX2_nextRow 56 = .ok (.iload_n 2, 1) := by decide +kernel
theorem dX2_nextRow_57 : decode cX2_nextRow 57 = .ok (.iaload, 1) := by decide +kernel
theorem dX2_nextRow_58 : decode cX2_nextRow 58 = .ok (.aload_n 0, 1) := by decide +kernel
theorem dX2_nextRow_59 : decode cX2_nextRow 59 = .ok (.getfield 9, 3) := by decide +kernel
theorem dX2_nextRow_62 : decode cX2_nextRow 62 = .ok (.iload_n 1, 1) := by decide +kernel
theorem dX2_nextRow_63 : decode cX2_nextRow 63 = .ok (.iaload, 1) := by decide +kernel
theorem dX2_nextRow_64 : decode cX2_nextRow 64 = .ok (.if_icmp .ge 9, 3) := by decide +kernel
theorem dX2_nextRow_67 : decode cX2_nextRow 67 = .ok (.iinc 2 (-1), 3) := by decide +kernel
theorem dX2_nextRow_70 : decode cX2_nextRow 70 = .ok (.goto (-23), 3) := by decide +kernel
theorem dX2_nextRow_73 : decode cX2_nextRow 73 = .ok (.aload_n 0, 1) := by decide +kernel
theorem dX2_nextRow_74 : decode cX2_nextRow 74 = .ok (.iload_n 1, 1) := by decide +kernel
theorem dX2_nextRow_75 : decode cX2_nextRow 75 = .ok (.iload_n 2, 1) := by decide +kernel
theorem dX2_nextRow_76 : decode cX2_nextRow 76 = .ok (.invokevirtual 85, 3) := by decide +kernel
theorem dX2_nextRow_79 : decode cX2_nextRow 79 = .ok (.iload_n 1, 1) := by decide +kernel
theorem dX2_nextRow_80 : decode cX2_nextRow 80 = .ok (.iconst 1, 1) := by decide +kernel
theorem dX2_nextRow_81 : decode cX2_nextRow 81 = .ok (.iadd, 1) := by decide +kernel
theorem dX2_nextRow_82 : decode cX2_nextRow 82 = .ok (.istore_n 3, 1) := by decide +kernel
theorem dX2_nextRow_83 : decode cX2_nextRow 83 = .ok (.aload_n 0, 1) := by decide +kernel
theorem dX2_nextRow_84 : decode cX2_nextRow 84 = .ok (.getfield 36, 3) := by decide +kernel
theorem dX2_nextRow_87 : decode cX2_nextRow 87 = .ok (.iconst 1, 1) := by decide +kernel
theorem dX2_nextRow_88 : decode cX2_nextRow 88 = .ok (.isub, 1) := by decide +kernel
theorem dX2_nextRow_89 : decode cX2_nextRow 89 = .ok (.istore 4, 2) := by decide +kernel
theorem dX2_nextRow_91 : decode cX2_nextRow 91 = .ok (.iload_n 3, 1) := by decide +kernel
theorem dX2_nextRow_92 : decode cX2_nextRow 92 = .ok (.iload 4, 2) := by decide +kernel
theorem dX2_nextRow_94 : decode cX2_nextRow 94 = .ok (.if_icmp .ge 19, 3) := by decide +kernel
theorem dX2_nextRow_97 : decode cX2_nextRow 97 = .ok (.aload_n 0, 1) := by decide +kernel
theorem dX2_nextRow_98 : decode cX2_nextRow 98 = .ok (.iload_n 3, 1) := by decide +kernel
theorem dX2_nextRow_99 : decode cX2_nextRow 99 = .ok (.iload 4, 2) := by decide +kernel
theorem dX2_nextRow_101 : decode cX2_nextRow 101 = .ok (.invokevirtual 85, 3) := by decide +kernel
theorem dX2_nextRow_104 : decode cX2_nextRow 104 = .ok (.iinc 3 1, 3) := by decide +kernel
theorem dX2_nextRow_107 : decode cX2_nextRow 107 = .ok (.iinc 4 (-1), 3) := by decide +kernel
theorem dX2_nextRow_110 : decode cX2_nextRow 110 = .ok (.goto (-19), 3) := by decide +kernel
theorem dX2_nextRow_113 : decode cX2_nextRow 113 = .ok (.iconst 1, 1) := by decide +kernel
theorem dX2_nextRow_114 : decode cX2_nextRow 114 = .ok (.ireturn, 1) := by decide +kernel
theorem dX2_exchange_0 : decode cX2_exchange 0 = .ok (.aload_n 0, 1) := by decide +kernel
theorem dX2_exchange_1 : decode cX2_exchange 1 = .ok (.getfield 9, 3) := by decide +kernel
theorem dX2_exchange_4 : decode cX2_exchange 4 = .ok (.iload_n 1, 1) := by decide +kernel
theorem dX2_exchange_5 : decode cX2_exchange 5 = .ok (.iaload, 1) := by decide +kernel
theorem dX2_exchange_6 : decode cX2_exchange 6 = .ok (.istore_n 3, 1) := by decide +kernel
theorem dX2_exchange_7 : decode cX2_exchange 7 = .ok (.aload_n 0, 1) := by decide +kernel
theorem dX2_exchange_8 : decode cX2_exchange 8 = .ok (.getfield 9, 3) := by decide +kernel
theorem dX2_exchange_11 : decode cX2_exchange 11 = .ok (.iload_n 1, 1) := by decide +kernel
theorem dX2_exchange_12 : decode cX2_exchange 12 = .ok (.aload_n 0, 1) := by decide +kernel
theorem dX2_exchange_13 : decode cX2_exchange 13 = .ok (.getfield 9, 3) := by decide +kernel
theorem dX2_exchange_16 : decode cX2_exchange 16 = .ok (.iload_n 2, 1) := by decide +kernel
theorem dX2_exchange_17 : decode cX2_exchange 17 = .ok (.iaload, 1) := by decide +kernel
theorem dX2_exchange_18 : decode cX2_exchange 18 = .ok (.iastore, 1) := by decide +kernel
theorem dX2_exchange_19 : decode cX2_exchange 19 = .ok (.aload_n 0, 1) := by decide +kernel
theorem dX2_exchange_20 : decode cX2_exchange 20 = .ok (.getfield 9, 3) := by decide +kernel
theorem dX2_exchange_23 : decode cX2_exchange 23 = .ok (.iload_n 2, 1) := by decide +kernel
theorem dX2_exchange_24 : decode cX2_exchange 24 = .ok (.iload_n 3, 1) := by decide +kernel
theorem dX2_exchange_25 : decode cX2_exchange 25 = .ok (.iastore, 1) := by decide +kernel
theorem dX2_exchange_26 : decode cX2_exchange 26 = .ok (.return_, 1) := by decide +kernel
theorem dX3_init_0 : decode cX3_init 0 = .ok (.aload_n 0, 1) := by decide +kernel
theorem dX3_init_1 : decode cX3_init 1 = .ok (.invokespecial 3, 3) := by decide +kernel
theorem dX3_init_4 : decode cX3_init 4 = .ok (.aload_n 0, 1) := by decide +kernel
theorem dX3_init_5 : decode cX3_init 5 = .ok (.sipush 150, 3) := by decide +kernel
theorem dX3_init_8 : decode cX3_init 8 = .ok (.newarray .byte, 2) := by decide +kernel
theorem dX3_init_10 : decode cX3_init 10 = .ok (.putfield 9, 3) := by decide +kernel
theorem dX3_init_13 : decode cX3_init 13 = .ok (.aload_n 0, 1) := by decide +kernel
theorem dX3_init_14 : decode cX3_init 14 = .ok (.new 15, 3) := by decide +kernel
theorem dX3_init_17 : decode cX3_init 17 = .ok (.dup, 1) := by decide +kernel
theorem dX3_init_18 : decode cX3_init 18 = .ok (.invokespecial 17, 3) := by decide +kernel
theorem dX3_init_21 : decode cX3_init 21 = .ok (.putfield 18, 3) := by decide +kernel
theorem dX3_init_24 : decode cX3_init 24 = .ok (.return_, 1) := by decide +kernel
theorem dX3_put_0 : decode cX3_put 0 = .ok (.aload_n 0, 1) := by decide +kernel
theorem dX3_put_1 : decode cX3_put 1 = .ok (.getfield 22, 3) := by decide +kernel
theorem dX3_put_4 : decode cX3_put 4 = .ok (.sipush 150, 3) := by decide +kernel
theorem dX3_put_7 : decode cX3_put 7 = .ok (.if_icmp .ge 24, 3) := by decide +kernel
theorem dX3_put_10 : decode cX3_put 10 = .ok (.aload_n 0, 1) := by decide +kernel
theorem dX3_put_11 : decode cX3_put 11 = .ok (.getfield 9, 3) := by decide +kernel
theorem dX3_put_14 : decode cX3_put 14 = .ok (.aload_n 0, 1) := by decide +kernel
theorem dX3_put_15 : decode cX3_put 15 = .ok (.getfield 22, 3) := by decide +kernel
theorem dX3_put_18 : decode cX3_put 18 = .ok (.iload_n 1, 1) := by decide +kernel
theorem dX3_put_19 : decode cX3_put 19 = .ok (.i2b, 1) := by decide +kernel
theorem dX3_put_20 : decode cX3_put 20 = .ok (.bastore, 1) := by decide +kernel
theorem dX3_put_21 : decode cX3_put 21 = .ok (.aload_n 0, 1) := by decide +kernel
theorem dX3_put_22 : decode cX3_put 22 = .ok (.dup, 1) := by decide +kernel
theorem dX3_put_23 : decode cX3_put 23 = .ok (.getfield 22, 3) := by decide +kernel
theorem dX3_put_26 : decode cX3_put 26 = .ok (.iconst 1, 1) := by decide +kernel
theorem dX3_put_27 : decode cX3_put 27 = .ok (.iadd, 1) := by decide +kernel
theorem dX3_put_28 : decode cX3_put 28 = .ok (.putfield 22, 3) := by decide +kernel
theorem dX3_put_31 : decode cX3_put 31 = .ok (.aload_n 0, 1) := by decide +kernel
theorem dX3_put_32 : decode cX3_put 32 = .ok (.getfield 22, 3) := by decide +kernel
theorem dX3_put_35 : decode cX3_put 35 = .ok (.ireturn, 1) := by decide +kernel
theorem dX3_readShore_0 : decode cX3_readShore 0 = .ok (.aload_n 0, 1) := by decide +kernel
theorem dX3_readShore_1 : decode cX3_readShore 1 = .ok (.getfield 18, 3) := by decide +kernel
theorem dX3_readShore_4 : decode cX3_readShore 4 = .ok (.invokevirtual 26, 3) := by decide +kernel
theorem dX3_readShore_7 : decode cX3_readShore 7 = .ok (.aload_n 0, 1) := by decide +kernel
theorem dX3_readShore_8 : decode cX3_readShore 8 = .ok (.iconst 0, 1) := by decide +kernel
theorem dX3_readShore_9 : decode cX3_readShore 9 = .ok (.putfield 29, 3) := by decide +kernel
theorem dX3_readShore_12 : decode cX3_readShore 12 = .ok (.iconst 0, 1) := by decide +kernel
theorem dX3_readShore_13 : decode cX3_readShore 13 = .ok (.istore_n 1, 1) := by decide +kernel
theorem dX3_readShore_14 : decode cX3_readShore 14 = .ok (.iload_n 1, 1) := by decide +kernel
theorem dX3_readShore_15 : decode cX3_readShore 15 = .ok (.sipush 150, 3) := by decide +kernel
theorem dX3_readShore_18 : decode cX3_readShore 18 = .ok (.if_icmp .gt 91, 3) := by decide +kernel
theorem dX3_readShore_21 : decode cX3_readShore 21 = .ok (.aload_n 0, 1) := by decide +kernel
theorem dX3_readShore_22 : decode cX3_readShore 22 = .ok (.invokevirtual 32, 3) := by decide +kernel
theorem dX3_readShore_25 : decode cX3_readShore 25 = .ok (.aload_n 0, 1) := by decide +kernel
theorem dX3_readShore_26 : decode cX3_readShore 26 = .ok (.getfield 35, 3) := by decide +kernel
theorem dX3_readShore_29 : decode cX3_readShore 29 = .ok (.ifCond .ne 9, 3) := by decide +kernel
theorem dX3_readShore_32 : decode cX3_readShore 32 = .ok (.iload_n 1, 1) := by decide +kernel
theorem dX3_readShore_33 : decode cX3_readShore 33 = .ok (.ifCond .le 5, 3) := by decide +kernel
theorem dX3_readShore_36 : decode cX3_readShore 36 = .ok (.iload_n 1, 1) := by decide +kernel
theorem dX3_readShore_37 : decode cX3_readShore 37 = .ok (.ireturn, 1) := by decide +kernel
theorem dX3_readShore_38 : decode cX3_readShore 38 = .ok (.aload_n 0, 1) := by decide +kernel
theorem dX3_readShore_39 : decode cX3_readShore 39 = .ok (.getfield 35, 3) := by decide +kernel
theorem dX3_readShore_42 : decode cX3_readShore 42 = .ok (.iconst 1, 1) := by decide +kernel
theorem dX3_readShore_43 : decode cX3_readShore 43 = .ok (.if_icmp .ne 10, 3) := by decide +kernel
theorem dX3_readShore_46 : decode cX3_readShore 46 = .ok (.aload_n 0, 1) := by decide +kernel
theorem dX3_readShore_47 : decode cX3_readShore 47 = .ok (.invokevirtual 38, 3) := by decide +kernel
theorem dX3_readShore_50 : decode cX3_readShore 50 = .ok (.goto 4, 3) := by decide +kernel
theorem dX3_readShore_53 : decode cX3_readShore 53 = .ok (.iconst (-1), 1) := by decide +kernel
theorem dX3_readShore_54 : decode cX3_readShore 54 = .ok (.istore_n 2, 1) := by decide +kernel
theorem dX3_readShore_55 : decode cX3_readShore 55 = .ok (.iload_n 2, 1) := by decide +kernel
theorem dX3_readShore_56 : decode cX3_readShore 56 = .ok (.ifCond .ne 7, 3) := by decide +kernel
theorem dX3_readShore_59 : decode cX3_readShore 59 = .ok (.iconst 1, 1) := by decide +kernel
theorem dX3_readShore_60 : decode cX3_readShore 60 = .ok (.goto 4, 3) := by decide +kernel
theorem dX3_readShore_63 : decode cX3_readShore 63 = .ok (.iconst 0, 1) := by decide +kernel
theorem dX3_readShore_64 : decode cX3_readShore 64 = .ok (.iload_n 1, 1) := by decide +kernel
theorem dX3_readShore_65 : decode cX3_readShore 65 = .ok (.ifCond .ne 7, 3) := by decide +kernel
theorem dX3_readShore_68 : decode cX3_readShore 68 = .ok (.iconst 1, 1) := by decide +kernel
theorem dX3_readShore_69 : decode cX3_readShore 69 = .ok (.goto 4, 3) := by decide +kernel
theorem dX3_readShore_72 : decode cX3_readShore 72 = .ok (.iconst 0, 1) := by decide +kernel
theorem dX3_readShore_73 : decode cX3_readShore 73 = .ok (.if_icmp .ne 7, 3) := by decide +kernel
theorem dX3_readShore_76 : decode cX3_readShore 76 = .ok (.iconst 1, 1) := by decide +kernel
theorem dX3_readShore_77 : decode cX3_readShore 77 = .ok (.goto 4, 3) := by decide +kernel
theorem dX3_readShore_80 : decode cX3_readShore 80 = .ok (.iconst 0, 1) := by decide +kernel
theorem dX3_readShore_81 : decode cX3_readShore 81 = .ok (.istore_n 3, 1) := by decide +kernel
theorem dX3_readShore_82 : decode cX3_readShore 82 = .ok (.iload_n 3, 1) := by decide +kernel
theorem dX3_readShore_83 : decode cX3_readShore 83 = .ok (.ifCond .eq 18, 3) := by decide +kernel
theorem dX3_readShore_86 : decode cX3_readShore 86 = .ok (.aload_n 0, 1) := by decide +kernel
theorem dX3_readShore_87 : decode cX3_readShore 87 = .ok (.iload_n 2, 1) := by decide +kernel
theorem dX3_readShore_88 : decode cX3_readShore 88 = .ok (.invokevirtual 42, 3) := by decide +kernel
theorem dX3_readShore_91 : decode cX3_readShore 91 = .ok (.ifCond .eq 10, 3) := by decide +kernel
theorem dX3_readShore_94 : decode cX3_readShore 94 = .ok (.aload_n 0, 1) := by decide +kernel
theorem dX3_readShore_95 : decode cX3_readShore 95 = .ok (.invokevirtual 46, 3) := by decide +kernel
theorem dX3_readShore_98 : decode cX3_readShore 98 = .ok (.ifCond .ne 5, 3) := by decide +kernel
theorem dX3_readShore_101 : decode cX3_readShore 101 = .ok (.iconst (-1), 1) := by decide +kernel
theorem dX3_readShore_102 : decode cX3_readShore 102 = .ok (.ireturn, 1) := by decide +kernel
theorem dX3_readShore_103 : decode cX3_readShore 103 = .ok (.iinc 1 1, 3) := by decide +kernel
theorem dX3_readShore_106 : decode cX3_readShore 106 = .ok (.goto (-92), 3) := by decide +kernel
theorem dX3_readShore_109 : decode cX3_readShore 109 = .ok (.iconst (-1), 1) := by decide +kernel
theorem dX3_readShore_110 : decode cX3_readShore 110 = .ok (.ireturn, 1) := by decide +kernel
theorem dX3_readSemicolon_0 : decode cX3_readSemicolon 0 = .ok (.aload_n 0, 1) := by decide +kernel
theorem dX3_readSemicolon_1 : decode cX3_readSemicolon 1 = .ok (.invokevirtual 32, 3) := by decide +kernel
theorem dX3_readSemicolon_4 : decode cX3_readSemicolon 4 = .ok (.aload_n 0, 1) := by decide +kernel
theorem dX3_readSemicolon_5 : decode cX3_readSemicolon 5 = .ok (.getfield 35, 3) := by decide +kernel
theorem dX3_readSemicolon_8 : decode cX3_readSemicolon 8 = .ok (.iconst 3, 1) := by decide +kernel
theorem dX3_readSemicolon_9 : decode cX3_readSemicolon 9 = .ok (.if_icmp .ne 7, 3) := by decide +kernel
theorem dX3_readSemicolon_12 : decode cX3_readSemicolon 12 = .ok (.iconst 1, 1) := by decide +kernel
theorem dX3_readSemicolon_13 : decode cX3_readSemicolon 13 = .ok (.goto 4, 3) := by decide +kernel
theorem dX3_readSemicolon_16 : decode cX3_readSemicolon 16 = .ok (.iconst 0, 1) := by decide +kernel
theorem dX3_readSemicolon_17 : decode cX3_readSemicolon 17 = .ok (.ireturn, 1) := by decide +kernel
theorem dX3_readNumbers_0 : decode cX3_readNumbers 0 = .ok (.iload_n 1, 1) := by decide +kernel
theorem dX3_readNumbers_1 : decode cX3_readNumbers 1 = .ok (.tableswitch 109 0 5 #[39, 44, 69, 94, 99, 104], 39) := by decide +kernel
theorem dX3_readNumbers_40 : decode cX3_readNumbers 40 = .ok (.aload_n 0, 1) := by decide +kernel
theorem dX3_readNumbers_41 : decode cX3_readNumbers 41 = .ok (.invokevirtual 50, 3) := by decide +kernel
theorem dX3_readNumbers_44 : decode cX3_readNumbers 44 = .ok (.ireturn, 1) := by decide +kernel
theorem dX3_readNumbers_45 : decode cX3_readNumbers 45 = .ok (.aload_n 0, 1) := by decide +kernel
theorem dX3_readNumbers_46 : decode cX3_readNumbers 46 = .ok (.getfield 18, 3) := by decide +kernel
theorem dX3_readNumbers_49 : decode cX3_readNumbers 49 = .ok (.getfield 53, 3) := by decide +kernel
theorem dX3_readNumbers_52 : decode cX3_readNumbers 52 = .ok (.bipush 6, 2) := by decide +kernel
theorem dX3_readNumbers_54 : decode cX3_readNumbers 54 = .ok (.if_icmp .ge 14, 3) := by decide +kernel
theorem dX3_readNumbers_57 : decode cX3_readNumbers 57 = .ok (.aload_n 0, 1) := by decide +kernel
theorem dX3_readNumbers_58 : decode cX3_readNumbers 58 = .ok (.invokevirtual 56, 3) := by decide +kernel
theorem dX3_readNumbers_61 : decode cX3_readNumbers 61 = .ok (.ifCond .eq 7, 3) := by decide +kernel
theorem dX3_readNumbers_64 : decode cX3_readNumbers 64 = .ok (.iconst 1, 1) := by decide +kernel
theorem dX3_readNumbers_65 : decode cX3_readNumbers 65 = .ok (.goto 4, 3) := by decide +kernel
theorem dX3_readNumbers_68 : decode cX3_readNumbers 68 = .ok (.iconst 0, 1) := by decide +kernel
theorem dX3_readNumbers_69 : decode cX3_readNumbers 69 = .ok (.ireturn, 1) := by decide +kernel
theorem dX3_readNumbers_70 : decode cX3_readNumbers 70 = .ok (.aload_n 0, 1) := by decide +kernel
theorem dX3_readNumbers_71 : decode cX3_readNumbers 71 = .ok (.getfield 18, 3) := by decide +kernel
theorem dX3_readNumbers_74 : decode cX3_readNumbers 74 = .ok (.getfield 59, 3) := by decide +kernel
theorem dX3_readNumbers_77 : decode cX3_readNumbers 77 = .ok (.bipush 6, 2) := by decide +kernel
theorem dX3_readNumbers_79 : decode cX3_readNumbers 79 = .ok (.if_icmp .ge 14, 3) := by decide +kernel
theorem dX3_readNumbers_82 : decode cX3_readNumbers 82 = .ok (.aload_n 0, 1) := by decide +kernel
theorem dX3_readNumbers_83 : decode cX3_readNumbers 83 = .ok (.invokevirtual 62, 3) := by decide +kernel
theorem dX3_readNumbers_86 : decode cX3_readNumbers 86 = .ok (.ifCond .eq 7, 3) := by decide +kernel
theorem dX3_readNumbers_89 : decode cX3_readNumbers 89 = .ok (.iconst 1, 1) := by decide +kernel
theorem dX3_readNumbers_90 : decode cX3_readNumbers 90 = .ok (.goto 4, 3) := by decide +kernel
theorem dX3_readNumbers_93 : decode cX3_readNumbers 93 = .ok (.iconst 0, 1) := by decide +kernel
theorem dX3_readNumbers_94 : decode cX3_readNumbers 94 = .ok (.ireturn, 1) := by decide +kernel
theorem dX3_readNumbers_95 : decode cX3_readNumbers 95 = .ok (.aload_n 0, 1) := by decide +kernel
theorem dX3_readNumbers_96 : decode cX3_readNumbers 96 = .ok (.invokevirtual 65, 3) := by decide +kernel
theorem dX3_readNumbers_99 : decode cX3_readNumbers 99 = .ok (.ireturn, 1) := by decide +kernel
theorem dX3_readNumbers_100 : decode cX3_readNumbers 100 = .ok (.aload_n 0, 1) := by decide +kernel
theorem dX3_readNumbers_101 : decode cX3_readNumbers 101 = .ok (.invokevirtual 68, 3) := by decide +kernel
theorem dX3_readNumbers_104 : decode cX3_readNumbers 104 = .ok (.ireturn, 1) := by decide +kernel
theorem dX3_readNumbers_105 : decode cX3_readNumbers 105 = .ok (.aload_n 0, 1) := by decide +kernel
theorem dX3_readNumbers_106 : decode cX3_readNumbers 106 = .ok (.invokevirtual 71, 3) := by decide +kernel
theorem dX3_readNumbers_109 : decode cX3_readNumbers 109 = .ok (.ireturn, 1) := by decide +kernel
theorem dX3_readNumbers_110 : decode cX3_readNumbers 110 = .ok (.iconst 0, 1) := by decide +kernel
theorem dX3_readNumbers_111 : decode cX3_readNumbers 111 = .ok (.ireturn, 1) := by decide +kernel
theorem dX3_readCurrents_0 : decode cX3_readCurrents 0 = .ok (.iconst 0, 1) := by decide +kernel
theorem dX3_readCurrents_1 : decode cX3_readCurrents 1 = .ok (.istore_n 1, 1) := by decide +kernel
theorem dX3_readCurrents_2 : decode cX3_readCurrents 2 = .ok (.iload_n 1, 1) := by decide +kernel
theorem dX3_readCurrents_3 : decode cX3_readCurrents 3 = .ok (.bipush 12, 2) := by decide +kernel
theorem dX3_readCurrents_5 : decode cX3_readCurrents 5 = .ok (.if_icmp .ge 35, 3) := by decide +kernel
theorem dX3_readCurrents_8 : decode cX3_readCurrents 8 = .ok (.aload_n 0, 1) := by decide +kernel
theorem dX3_readCurrents_9 : decode cX3_readCurrents 9 = .ok (.iconst 0, 1) := by decide +kernel
theorem dX3_readCurrents_10 : decode cX3_readCurrents 10 = .ok (.iconst 4, 1) := by decide +kernel
theorem dX3_readCurrents_11 : decode cX3_readCurrents 11 = .ok (.invokevirtual 74, 3) := by decide +kernel
theorem dX3_readCurrents_14 : decode cX3_readCurrents 14 = .ok (.ifCond .ne 5, 3) := by decide +kernel
theorem dX3_readCurrents_17 : decode cX3_readCurrents 17 = .ok (.iconst 0, 1) := by decide +kernel
theorem dX3_readCurrents_18 : decode cX3_readCurrents 18 = .ok (.ireturn, 1) := by decide +kernel
theorem dX3_readCurrents_19 : decode cX3_readCurrents 19 = .ok (.aload_n 0, 1) := by decide +kernel
theorem dX3_readCurrents_20 : decode cX3_readCurrents 20 = .ok (.getfield 18, 3) := by decide +kernel
theorem dX3_readCurrents_23 : decode cX3_readCurrents 23 = .ok (.getfield 78, 3) := by decide +kernel
theorem dX3_readCurrents_26 : decode cX3_readCurrents 26 = .ok (.iload_n 1, 1) := by decide +kernel
theorem dX3_readCurrents_27 : decode cX3_readCurrents 27 = .ok (.aload_n 0, 1) := by decide +kernel
theorem dX3_readCurrents_28 : decode cX3_readCurrents 28 = .ok (.getfield 82, 3) := by decide +kernel
theorem dX3_readCurrents_31 : decode cX3_readCurrents 31 = .ok (.iconst 2, 1) := by decide +kernel
theorem dX3_readCurrents_32 : decode cX3_readCurrents 32 = .ok (.isub, 1) := by decide +kernel
theorem dX3_readCurrents_33 : decode cX3_readCurrents 33 = .ok (.iastore, 1) := by decide +kernel
theorem dX3_readCurrents_34 : decode cX3_readCurrents 34 = .ok (.iinc 1 1, 3) := by decide +kernel
theorem dX3_readCurrents_37 : decode cX3_readCurrents 37 = .ok (.goto (-35), 3) := by decide +kernel
theorem dX3_readCurrents_40 : decode cX3_readCurrents 40 = .ok (.iconst 1, 1) := by decide +kernel
theorem dX3_readCurrents_41 : decode cX3_readCurrents 41 = .ok (.ireturn, 1) := by decide +kernel
theorem dX3_readSoul_0 : decode cX3_readSoul 0 = .ok (.aload_n 0, 1) := by decide +kernel
theorem dX3_readSoul_1 : decode cX3_readSoul 1 = .ok (.iconst 0, 1) := by decide +kernel
theorem dX3_readSoul_2 : decode cX3_readSoul 2 = .ok (.iconst 5, 1) := by decide +kernel
theorem dX3_readSoul_3 : decode cX3_readSoul 3 = .ok (.invokevirtual 74, 3) := by decide +kernel
theorem dX3_readSoul_6 : decode cX3_readSoul 6 = .ok (.ifCond .ne 5, 3) := by decide +kernel
theorem dX3_readSoul_9 : decode cX3_readSoul 9 = .ok (.iconst 0, 1) := by decide +kernel
theorem dX3_readSoul_10 : decode cX3_readSoul 10 = .ok (.ireturn, 1) := by decide +kernel
theorem dX3_readSoul_11 : decode cX3_readSoul 11 = .ok (.aload_n 0, 1) := by decide +kernel
theorem dX3_readSoul_12 : decode cX3_readSoul 12 = .ok (.getfield 82, 3) := by decide +kernel
theorem dX3_readSoul_15 : decode cX3_readSoul 15 = .ok (.istore_n 1, 1) := by decide +kernel
theorem dX3_readSoul_16 : decode cX3_readSoul 16 = .ok (.aload_n 0, 1) := by decide +kernel
theorem dX3_readSoul_17 : decode cX3_readSoul 17 = .ok (.iconst 1, 1) := by decide +kernel
theorem dX3_readSoul_18 : decode cX3_readSoul 18 = .ok (.bipush 9, 2) := by decide +kernel
theorem dX3_readSoul_20 : decode cX3_readSoul 20 = .ok (.invokevirtual 74, 3) := by decide +kernel
theorem dX3_readSoul_23 : decode cX3_readSoul 23 = .ok (.ifCond .ne 5, 3) := by decide +kernel
theorem dX3_readSoul_26 : decode cX3_readSoul 26 = .ok (.iconst 0, 1) := by decide +kernel
theorem dX3_readSoul_27 : decode cX3_readSoul 27 = .ok (.ireturn, 1) := by decide +kernel
theorem dX3_readSoul_28 : decode cX3_readSoul 28 = .ok (.aload_n 0, 1) := by decide +kernel
theorem dX3_readSoul_29 : decode cX3_readSoul 29 = .ok (.getfield 82, 3) := by decide +kernel
theorem dX3_readSoul_32 : decode cX3_readSoul 32 = .ok (.istore_n 2, 1) := by decide +kernel
theorem dX3_readSoul_33 : decode cX3_readSoul 33 = .ok (.aload_n 0, 1) := by decide +kernel
theorem dX3_readSoul_34 : decode cX3_readSoul 34 = .ok (.iconst 0, 1) := by decide +kernel
theorem dX3_readSoul_35 : decode cX3_readSoul 35 = .ok (.bipush 11, 2) := by decide +kernel
theorem dX3_readSoul_37 : decode cX3_readSoul 37 = .ok (.invokevirtual 74, 3) := by decide +kernel
theorem dX3_readSoul_40 : decode cX3_readSoul 40 = .ok (.ifCond .ne 5, 3) := by decide +kernel
theorem dX3_readSoul_43 : decode cX3_readSoul 43 = .ok (.iconst 0, 1) := by decide +kernel
theorem dX3_readSoul_44 : decode cX3_readSoul 44 = .ok (.ireturn, 1) := by decide +kernel
theorem dX3_readSoul_45 : decode cX3_readSoul 45 = .ok (.aload_n 0, 1) := by decide +kernel
theorem dX3_readSoul_46 : decode cX3_readSoul 46 = .ok (.getfield 18, 3) := by decide +kernel
theorem dX3_readSoul_49 : decode cX3_readSoul 49 = .ok (.iload_n 1, 1) := by decide +kernel
theorem dX3_readSoul_50 : decode cX3_readSoul 50 = .ok (.iload_n 2, 1) := by decide +kernel
theorem dX3_readSoul_51 : decode cX3_readSoul 51 = .ok (.aload_n 0, 1) := by decide +kernel
theorem dX3_readSoul_52 : decode cX3_readSoul 52 = .ok (.getfield 82, 3) := by decide +kernel
theorem dX3_readSoul_55 : decode cX3_readSoul 55 = .ok (.invokevirtual 85, 3) := by decide +kernel
theorem dX3_readSoul_58 : decode cX3_readSoul 58 = .ok (.pop, 1) := by decide +kernel
theorem dX3_readSoul_59 : decode cX3_readSoul 59 = .ok (.iconst 1, 1) := by decide +kernel
theorem dX3_readSoul_60 : decode cX3_readSoul 60 = .ok (.ireturn, 1) := by decide +kernel
theorem dX3_readCaller_0 : decode cX3_readCaller 0 = .ok (.aload_n 0, 1) := by decide +kernel
theorem dX3_readCaller_1 : decode cX3_readCaller 1 = .ok (.iconst 0, 1) := by decide +kernel
theorem dX3_readCaller_2 : decode cX3_readCaller 2 = .ok (.iconst 5, 1) := by decide +kernel
theorem dX3_readCaller_3 : decode cX3_readCaller 3 = .ok (.invokevirtual 74, 3) := by decide +kernel
theorem dX3_readCaller_6 : decode cX3_readCaller 6 = .ok (.ifCond .ne 5, 3) := by decide +kernel
theorem dX3_readCaller_9 : decode cX3_readCaller 9 = .ok (.iconst 0, 1) := by decide +kernel
theorem dX3_readCaller_10 : decode cX3_readCaller 10 = .ok (.ireturn, 1) := by decide +kernel
theorem dX3_readCaller_11 : decode cX3_readCaller 11 = .ok (.aload_n 0, 1) := by decide +kernel
theorem dX3_readCaller_12 : decode cX3_readCaller 12 = .ok (.getfield 18, 3) := by decide +kernel
theorem dX3_readCaller_15 : decode cX3_readCaller 15 = .ok (.aload_n 0, 1) := by decide +kernel
theorem dX3_readCaller_16 : decode cX3_readCaller 16 = .ok (.getfield 82, 3) := by decide +kernel
theorem dX3_readCaller_19 : decode cX3_readCaller 19 = .ok (.invokevirtual 89, 3) := by decide +kernel
theorem dX3_readCaller_22 : decode cX3_readCaller 22 = .ok (.pop, 1) := by decide +kernel
theorem dX3_readCaller_23 : decode cX3_readCaller 23 = .ok (.iconst 1, 1) := by decide +kernel
theorem dX3_readCaller_24 : decode cX3_readCaller 24 = .ok (.ireturn, 1) := by decide +kernel
theorem dX3_readWalk_0 : decode cX3_readWalk 0 = .ok (.aload_n 0, 1) := by decide +kernel
theorem dX3_readWalk_1 : decode cX3_readWalk 1 = .ok (.iconst 0, 1) := by decide +kernel
theorem dX3_readWalk_2 : decode cX3_readWalk 2 = .ok (.iconst 2, 1) := by decide +kernel
theorem dX3_readWalk_3 : decode cX3_readWalk 3 = .ok (.invokevirtual 74, 3) := by decide +kernel
theorem dX3_readWalk_6 : decode cX3_readWalk 6 = .ok (.ifCond .ne 5, 3) := by decide +kernel
theorem dX3_readWalk_9 : decode cX3_readWalk 9 = .ok (.iconst 0, 1) := by decide +kernel
theorem dX3_readWalk_10 : decode cX3_readWalk 10 = .ok (.ireturn, 1) := by decide +kernel
theorem dX3_readWalk_11 : decode cX3_readWalk 11 = .ok (.aload_n 0, 1) := by decide +kernel
theorem dX3_readWalk_12 : decode cX3_readWalk 12 = .ok (.getfield 18, 3) := by decide +kernel
theorem dX3_readWalk_15 : decode cX3_readWalk 15 = .ok (.aload_n 0, 1) := by decide +kernel
theorem dX3_readWalk_16 : decode cX3_readWalk 16 = .ok (.getfield 82, 3) := by decide +kernel
theorem dX3_readWalk_19 : decode cX3_readWalk 19 = .ok (.iconst 1, 1) := by decide +kernel
theorem dX3_readWalk_20 : decode cX3_readWalk 20 = .ok (.isub, 1) := by decide +kernel
theorem dX3_readWalk_21 : decode cX3_readWalk 21 = .ok (.invokevirtual 93, 3) := by decide +kernel
theorem dX3_readWalk_24 : decode cX3_readWalk 24 = .ok (.pop, 1) := by decide +kernel
theorem dX3_readWalk_25 : decode cX3_readWalk 25 = .ok (.aload_n 0, 1) := by decide +kernel
theorem dX3_readWalk_26 : decode cX3_readWalk 26 = .ok (.getfield 18, 3) := by decide +kernel
theorem dX3_readWalk_29 : decode cX3_readWalk 29 = .ok (.iconst 1, 1) := by decide +kernel
theorem dX3_readWalk_30 : decode cX3_readWalk 30 = .ok (.invokevirtual 96, 3) := by decide +kernel
theorem dX3_readWalk_33 : decode cX3_readWalk 33 = .ok (.iconst 1, 1) := by decide +kernel
theorem dX3_readWalk_34 : decode cX3_readWalk 34 = .ok (.ireturn, 1) := by decide +kernel
theorem dX3_readCall_0 : decode cX3_readCall 0 = .ok (.aload_n 0, 1) := by decide +kernel
theorem dX3_readCall_1 : decode cX3_readCall 1 = .ok (.iconst 0, 1) := by decide +kernel
theorem dX3_readCall_2 : decode cX3_readCall 2 = .ok (.aload_n 0, 1) := by decide +kernel
theorem dX3_readCall_3 : decode cX3_readCall 3 = .ok (.getfield 18, 3) := by decide +kernel
theorem dX3_readCall_6 : decode cX3_readCall 6 = .ok (.getfield 59, 3) := by decide +kernel
theorem dX3_readCall_9 : decode cX3_readCall 9 = .ok (.iconst 1, 1) := by decide +kernel
theorem dX3_readCall_10 : decode cX3_readCall 10 = .ok (.isub, 1) := by decide +kernel
theorem dX3_readCall_11 : decode cX3_readCall 11 = .ok (.invokevirtual 74, 3) := by decide +kernel
theorem dX3_readCall_14 : decode cX3_readCall 14 = .ok (.ifCond .ne 5, 3) := by decide +kernel
theorem dX3_readCall_17 : decode cX3_readCall 17 = .ok (.iconst 0, 1) := by decide +kernel
theorem dX3_readCall_18 : decode cX3_readCall 18 = .ok (.ireturn, 1) := by decide +kernel
theorem dX3_readCall_19 : decode cX3_readCall 19 = .ok (.aload_n 0, 1) := by decide +kernel
theorem dX3_readCall_20 : decode cX3_readCall 20 = .ok (.getfield 18, 3) := by decide +kernel
theorem dX3_readCall_23 : decode cX3_readCall 23 = .ok (.aload_n 0, 1) := by decide +kernel
theorem dX3_readCall_24 : decode cX3_readCall 24 = .ok (.getfield 82, 3) := by decide +kernel
theorem dX3_readCall_27 : decode cX3_readCall 27 = .ok (.invokevirtual 100, 3) := by decide +kernel
theorem dX3_readCall_30 : decode cX3_readCall 30 = .ok (.istore_n 1, 1) := by decide +kernel
theorem dX3_readCall_31 : decode cX3_readCall 31 = .ok (.iload_n 1, 1) := by decide +kernel
theorem dX3_readCall_32 : decode cX3_readCall 32 = .ok (.iconst (-1), 1) := by decide +kernel
theorem dX3_readCall_33 : decode cX3_readCall 33 = .ok (.if_icmp .ne 5, 3) := by decide +kernel
theorem dX3_readCall_36 : decode cX3_readCall 36 = .ok (.iconst 0, 1) := by decide +kernel
theorem dX3_readCall_37 : decode cX3_readCall 37 = .ok (.ireturn, 1) := by decide +kernel
theorem dX3_readCall_38 : decode cX3_readCall 38 = .ok (.aload_n 0, 1) := by decide +kernel
theorem dX3_readCall_39 : decode cX3_readCall 39 = .ok (.getfield 18, 3) := by decide +kernel
theorem dX3_readCall_42 : decode cX3_readCall 42 = .ok (.getfield 103, 3) := by decide +kernel
theorem dX3_readCall_45 : decode cX3_readCall 45 = .ok (.getfield 107, 3) := by decide +kernel
theorem dX3_readCall_48 : decode cX3_readCall 48 = .ok (.iload_n 1, 1) := by decide +kernel
theorem dX3_readCall_49 : decode cX3_readCall 49 = .ok (.aload_n 0, 1) := by decide +kernel
theorem dX3_readCall_50 : decode cX3_readCall 50 = .ok (.getfield 82, 3) := by decide +kernel
theorem dX3_readCall_53 : decode cX3_readCall 53 = .ok (.iastore, 1) := by decide +kernel
theorem dX3_readCall_54 : decode cX3_readCall 54 = .ok (.iconst 1, 1) := by decide +kernel
theorem dX3_readCall_55 : decode cX3_readCall 55 = .ok (.ireturn, 1) := by decide +kernel
theorem dX3_readTides_0 : decode cX3_readTides 0 = .ok (.aload_n 0, 1) := by decide +kernel
theorem dX3_readTides_1 : decode cX3_readTides 1 = .ok (.iconst 1, 1) := by decide +kernel
theorem dX3_readTides_2 : decode cX3_readTides 2 = .ok (.bipush 99, 2) := by decide +kernel
theorem dX3_readTides_4 : decode cX3_readTides 4 = .ok (.invokevirtual 74, 3) := by decide +kernel
theorem dX3_readTides_7 : decode cX3_readTides 7 = .ok (.ifCond .ne 5, 3) := by decide +kernel
theorem dX3_readTides_10 : decode cX3_readTides 10 = .ok (.iconst 0, 1) := by decide +kernel
theorem dX3_readTides_11 : decode cX3_readTides 11 = .ok (.ireturn, 1) := by decide +kernel
theorem dX3_readTides_12 : decode cX3_readTides 12 = .ok (.aload_n 0, 1) := by decide +kernel
theorem dX3_readTides_13 : decode cX3_readTides 13 = .ok (.getfield 18, 3) := by decide +kernel
theorem dX3_readTides_16 : decode cX3_readTides 16 = .ok (.aload_n 0, 1) := by decide +kernel
theorem dX3_readTides_17 : decode cX3_readTides 17 = .ok (.getfield 82, 3) := by decide +kernel
theorem dX3_readTides_20 : decode cX3_readTides 20 = .ok (.invokevirtual 96, 3) := by decide +kernel
theorem dX3_readTides_23 : decode cX3_readTides 23 = .ok (.iconst 1, 1) := by decide +kernel
theorem dX3_readTides_24 : decode cX3_readTides 24 = .ok (.ireturn, 1) := by decide +kernel
theorem dX3_readNumber_0 : decode cX3_readNumber 0 = .ok (.aload_n 0, 1) := by decide +kernel
theorem dX3_readNumber_1 : decode cX3_readNumber 1 = .ok (.invokevirtual 32, 3) := by decide +kernel
theorem dX3_readNumber_4 : decode cX3_readNumber 4 = .ok (.aload_n 0, 1) := by decide +kernel
theorem dX3_readNumber_5 : decode cX3_readNumber 5 = .ok (.getfield 35, 3) := by decide +kernel
theorem dX3_readNumber_8 : decode cX3_readNumber 8 = .ok (.iconst 2, 1) := by decide +kernel
theorem dX3_readNumber_9 : decode cX3_readNumber 9 = .ok (.if_icmp .ne 19, 3) := by decide +kernel
theorem dX3_readNumber_12 : decode cX3_readNumber 12 = .ok (.aload_n 0, 1) := by decide +kernel
theorem dX3_readNumber_13 : decode cX3_readNumber 13 = .ok (.getfield 82, 3) := by decide +kernel
theorem dX3_readNumber_16 : decode cX3_readNumber 16 = .ok (.iload_n 1, 1) := by decide +kernel
theorem dX3_readNumber_17 : decode cX3_readNumber 17 = .ok (.iload_n 2, 1) := by decide +kernel
theorem dX3_readNumber_18 : decode cX3_readNumber 18 = .ok (.invokestatic 112, 3) := by decide +kernel
theorem dX3_readNumber_21 : decode cX3_readNumber 21 = .ok (.ifCond .eq 7, 3) := by decide +kernel
theorem dX3_readNumber_24 : decode cX3_readNumber 24 = .ok (.iconst 1, 1) := by decide +kernel
theorem dX3_readNumber_25 : decode cX3_readNumber 25 = .ok (.goto 4, 3) := by decide +kernel
theorem dX3_readNumber_28 : decode cX3_readNumber 28 = .ok (.iconst 0, 1) := by decide +kernel
theorem dX3_readNumber_29 : decode cX3_readNumber 29 = .ok (.ireturn, 1) := by decide +kernel
theorem dX3_nextToken_0 : decode cX3_nextToken 0 = .ok (.aload_n 0, 1) := by decide +kernel
theorem dX3_nextToken_1 : decode cX3_nextToken 1 = .ok (.getfield 29, 3) := by decide +kernel
theorem dX3_nextToken_4 : decode cX3_nextToken 4 = .ok (.aload_n 0, 1) := by decide +kernel
theorem dX3_nextToken_5 : decode cX3_nextToken 5 = .ok (.getfield 22, 3) := by decide +kernel
theorem dX3_nextToken_8 : decode cX3_nextToken 8 = .ok (.if_icmp .ge 30, 3) := by decide +kernel
theorem dX3_nextToken_11 : decode cX3_nextToken 11 = .ok (.aload_n 0, 1) := by decide +kernel
theorem dX3_nextToken_12 : decode cX3_nextToken 12 = .ok (.getfield 9, 3) := by decide +kernel
theorem dX3_nextToken_15 : decode cX3_nextToken 15 = .ok (.aload_n 0, 1) := by decide +kernel
theorem dX3_nextToken_16 : decode cX3_nextToken 16 = .ok (.getfield 29, 3) := by decide +kernel
theorem dX3_nextToken_19 : decode cX3_nextToken 19 = .ok (.baload, 1) := by decide +kernel
theorem dX3_nextToken_20 : decode cX3_nextToken 20 = .ok (.bipush 32, 2) := by decide +kernel
theorem dX3_nextToken_22 : decode cX3_nextToken 22 = .ok (.if_icmp .ne 16, 3) := by decide +kernel
theorem dX3_nextToken_25 : decode cX3_nextToken 25 = .ok (.aload_n 0, 1) := by decide +kernel
theorem dX3_nextToken_26 : decode cX3_nextToken 26 = .ok (.dup, 1) := by decide +kernel
theorem dX3_nextToken_27 : decode cX3_nextToken 27 = .ok (.getfield 29, 3) := by decide +kernel
theorem dX3_nextToken_30 : decode cX3_nextToken 30 = .ok (.iconst 1, 1) := by decide +kernel
theorem dX3_nextToken_31 : decode cX3_nextToken 31 = .ok (.iadd, 1) := by decide +kernel
theorem dX3_nextToken_32 : decode cX3_nextToken 32 = .ok (.putfield 29, 3) := by decide +kernel
theorem dX3_nextToken_35 : decode cX3_nextToken 35 = .ok (.goto (-35), 3) := by decide +kernel
theorem dX3_nextToken_38 : decode cX3_nextToken 38 = .ok (.aload_n 0, 1) := by decide +kernel
theorem dX3_nextToken_39 : decode cX3_nextToken 39 = .ok (.aload_n 0, 1) := by decide +kernel
theorem dX3_nextToken_40 : decode cX3_nextToken 40 = .ok (.getfield 29, 3) := by decide +kernel
theorem dX3_nextToken_43 : decode cX3_nextToken 43 = .ok (.putfield 116, 3) := by decide +kernel
theorem dX3_nextToken_46 : decode cX3_nextToken 46 = .ok (.aload_n 0, 1) := by decide +kernel
theorem dX3_nextToken_47 : decode cX3_nextToken 47 = .ok (.getfield 29, 3) := by decide +kernel
theorem dX3_nextToken_50 : decode cX3_nextToken 50 = .ok (.aload_n 0, 1) := by decide +kernel
theorem dX3_nextToken_51 : decode cX3_nextToken 51 = .ok (.getfield 22, 3) := by decide +kernel
theorem dX3_nextToken_54 : decode cX3_nextToken 54 = .ok (.if_icmp .lt 11, 3) := by decide +kernel
theorem dX3_nextToken_57 : decode cX3_nextToken 57 = .ok (.aload_n 0, 1) := by decide +kernel
theorem dX3_nextToken_58 : decode cX3_nextToken 58 = .ok (.iconst 0, 1) := by decide +kernel
theorem dX3_nextToken_59 : decode cX3_nextToken 59 = .ok (.putfield 35, 3) := by decide +kernel
theorem dX3_nextToken_62 : decode cX3_nextToken 62 = .ok (.goto 80, 3) := by decide +kernel
theorem dX3_nextToken_65 : decode cX3_nextToken 65 = .ok (.aload_n 0, 1) := by decide +kernel
theorem dX3_nextToken_66 : decode cX3_nextToken 66 = .ok (.getfield 9, 3) := by decide +kernel
theorem dX3_nextToken_69 : decode cX3_nextToken 69 = .ok (.aload_n 0, 1) := by decide +kernel
theorem dX3_nextToken_70 : decode cX3_nextToken 70 = .ok (.getfield 29, 3) := by decide +kernel
theorem dX3_nextToken_73 : decode cX3_nextToken 73 = .ok (.baload, 1) := by decide +kernel
theorem dX3_nextToken_74 : decode cX3_nextToken 74 = .ok (.invokestatic 119, 3) := by decide +kernel
theorem dX3_nextToken_77 : decode cX3_nextToken 77 = .ok (.ifCond .eq 10, 3) := by decide +kernel
theorem dX3_nextToken_80 : decode cX3_nextToken 80 = .ok (.aload_n 0, 1) := by decide +kernel
theorem dX3_nextToken_81 : decode cX3_nextToken 81 = .ok (.invokevirtual 123, 3) := by decide +kernel
theorem dX3_nextToken_84 : decode cX3_nextToken 84 = .ok (.goto 58, 3) := by decide +kernel
theorem dX3_nextToken_87 : decode cX3_nextToken 87 = .ok (.aload_n 0, 1) := by decide +kernel
theorem dX3_nextToken_88 : decode cX3_nextToken 88 = .ok (.getfield 9, 3) := by decide +kernel
theorem dX3_nextToken_91 : decode cX3_nextToken 91 = .ok (.aload_n 0, 1) := by decide +kernel
theorem dX3_nextToken_92 : decode cX3_nextToken 92 = .ok (.getfield 29, 3) := by decide +kernel
theorem dX3_nextToken_95 : decode cX3_nextToken 95 = .ok (.baload, 1) := by decide +kernel
theorem dX3_nextToken_96 : decode cX3_nextToken 96 = .ok (.invokestatic 126, 3) := by decide +kernel
theorem dX3_nextToken_99 : decode cX3_nextToken 99 = .ok (.ifCond .eq 10, 3) := by decide +kernel
theorem dX3_nextToken_102 : decode cX3_nextToken 102 = .ok (.aload_n 0, 1) := by decide +kernel
theorem dX3_nextToken_103 : decode cX3_nextToken 103 = .ok (.invokevirtual 129, 3) := by decide +kernel
theorem dX3_nextToken_106 : decode cX3_nextToken 106 = .ok (.goto 36, 3) := by decide +kernel
theorem dX3_nextToken_109 : decode cX3_nextToken 109 = .ok (.aload_n 0, 1) := by decide +kernel
theorem dX3_nextToken_110 : decode cX3_nextToken 110 = .ok (.aload_n 0, 1) := by decide +kernel
theorem dX3_nextToken_111 : decode cX3_nextToken 111 = .ok (.getfield 9, 3) := by decide +kernel
theorem dX3_nextToken_114 : decode cX3_nextToken 114 = .ok (.aload_n 0, 1) := by decide +kernel
theorem dX3_nextToken_115 : decode cX3_nextToken 115 = .ok (.getfield 29, 3) := by decide +kernel
theorem dX3_nextToken_118 : decode cX3_nextToken 118 = .ok (.baload, 1) := by decide +kernel
theorem dX3_nextToken_119 : decode cX3_nextToken 119 = .ok (.bipush 59, 2) := by decide +kernel
theorem dX3_nextToken_121 : decode cX3_nextToken 121 = .ok (.if_icmp .ne 7, 3) := by decide +kernel
theorem dX3_nextToken_124 : decode cX3_nextToken 124 = .ok (.iconst 3, 1) := by decide +kernel
theorem dX3_nextToken_125 : decode cX3_nextToken 125 = .ok (.goto 4, 3) := by decide +kernel
theorem dX3_nextToken_128 : decode cX3_nextToken 128 = .ok (.iconst 4, 1) := by decide +kernel
theorem dX3_nextToken_129 : decode cX3_nextToken 129 = .ok (.putfield 35, 3) := by decide +kernel
theorem dX3_nextToken_132 : decode cX3_nextToken 132 = .ok (.aload_n 0, 1) := by decide +kernel
theorem dX3_nextToken_133 : decode cX3_nextToken 133 = .ok (.dup, 1) := by decide +kernel
theorem dX3_nextToken_134 : decode cX3_nextToken 134 = .ok (.getfield 29, 3) := by decide +kernel
theorem dX3_nextToken_137 : decode cX3_nextToken 137 = .ok (.iconst 1, 1) := by decide +kernel
theorem dX3_nextToken_138 : decode cX3_nextToken 138 = .ok (.iadd, 1) := by decide +kernel
theorem dX3_nextToken_139 : decode cX3_nextToken 139 = .ok (.putfield 29, 3) := by decide +kernel
theorem dX3_nextToken_142 : decode cX3_nextToken 142 = .ok (.return_, 1) := by decide +kernel
theorem dX3_takeWord_0 : decode cX3_takeWord 0 = .ok (.aload_n 0, 1) := by decide +kernel
theorem dX3_takeWord_1 : decode cX3_takeWord 1 = .ok (.getfield 29, 3) := by decide +kernel
theorem dX3_takeWord_4 : decode cX3_takeWord 4 = .ok (.aload_n 0, 1) := by decide +kernel
theorem dX3_takeWord_5 : decode cX3_takeWord 5 = .ok (.getfield 22, 3) := by decide +kernel
theorem dX3_takeWord_8 : decode cX3_takeWord 8 = .ok (.if_icmp .ge 31, 3) := by decide +kernel
theorem dX3_takeWord_11 : decode cX3_takeWord 11 = .ok (.aload_n 0, 1) := by decide +kernel
theorem dX3_takeWord_12 : decode cX3_takeWord 12 = .ok (.getfield 9, 3) := by decide +kernel
theorem dX3_takeWord_15 : decode cX3_takeWord 15 = .ok (.aload_n 0, 1) := by decide +kernel
theorem dX3_takeWord_16 : decode cX3_takeWord 16 = .ok (.getfield 29, 3) := by decide +kernel
theorem dX3_takeWord_19 : decode cX3_takeWord 19 = .ok (.baload, 1) := by decide +kernel
theorem dX3_takeWord_20 : decode cX3_takeWord 20 = .ok (.invokestatic 119, 3) := by decide +kernel
theorem dX3_takeWord_23 : decode cX3_takeWord 23 = .ok (.ifCond .eq 16, 3) := by decide +kernel
theorem dX3_takeWord_26 : decode cX3_takeWord 26 = .ok (.aload_n 0, 1) := by decide +kernel
theorem dX3_takeWord_27 : decode cX3_takeWord 27 = .ok (.dup, 1) := by decide +kernel
theorem dX3_takeWord_28 : decode cX3_takeWord 28 = .ok (.getfield 29, 3) := by decide +kernel
theorem dX3_takeWord_31 : decode cX3_takeWord 31 = .ok (.iconst 1, 1) := by decide +kernel
theorem dX3_takeWord_32 : decode cX3_takeWord 32 = .ok (.iadd, 1) := by decide +kernel
theorem dX3_takeWord_33 : decode cX3_takeWord 33 = .ok (.putfield 29, 3) := by decide +kernel
theorem dX3_takeWord_36 : decode cX3_takeWord 36 = .ok (.goto (-36), 3) := by decide +kernel
theorem dX3_takeWord_39 : decode cX3_takeWord 39 = .ok (.aload_n 0, 1) := by decide +kernel
theorem dX3_takeWord_40 : decode cX3_takeWord 40 = .ok (.iconst 1, 1) := by decide +kernel
theorem dX3_takeWord_41 : decode cX3_takeWord 41 = .ok (.putfield 35, 3) := by decide +kernel
theorem dX3_takeWord_44 : decode cX3_takeWord 44 = .ok (.return_, 1) := by decide +kernel
theorem dX3_takeNumber_0 : decode cX3_takeNumber 0 = .ok (.aload_n 0, 1) := by decide +kernel
theorem dX3_takeNumber_1 : decode cX3_takeNumber 1 = .ok (.iconst 0, 1) := by decide +kernel
theorem dX3_takeNumber_2 : decode cX3_takeNumber 2 = .ok (.putfield 82, 3) := by decide +kernel
theorem dX3_takeNumber_5 : decode cX3_takeNumber 5 = .ok (.aload_n 0, 1) := by decide +kernel
theorem dX3_takeNumber_6 : decode cX3_takeNumber 6 = .ok (.getfield 29, 3) := by decide +kernel
theorem dX3_takeNumber_9 : decode cX3_takeNumber 9 = .ok (.aload_n 0, 1) := by decide +kernel
theorem dX3_takeNumber_10 : decode cX3_takeNumber 10 = .ok (.getfield 22, 3) := by decide +kernel
theorem dX3_takeNumber_13 : decode cX3_takeNumber 13 = .ok (.if_icmp .ge 68, 3) := by decide +kernel
theorem dX3_takeNumber_16 : decode cX3_takeNumber 16 = .ok (.aload_n 0, 1) := by decide +kernel
theorem dX3_takeNumber_17 : decode cX3_takeNumber 17 = .ok (.getfield 9, 3) := by decide +kernel
theorem dX3_takeNumber_20 : decode cX3_takeNumber 20 = .ok (.aload_n 0, 1) := by decide +kernel
theorem dX3_takeNumber_21 : decode cX3_takeNumber 21 = .ok (.getfield 29, 3) := by decide +kernel
theorem dX3_takeNumber_24 : decode cX3_takeNumber 24 = .ok (.baload, 1) := by decide +kernel
theorem dX3_takeNumber_25 : decode cX3_takeNumber 25 = .ok (.invokestatic 126, 3) := by decide +kernel
theorem dX3_takeNumber_28 : decode cX3_takeNumber 28 = .ok (.ifCond .eq 53, 3) := by decide +kernel
theorem dX3_takeNumber_31 : decode cX3_takeNumber 31 = .ok (.aload_n 0, 1) := by decide +kernel
theorem dX3_takeNumber_32 : decode cX3_takeNumber 32 = .ok (.getfield 29, 3) := by decide +kernel
theorem dX3_takeNumber_35 : decode cX3_takeNumber 35 = .ok (.aload_n 0, 1) := by decide +kernel
theorem dX3_takeNumber_36 : decode cX3_takeNumber 36 = .ok (.getfield 116, 3) := by decide +kernel
theorem dX3_takeNumber_39 : decode cX3_takeNumber 39 = .ok (.isub, 1) := by decide +kernel
theorem dX3_takeNumber_40 : decode cX3_takeNumber 40 = .ok (.iconst 2, 1) := by decide +kernel
theorem dX3_takeNumber_41 : decode cX3_takeNumber 41 = .ok (.if_icmp .ge 27, 3) := by decide +kernel
theorem dX3_takeNumber_44 : decode cX3_takeNumber 44 = .ok (.aload_n 0, 1) := by decide +kernel
theorem dX3_takeNumber_45 : decode cX3_takeNumber 45 = .ok (.bipush 10, 2) := by decide +kernel
theorem dX3_takeNumber_47 : decode cX3_takeNumber 47 = .ok (.aload_n 0, 1) := by decide +kernel
theorem dX3_takeNumber_48 : decode cX3_takeNumber 48 = .ok (.getfield 82, 3) := by decide +kernel
theorem dX3_takeNumber_51 : decode cX3_takeNumber 51 = .ok (.imul, 1) := by decide +kernel
theorem dX3_takeNumber_52 : decode cX3_takeNumber 52 = .ok (.aload_n 0, 1) := by decide +kernel
theorem dX3_takeNumber_53 : decode cX3_takeNumber 53 = .ok (.getfield 9, 3) := by decide +kernel
theorem dX3_takeNumber_56 : decode cX3_takeNumber 56 = .ok (.aload_n 0, 1) := by decide +kernel
theorem dX3_takeNumber_57 : decode cX3_takeNumber 57 = .ok (.getfield 29, 3) := by decide +kernel
theorem dX3_takeNumber_60 : decode cX3_takeNumber 60 = .ok (.baload, 1) := by decide +kernel
theorem dX3_takeNumber_61 : decode cX3_takeNumber 61 = .ok (.iadd, 1) := by decide +kernel
theorem dX3_takeNumber_62 : decode cX3_takeNumber 62 = .ok (.bipush 48, 2) := by decide +kernel
theorem dX3_takeNumber_64 : decode cX3_takeNumber 64 = .ok (.isub, 1) := by decide +kernel
theorem dX3_takeNumber_65 : decode cX3_takeNumber 65 = .ok (.putfield 82, 3) := by decide +kernel
theorem dX3_takeNumber_68 : decode cX3_takeNumber 68 = .ok (.aload_n 0, 1) := by decide +kernel
theorem dX3_takeNumber_69 : decode cX3_takeNumber 69 = .ok (.dup, 1) := by decide +kernel
theorem dX3_takeNumber_70 : decode cX3_takeNumber 70 = .ok (.getfield 29, 3) := by decide +kernel
theorem dX3_takeNumber_73 : decode cX3_takeNumber 73 = .ok (.iconst 1, 1) := by decide +kernel
theorem dX3_takeNumber_74 : decode cX3_takeNumber 74 = .ok (.iadd, 1) := by decide +kernel
theorem dX3_takeNumber_75 : decode cX3_takeNumber 75 = .ok (.putfield 29, 3) := by decide +kernel
theorem dX3_takeNumber_78 : decode cX3_takeNumber 78 = .ok (.goto (-73), 3) := by decide +kernel
theorem dX3_takeNumber_81 : decode cX3_takeNumber 81 = .ok (.aload_n 0, 1) := by decide +kernel
theorem dX3_takeNumber_82 : decode cX3_takeNumber 82 = .ok (.aload_n 0, 1) := by decide +kernel
theorem dX3_takeNumber_83 : decode cX3_takeNumber 83 = .ok (.getfield 29, 3) := by decide +kernel
theorem dX3_takeNumber_86 : decode cX3_takeNumber 86 = .ok (.aload_n 0, 1) := by decide +kernel
theorem dX3_takeNumber_87 : decode cX3_takeNumber 87 = .ok (.getfield 116, 3) := by decide +kernel
theorem dX3_takeNumber_90 : decode cX3_takeNumber 90 = .ok (.isub, 1) := by decide +kernel
theorem dX3_takeNumber_91 : decode cX3_takeNumber 91 = .ok (.iconst 2, 1) := by decide +kernel
theorem dX3_takeNumber_92 : decode cX3_takeNumber 92 = .ok (.if_icmp .gt 7, 3) := by decide +kernel
theorem dX3_takeNumber_95 : decode cX3_takeNumber 95 = .ok (.iconst 2, 1) := by decide +kernel
theorem dX3_takeNumber_96 : decode cX3_takeNumber 96 = .ok (.goto 4, 3) := by decide +kernel
theorem dX3_takeNumber_99 : decode cX3_takeNumber 99 = .ok (.iconst 4, 1) := by decide +kernel
theorem dX3_takeNumber_100 : decode cX3_takeNumber 100 = .ok (.putfield 35, 3) := by decide +kernel
theorem dX3_takeNumber_103 : decode cX3_takeNumber 103 = .ok (.return_, 1) := by decide +kernel
theorem dX3_wordNumber_0 : decode cX3_wordNumber 0 = .ok (.aload_n 0, 1) := by decide +kernel
theorem dX3_wordNumber_1 : decode cX3_wordNumber 1 = .ok (.ldc 132, 2) := by decide +kernel
theorem dX3_wordNumber_3 : decode cX3_wordNumber 3 = .ok (.invokevirtual 134, 3) := by decide +kernel
theorem dX3_wordNumber_6 : decode cX3_wordNumber 6 = .ok (.ifCond .eq 5, 3) := by decide +kernel
theorem dX3_wordNumber_9 : decode cX3_wordNumber 9 = .ok (.iconst 0, 1) := by decide +kernel
theorem dX3_wordNumber_10 : decode cX3_wordNumber 10 = .ok (.ireturn, 1) := by decide +kernel
theorem dX3_wordNumber_11 : decode cX3_wordNumber 11 = .ok (.aload_n 0, 1) := by decide +kernel
theorem dX3_wordNumber_12 : decode cX3_wordNumber 12 = .ok (.ldc 138, 2) := by decide +kernel
theorem dX3_wordNumber_14 : decode cX3_wordNumber 14 = .ok (.invokevirtual 134, 3) := by decide +kernel
theorem dX3_wordNumber_17 : decode cX3_wordNumber 17 = .ok (.ifCond .eq 5, 3) := by decide +kernel
theorem dX3_wordNumber_20 : decode cX3_wordNumber 20 = .ok (.iconst 1, 1) := by decide +kernel
theorem dX3_wordNumber_21 : decode cX3_wordNumber 21 = .ok (.ireturn, 1) := by decide +kernel
theorem dX3_wordNumber_22 : decode cX3_wordNumber 22 = .ok (.aload_n 0, 1) := by decide +kernel
theorem dX3_wordNumber_23 : decode cX3_wordNumber 23 = .ok (.ldc 140, 2) := by decide +kernel
theorem dX3_wordNumber_25 : decode cX3_wordNumber 25 = .ok (.invokevirtual 134, 3) := by decide +kernel
theorem dX3_wordNumber_28 : decode cX3_wordNumber 28 = .ok (.ifCond .eq 5, 3) := by decide +kernel
theorem dX3_wordNumber_31 : decode cX3_wordNumber 31 = .ok (.iconst 2, 1) := by decide +kernel
theorem dX3_wordNumber_32 : decode cX3_wordNumber 32 = .ok (.ireturn, 1) := by decide +kernel
theorem dX3_wordNumber_33 : decode cX3_wordNumber 33 = .ok (.aload_n 0, 1) := by decide +kernel
theorem dX3_wordNumber_34 : decode cX3_wordNumber 34 = .ok (.ldc 142, 2) := by decide +kernel
theorem dX3_wordNumber_36 : decode cX3_wordNumber 36 = .ok (.invokevirtual 134, 3) := by decide +kernel
theorem dX3_wordNumber_39 : decode cX3_wordNumber 39 = .ok (.ifCond .eq 5, 3) := by decide +kernel
theorem dX3_wordNumber_42 : decode cX3_wordNumber 42 = .ok (.iconst 3, 1) := by decide +kernel
theorem dX3_wordNumber_43 : decode cX3_wordNumber 43 = .ok (.ireturn, 1) := by decide +kernel
theorem dX3_wordNumber_44 : decode cX3_wordNumber 44 = .ok (.aload_n 0, 1) := by decide +kernel
theorem dX3_wordNumber_45 : decode cX3_wordNumber 45 = .ok (.ldc 144, 2) := by decide +kernel
theorem dX3_wordNumber_47 : decode cX3_wordNumber 47 = .ok (.invokevirtual 134, 3) := by decide +kernel
theorem dX3_wordNumber_50 : decode cX3_wordNumber 50 = .ok (.ifCond .eq 5, 3) := by decide +kernel
theorem dX3_wordNumber_53 : decode cX3_wordNumber 53 = .ok (.iconst 4, 1) := by decide +kernel
theorem dX3_wordNumber_54 : decode cX3_wordNumber 54 = .ok (.ireturn, 1) := by decide +kernel
theorem dX3_wordNumber_55 : decode cX3_wordNumber 55 = .ok (.aload_n 0, 1) := by decide +kernel
theorem dX3_wordNumber_56 : decode cX3_wordNumber 56 = .ok (.ldc 146, 2) := by decide +kernel
theorem dX3_wordNumber_58 : decode cX3_wordNumber 58 = .ok (.invokevirtual 134, 3) := by decide +kernel
theorem dX3_wordNumber_61 : decode cX3_wordNumber 61 = .ok (.ifCond .eq 7, 3) := by decide +kernel
theorem dX3_wordNumber_64 : decode cX3_wordNumber 64 = .ok (.iconst 5, 1) := by decide +kernel
theorem dX3_wordNumber_65 : decode cX3_wordNumber 65 = .ok (.goto 4, 3) := by decide +kernel
theorem dX3_wordNumber_68 : decode cX3_wordNumber 68 = .ok (.iconst (-1), 1) := by decide +kernel
theorem dX3_wordNumber_69 : decode cX3_wordNumber 69 = .ok (.ireturn, 1) := by decide +kernel
theorem dX3_matches_0 : decode cX3_matches 0 = .ok (.aload_n 0, 1) := by decide +kernel
theorem dX3_matches_1 : decode cX3_matches 1 = .ok (.getfield 29, 3) := by decide +kernel
theorem dX3_matches_4 : decode cX3_matches 4 = .ok (.aload_n 0, 1) := by decide +kernel
theorem dX3_matches_5 : decode cX3_matches 5 = .ok (.getfield 116, 3) := by decide +kernel
theorem dX3_matches_8 : decode cX3_matches 8 = .ok (.isub, 1) := by decide +kernel
theorem dX3_matches_9 : decode cX3_matches 9 = .ok (.aload_n 1, 1) := by decide +kernel
theorem dX3_matches_10 : decode cX3_matches 10 = .ok (.invokevirtual 148, 3) := by decide +kernel
theorem dX3_matches_13 : decode cX3_matches 13 = .ok (.if_icmp .eq 5, 3) := by decide +kernel
theorem dX3_matches_16 : decode cX3_matches 16 = .ok (.iconst 0, 1) := by decide +kernel
theorem dX3_matches_17 : decode cX3_matches 17 = .ok (.ireturn, 1) := by decide +kernel
theorem dX3_matches_18 : decode cX3_matches 18 = .ok (.iconst 0, 1) := by decide +kernel
theorem dX3_matches_19 : decode cX3_matches 19 = .ok (.istore_n 2, 1) := by decide +kernel
theorem dX3_matches_20 : decode cX3_matches 20 = .ok (.iload_n 2, 1) := by decide +kernel
theorem dX3_matches_21 : decode cX3_matches 21 = .ok (.aload_n 1, 1) := by decide +kernel
theorem dX3_matches_22 : decode cX3_matches 22 = .ok (.invokevirtual 148, 3) := by decide +kernel
theorem dX3_matches_25 : decode cX3_matches 25 = .ok (.if_icmp .ge 30, 3) := by decide +kernel
theorem dX3_matches_28 : decode cX3_matches 28 = .ok (.aload_n 0, 1) := by decide +kernel
theorem dX3_matches_29 : decode cX3_matches 29 = .ok (.getfield 9, 3) := by decide +kernel
theorem dX3_matches_32 : decode cX3_matches 32 = .ok (.aload_n 0, 1) := by decide +kernel
theorem dX3_matches_33 : decode cX3_matches 33 = .ok (.getfield 116, 3) := by decide +kernel
theorem dX3_matches_36 : decode cX3_matches 36 = .ok (.iload_n 2, 1) := by decide +kernel
theorem dX3_matches_37 : decode cX3_matches 37 = .ok (.iadd, 1) := by decide +kernel
theorem dX3_matches_38 : decode cX3_matches 38 = .ok (.baload, 1) := by decide +kernel
theorem dX3_matches_39 : decode cX3_matches 39 = .ok (.aload_n 1, 1) := by decide +kernel
theorem dX3_matches_40 : decode cX3_matches 40 = .ok (.iload_n 2, 1) := by decide +kernel
theorem dX3_matches_41 : decode cX3_matches 41 = .ok (.invokevirtual 152, 3) := by decide +kernel
theorem dX3_matches_44 : decode cX3_matches 44 = .ok (.if_icmp .eq 5, 3) := by decide +kernel
theorem dX3_matches_47 : decode cX3_matches 47 = .ok (.iconst 0, 1) := by decide +kernel
theorem dX3_matches_48 : decode cX3_matches 48 = .ok (.ireturn, 1) := by decide +kernel
theorem dX3_matches_49 : decode cX3_matches 49 = .ok (.iinc 2 1, 3) := by decide +kernel
theorem dX3_matches_52 : decode cX3_matches 52 = .ok (.goto (-32), 3) := by decide +kernel
theorem dX3_matches_55 : decode cX3_matches 55 = .ok (.iconst 1, 1) := by decide +kernel
theorem dX3_matches_56 : decode cX3_matches 56 = .ok (.ireturn, 1) := by decide +kernel
theorem dX3_isLetter_0 : decode cX3_isLetter 0 = .ok (.iload_n 0, 1) := by decide +kernel
theorem dX3_isLetter_1 : decode cX3_isLetter 1 = .ok (.bipush 97, 2) := by decide +kernel
theorem dX3_isLetter_3 : decode cX3_isLetter 3 = .ok (.if_icmp .lt 13, 3) := by decide +kernel
theorem dX3_isLetter_6 : decode cX3_isLetter 6 = .ok (.iload_n 0, 1) := by decide +kernel
theorem dX3_isLetter_7 : decode cX3_isLetter 7 = .ok (.bipush 122, 2) := by decide +kernel
theorem dX3_isLetter_9 : decode cX3_isLetter 9 = .ok (.if_icmp .gt 7, 3) := by decide +kernel
theorem dX3_isLetter_12 : decode cX3_isLetter 12 = .ok (.iconst 1, 1) := by decide +kernel
theorem dX3_isLetter_13 : decode cX3_isLetter 13 = .ok (.goto 4, 3) := by decide +kernel
theorem dX3_isLetter_16 : decode cX3_isLetter 16 = .ok (.iconst 0, 1) := by decide +kernel
theorem dX3_isLetter_17 : decode cX3_isLetter 17 = .ok (.ireturn, 1) := by decide +kernel
theorem dX3_isFigure_0 : decode cX3_isFigure 0 = .ok (.iload_n 0, 1) := by decide +kernel
theorem dX3_isFigure_1 : decode cX3_isFigure 1 = .ok (.bipush 48, 2) := by decide +kernel
theorem dX3_isFigure_3 : decode cX3_isFigure 3 = .ok (.if_icmp .lt 13, 3) := by decide +kernel
theorem dX3_isFigure_6 : decode cX3_isFigure 6 = .ok (.iload_n 0, 1) := by decide +kernel
theorem dX3_isFigure_7 : decode cX3_isFigure 7 = .ok (.bipush 57, 2) := by decide +kernel
theorem dX3_isFigure_9 : decode cX3_isFigure 9 = .ok (.if_icmp .gt 7, 3) := by decide +kernel
theorem dX3_isFigure_12 : decode cX3_isFigure 12 = .ok (.iconst 1, 1) := by decide +kernel
theorem dX3_isFigure_13 : decode cX3_isFigure 13 = .ok (.goto 4, 3) := by decide +kernel
theorem dX3_isFigure_16 : decode cX3_isFigure 16 = .ok (.iconst 0, 1) := by decide +kernel
theorem dX3_isFigure_17 : decode cX3_isFigure 17 = .ok (.ireturn, 1) := by decide +kernel
theorem dX5_init_0 : decode cX5_init 0 = .ok (.aload_n 0, 1) := by decide +kernel
theorem dX5_init_1 : decode cX5_init 1 = .ok (.invokespecial 5, 3) := by decide +kernel
theorem dX5_init_4 : decode cX5_init 4 = .ok (.aload_n 0, 1) := by decide +kernel
theorem dX5_init_5 : decode cX5_init 5 = .ok (.sipush 768, 3) := by decide +kernel
theorem dX5_init_8 : decode cX5_init 8 = .ok (.newarray .int, 2) := by decide +kernel
theorem dX5_init_10 : decode cX5_init 10 = .ok (.putfield 11, 3) := by decide +kernel
theorem dX5_init_13 : decode cX5_init 13 = .ok (.aload_n 0, 1) := by decide +kernel
theorem dX5_init_14 : decode cX5_init 14 = .ok (.sipush 768, 3) := by decide +kernel
theorem dX5_init_17 : decode cX5_init 17 = .ok (.newarray .int, 2) := by decide +kernel
theorem dX5_init_19 : decode cX5_init 19 = .ok (.putfield 15, 3) := by decide +kernel
theorem dX5_init_22 : decode cX5_init 22 = .ok (.aload_n 0, 1) := by decide +kernel
theorem dX5_init_23 : decode cX5_init 23 = .ok (.sipush 768, 3) := by decide +kernel
theorem dX5_init_26 : decode cX5_init 26 = .ok (.newarray .long, 2) := by decide +kernel
theorem dX5_init_28 : decode cX5_init 28 = .ok (.putfield 18, 3) := by decide +kernel
theorem dX5_init_31 : decode cX5_init 31 = .ok (.aload_n 0, 1) := by decide +kernel
theorem dX5_init_32 : decode cX5_init 32 = .ok (.sipush 768, 3) := by decide +kernel
theorem dX5_init_35 : decode cX5_init 35 = .ok (.newarray .long, 2) := by decide +kernel
theorem dX5_init_37 : decode cX5_init 37 = .ok (.putfield 22, 3) := by decide +kernel
theorem dX5_init_40 : decode cX5_init 40 = .ok (.aload_n 0, 1) := by decide +kernel
theorem dX5_init_41 : decode cX5_init 41 = .ok (.sipush 768, 3) := by decide +kernel
theorem dX5_init_44 : decode cX5_init 44 = .ok (.newarray .int, 2) := by decide +kernel
theorem dX5_init_46 : decode cX5_init 46 = .ok (.putfield 25, 3) := by decide +kernel
theorem dX5_init_49 : decode cX5_init 49 = .ok (.aload_n 0, 1) := by decide +kernel
theorem dX5_init_50 : decode cX5_init 50 = .ok (.bipush 6, 2) := by decide +kernel
theorem dX5_init_52 : decode cX5_init 52 = .ok (.newarray .int, 2) := by decide +kernel
theorem dX5_init_54 : decode cX5_init 54 = .ok (.putfield 28, 3) := by decide +kernel
theorem dX5_init_57 : decode cX5_init 57 = .ok (.aload_n 0, 1) := by decide +kernel
theorem dX5_init_58 : decode cX5_init 58 = .ok (.bipush 12, 2) := by decide +kernel
theorem dX5_init_60 : decode cX5_init 60 = .ok (.newarray .int, 2) := by decide +kernel
theorem dX5_init_62 : decode cX5_init 62 = .ok (.putfield 31, 3) := by decide +kernel
theorem dX5_init_65 : decode cX5_init 65 = .ok (.return_, 1) := by decide +kernel
theorem dX5_find_0 : decode cX5_find 0 = .ok (.iconst 0, 1) := by decide +kernel
theorem dX5_find_1 : decode cX5_find 1 = .ok (.istore_n 3, 1) := by decide +kernel
theorem dX5_find_2 : decode cX5_find 2 = .ok (.iconst 0, 1) := by decide +kernel
theorem dX5_find_3 : decode cX5_find 3 = .ok (.istore 4, 2) := by decide +kernel
theorem dX5_find_5 : decode cX5_find 5 = .ok (.iload 4, 2) := by decide +kernel
theorem dX5_find_7 : decode cX5_find 7 = .ok (.aload_n 1, 1) := by decide +kernel
theorem dX5_find_8 : decode cX5_find 8 = .ok (.getfield 34, 3) := by decide +kernel
theorem dX5_find_11 : decode cX5_find 11 = .ok (.if_icmp .ge 51, 3) := by decide +kernel
theorem dX5_find_14 : decode cX5_find 14 = .ok (.aload_n 0, 1) := by decide +kernel
theorem dX5_find_15 : decode cX5_find 15 = .ok (.getfield 28, 3) := by decide +kernel
theorem dX5_find_18 : decode cX5_find 18 = .ok (.iload 4, 2) := by decide +kernel
theorem dX5_find_20 : decode cX5_find 20 = .ok (.aload_n 1, 1) := by decide +kernel
theorem dX5_find_21 : decode cX5_find 21 = .ok (.getfield 40, 3) := by decide +kernel
theorem dX5_find_24 : decode cX5_find 24 = .ok (.getfield 44, 3) := by decide +kernel
theorem dX5_find_27 : decode cX5_find 27 = .ok (.iload 4, 2) := by decide +kernel
theorem dX5_find_29 : decode cX5_find 29 = .ok (.iaload, 1) := by decide +kernel
theorem dX5_find_30 : decode cX5_find 30 = .ok (.iastore, 1) := by decide +kernel
theorem dX5_find_31 : decode cX5_find 31 = .ok (.iload_n 2, 1) := by decide +kernel
theorem dX5_find_32 : decode cX5_find 32 = .ok (.iload 4, 2) := by decide +kernel
theorem dX5_find_34 : decode cX5_find 34 = .ok (.invokestatic 47, 3) := by decide +kernel
theorem dX5_find_37 : decode cX5_find 37 = .ok (.ifCond .eq 19, 3) := by decide +kernel
theorem dX5_find_40 : decode cX5_find 40 = .ok (.aload_n 1, 1) := by decide +kernel
theorem dX5_find_41 : decode cX5_find 41 = .ok (.iload 4, 2) := by decide +kernel
theorem dX5_find_43 : decode cX5_find 43 = .ok (.invokevirtual 51, 3) := by decide +kernel
theorem dX5_find_46 : decode cX5_find 46 = .ok (.ifCond .eq 10, 3) := by decide +kernel
theorem dX5_find_49 : decode cX5_find 49 = .ok (.iload_n 3, 1) := by decide +kernel
theorem dX5_find_50 : decode cX5_find 50 = .ok (.iconst 1, 1) := by decide +kernel
theorem dX5_find_51 : decode cX5_find 51 = .ok (.iload 4, 2) := by decide +kernel
theorem dX5_find_53 : decode cX5_find 53 = .ok (.ishl, 1) := by decide +kernel
theorem dX5_find_54 : decode cX5_find 54 = .ok (.ior, 1) := by decide +kernel
theorem dX5_find_55 : decode cX5_find 55 = .ok (.istore_n 3, 1) := by decide +kernel
theorem dX5_find_56 : decode cX5_find 56 = .ok (.iinc 4 1, 3) := by decide +kernel
theorem dX5_find_59 : decode cX5_find 59 = .ok (.goto (-54), 3) := by decide +kernel
theorem dX5_find_62 : decode cX5_find 62 = .ok (.aload_n 0, 1) := by decide +kernel
theorem dX5_find_63 : decode cX5_find 63 = .ok (.lconst 0, 1) := by decide +kernel
theorem dX5_find_64 : decode cX5_find 64 = .ok (.putfield 55, 3) := by decide +kernel
theorem dX5_find_67 : decode cX5_find 67 = .ok (.aload_n 0, 1) := by decide +kernel
theorem dX5_find_68 : decode cX5_find 68 = .ok (.getfield 11, 3) := by decide +kernel
theorem dX5_find_71 : decode cX5_find 71 = .ok (.iconst 0, 1) := by decide +kernel
theorem dX5_find_72 : decode cX5_find 72 = .ok (.aload_n 1, 1) := by decide +kernel
theorem dX5_find_73 : decode cX5_find 73 = .ok (.getfield 40, 3) := by decide +kernel
theorem dX5_find_76 : decode cX5_find 76 = .ok (.getfield 59, 3) := by decide +kernel
theorem dX5_find_79 : decode cX5_find 79 = .ok (.bipush 64, 2) := by decide +kernel
theorem dX5_find_81 : decode cX5_find 81 = .ok (.imul, 1) := by decide +kernel
theorem dX5_find_82 : decode cX5_find 82 = .ok (.iload_n 3, 1) := by decide +kernel
theorem dX5_find_83 : decode cX5_find 83 = .ok (.iadd, 1) := by decide +kernel
theorem dX5_find_84 : decode cX5_find 84 = .ok (.iastore, 1) := by decide +kernel
theorem dX5_find_85 : decode cX5_find 85 = .ok (.aload_n 0, 1) := by decide +kernel
theorem dX5_find_86 : decode cX5_find 86 = .ok (.getfield 18, 3) := by decide +kernel
theorem dX5_find_89 : decode cX5_find 89 = .ok (.iconst 0, 1) := by decide +kernel
theorem dX5_find_90 : decode cX5_find 90 = .ok (.lconst 0, 1) := by decide +kernel
theorem dX5_find_91 : decode cX5_find 91 = .ok (.lastore, 1) := by decide +kernel
theorem dX5_find_92 : decode cX5_find 92 = .ok (.aload_n 0, 1) := by decide +kernel
theorem dX5_find_93 : decode cX5_find 93 = .ok (.iconst 1, 1) := by decide +kernel
theorem dX5_find_94 : decode cX5_find 94 = .ok (.putfield 62, 3) := by decide +kernel
theorem dX5_find_97 : decode cX5_find 97 = .ok (.iload_n 3, 1) := by decide +kernel
theorem dX5_find_98 : decode cX5_find 98 = .ok (.ifCond .ne 7, 3) := by decide +kernel
theorem dX5_find_101 : decode cX5_find 101 = .ok (.iconst 1, 1) := by decide +kernel
theorem dX5_find_102 : decode cX5_find 102 = .ok (.goto 4, 3) := by decide +kernel
theorem dX5_find_105 : decode cX5_find 105 = .ok (.iconst 0, 1) := by decide +kernel
theorem dX5_find_106 : decode cX5_find 106 = .ok (.istore 4, 2) := by decide +kernel
theorem dX5_find_108 : decode cX5_find 108 = .ok (.aload_n 0, 1) := by decide +kernel
theorem dX5_find_109 : decode cX5_find 109 = .ok (.iconst 0, 1) := by decide +kernel
theorem dX5_find_110 : decode cX5_find 110 = .ok (.putfield 65, 3) := by decide +kernel
theorem dX5_find_113 : decode cX5_find 113 = .ok (.aload_n 0, 1) := by decide +kernel
theorem dX5_find_114 : decode cX5_find 114 = .ok (.getfield 65, 3) := by decide +kernel
theorem dX5_find_117 : decode cX5_find 117 = .ok (.bipush 20, 2) := by decide +kernel
theorem dX5_find_119 : decode cX5_find 119 = .ok (.if_icmp .ge 39, 3) := by decide +kernel
theorem dX5_find_122 : decode cX5_find 122 = .ok (.iload 4, 2) := by decide +kernel
theorem dX5_find_124 : decode cX5_find 124 = .ok (.ifCond .ne 34, 3) := by decide +kernel
theorem dX5_find_127 : decode cX5_find 127 = .ok (.aload_n 0, 1) := by decide +kernel
theorem dX5_find_128 : decode cX5_find 128 = .ok (.aload_n 1, 1) := by decide +kernel
theorem dX5_find_129 : decode cX5_find 129 = .ok (.iload_n 3, 1) := by decide +kernel
theorem dX5_find_130 : decode cX5_find 130 = .ok (.invokevirtual 68, 3) := by decide +kernel
theorem dX5_find_133 : decode cX5_find 133 = .ok (.aload_n 0, 1) := by decide +kernel
theorem dX5_find_134 : decode cX5_find 134 = .ok (.invokevirtual 72, 3) := by decide +kernel
theorem dX5_find_137 : decode cX5_find 137 = .ok (.istore 4, 2) := by decide +kernel
theorem dX5_find_139 : decode cX5_find 139 = .ok (.aload_n 0, 1) := by decide +kernel
theorem dX5_find_140 : decode cX5_find 140 = .ok (.aload_n 1, 1) := by decide +kernel
theorem dX5_find_141 : decode cX5_find 141 = .ok (.iload_n 3, 1) := by decide +kernel
theorem dX5_find_142 : decode cX5_find 142 = .ok (.invokevirtual 76, 3) := by decide +kernel
theorem dX5_find_145 : decode cX5_find 145 = .ok (.aload_n 0, 1) := by decide +kernel
theorem dX5_find_146 : decode cX5_find 146 = .ok (.dup, 1) := by decide +kernel
theorem dX5_find_147 : decode cX5_find 147 = .ok (.getfield 65, 3) := by decide +kernel
theorem dX5_find_150 : decode cX5_find 150 = .ok (.iconst 1, 1) := by decide +kernel
theorem dX5_find_151 : decode cX5_find 151 = .ok (.iadd, 1) := by decide +kernel
theorem dX5_find_152 : decode cX5_find 152 = .ok (.putfield 65, 3) := by decide +kernel
theorem dX5_find_155 : decode cX5_find 155 = .ok (.goto (-42), 3) := by decide +kernel
theorem dX5_find_158 : decode cX5_find 158 = .ok (.iload 4, 2) := by decide +kernel
theorem dX5_find_160 : decode cX5_find 160 = .ok (.ireturn, 1) := by decide +kernel
theorem dX5_stepAt_0 : decode cX5_stepAt 0 = .ok (.aload_n 0, 1) := by decide +kernel
theorem dX5_stepAt_1 : decode cX5_stepAt 1 = .ok (.getfield 55, 3) := by decide +kernel
theorem dX5_stepAt_4 : decode cX5_stepAt 4 = .ok (.lstore_n 2, 1) := by decide +kernel
theorem dX5_stepAt_5 : decode cX5_stepAt 5 = .ok (.aload_n 0, 1) := by decide +kernel
theorem dX5_stepAt_6 : decode cX5_stepAt 6 = .ok (.getfield 65, 3) := by decide +kernel
theorem dX5_stepAt_9 : decode cX5_stepAt 9 = .ok (.iconst 1, 1) := by decide +kernel
theorem dX5_stepAt_10 : decode cX5_stepAt 10 = .ok (.isub, 1) := by decide +kernel
theorem dX5_stepAt_11 : decode cX5_stepAt 11 = .ok (.istore 4, 2) := by decide +kernel
theorem dX5_stepAt_13 : decode cX5_stepAt 13 = .ok (.iload 4, 2) := by decide +kernel
theorem dX5_stepAt_15 : decode cX5_stepAt 15 = .ok (.iload_n 1, 1) := by decide +kernel
theorem dX5_stepAt_16 : decode cX5_stepAt 16 = .ok (.if_icmp .le 15, 3) := by decide +kernel
theorem dX5_stepAt_19 : decode cX5_stepAt 19 = .ok (.lload_n 2, 1) := by decide +kernel
theorem dX5_stepAt_20 : decode cX5_stepAt 20 = .ok (.ldc2_w 79, 3) := by decide +kernel
theorem dX5_stepAt_23 : decode cX5_stepAt 23 = .ok (.ldiv, 1) := by decide +kernel
theorem dX5_stepAt_24 : decode cX5_stepAt 24 = .ok (.lstore_n 2, 1) := by decide +kernel
theorem dX5_stepAt_25 : decode cX5_stepAt 25 = .ok (.iinc 4 (-1), 3) := by decide +kernel
theorem dX5_stepAt_28 : decode cX5_stepAt 28 = .ok (.goto (-15), 3) := by decide +kernel
theorem dX5_stepAt_31 : decode cX5_stepAt 31 = .ok (.lload_n 2, 1) := by decide +kernel
theorem dX5_stepAt_32 : decode cX5_stepAt 32 = .ok (.ldc2_w 79, 3) := by decide +kernel
theorem dX5_stepAt_35 : decode cX5_stepAt 35 = .ok (.lrem, 1) := by decide +kernel
theorem dX5_stepAt_36 : decode cX5_stepAt 36 = .ok (.l2i, 1) := by decide +kernel
theorem dX5_stepAt_37 : decode cX5_stepAt 37 = .ok (.ireturn, 1) := by decide +kernel
theorem dX5_layOut_0 : decode cX5_layOut 0 = .ok (.iconst 0, 1) := by decide +kernel
theorem dX5_layOut_1 : decode cX5_layOut 1 = .ok (.istore_n 3, 1) := by decide +kernel
theorem dX5_layOut_2 : decode cX5_layOut 2 = .ok (.iload_n 3, 1) := by decide +kernel
theorem dX5_layOut_3 : decode cX5_layOut 3 = .ok (.bipush 12, 2) := by decide +kernel
theorem dX5_layOut_5 : decode cX5_layOut 5 = .ok (.if_icmp .ge 16, 3) := by decide +kernel
theorem dX5_layOut_8 : decode cX5_layOut 8 = .ok (.aload_n 0, 1) := by decide +kernel
theorem dX5_layOut_9 : decode cX5_layOut 9 = .ok (.getfield 31, 3) := by decide +kernel
theorem dX5_layOut_12 : decode cX5_layOut 12 = .ok (.iload_n 3, 1) := by decide +kernel
theorem dX5_layOut_13 : decode cX5_layOut 13 = .ok (.iconst 0, 1) := by decide +kernel
theorem dX5_layOut_14 : decode cX5_layOut 14 = .ok (.iastore, 1) := by decide +kernel
theorem dX5_layOut_15 : decode cX5_layOut 15 = .ok (.iinc 3 1, 3) := by decide +kernel
theorem dX5_layOut_18 : decode cX5_layOut 18 = .ok (.goto (-16), 3) := by decide +kernel
theorem dX5_layOut_21 : decode cX5_layOut 21 = .ok (.iconst 0, 1) := by decide +kernel
theorem dX5_layOut_22 : decode cX5_layOut 22 = .ok (.istore_n 3, 1) := by decide +kernel
theorem dX5_layOut_23 : decode cX5_layOut 23 = .ok (.iload_n 3, 1) := by decide +kernel
theorem dX5_layOut_24 : decode cX5_layOut 24 = .ok (.aload_n 1, 1) := by decide +kernel
theorem dX5_layOut_25 : decode cX5_layOut 25 = .ok (.getfield 34, 3) := by decide +kernel
theorem dX5_layOut_28 : decode cX5_layOut 28 = .ok (.if_icmp .ge 34, 3) := by decide +kernel
theorem dX5_layOut_31 : decode cX5_layOut 31 = .ok (.iload_n 2, 1) := by decide +kernel
theorem dX5_layOut_32 : decode cX5_layOut 32 = .ok (.iload_n 3, 1) := by decide +kernel
theorem dX5_layOut_33 : decode cX5_layOut 33 = .ok (.invokestatic 47, 3) := by decide +kernel
theorem dX5_layOut_36 : decode cX5_layOut 36 = .ok (.ifCond .eq 20, 3) := by decide +kernel
theorem dX5_layOut_39 : decode cX5_layOut 39 = .ok (.aload_n 0, 1) := by decide +kernel
theorem dX5_layOut_40 : decode cX5_layOut 40 = .ok (.getfield 31, 3) := by decide +kernel
theorem dX5_layOut_43 : decode cX5_layOut 43 = .ok (.aload_n 0, 1) := by decide +kernel
theorem dX5_layOut_44 : decode cX5_layOut 44 = .ok (.getfield 28, 3) := by decide +kernel
theorem dX5_layOut_47 : decode cX5_layOut 47 = .ok (.iload_n 3, 1) := by decide +kernel
theorem dX5_layOut_48 : decode cX5_layOut 48 = .ok (.iaload, 1) := by decide +kernel
theorem dX5_layOut_49 : decode cX5_layOut 49 = .ok (.dup2, 1) := by decide +kernel
theorem dX5_layOut_50 : decode cX5_layOut 50 = .ok (.iaload, 1) := by decide +kernel
theorem dX5_layOut_51 : decode cX5_layOut 51 = .ok (.iconst 1, 1) := by decide +kernel
theorem dX5_layOut_52 : decode cX5_layOut 52 = .ok (.iload_n 3, 1) := by decide +kernel
theorem dX5_layOut_53 : decode cX5_layOut 53 = .ok (.ishl, 1) := by decide +kernel
theorem dX5_layOut_54 : decode cX5_layOut 54 = .ok (.ior, 1) := by decide +kernel
theorem dX5_layOut_55 : decode cX5_layOut 55 = .ok (.iastore, 1) := by decide +kernel
theorem dX5_layOut_56 : decode cX5_layOut 56 = .ok (.iinc 3 1, 3) := by decide +kernel
theorem dX5_layOut_59 : decode cX5_layOut 59 = .ok (.goto (-36), 3) := by decide +kernel
theorem dX5_layOut_62 : decode cX5_layOut 62 = .ok (.return_, 1) := by decide +kernel
theorem dX5_stepOn_0 : decode cX5_stepOn 0 = .ok (.aload_n 0, 1) := by decide +kernel
theorem dX5_stepOn_1 : decode cX5_stepOn 1 = .ok (.dup, 1) := by decide +kernel
theorem dX5_stepOn_2 : decode cX5_stepOn 2 = .ok (.getfield 81, 3) := by decide +kernel
theorem dX5_stepOn_5 : decode cX5_stepOn 5 = .ok (.iconst 1, 1) := by decide +kernel
theorem dX5_stepOn_6 : decode cX5_stepOn 6 = .ok (.iadd, 1) := by decide +kernel
theorem dX5_stepOn_7 : decode cX5_stepOn 7 = .ok (.putfield 81, 3) := by decide +kernel
theorem dX5_stepOn_10 : decode cX5_stepOn 10 = .ok (.iconst 0, 1) := by decide +kernel
theorem dX5_stepOn_11 : decode cX5_stepOn 11 = .ok (.istore_n 1, 1) := by decide +kernel
theorem dX5_stepOn_12 : decode cX5_stepOn 12 = .ok (.iconst 0, 1) := by decide +kernel
theorem dX5_stepOn_13 : decode cX5_stepOn 13 = .ok (.istore_n 2, 1) := by decide +kernel
theorem dX5_stepOn_14 : decode cX5_stepOn 14 = .ok (.iload_n 2, 1) := by decide +kernel
theorem dX5_stepOn_15 : decode cX5_stepOn 15 = .ok (.aload_n 0, 1) := by decide +kernel
theorem dX5_stepOn_16 : decode cX5_stepOn 16 = .ok (.getfield 62, 3) := by decide +kernel
theorem dX5_stepOn_19 : decode cX5_stepOn 19 = .ok (.if_icmp .ge 163, 3) := by decide +kernel
theorem dX5_stepOn_22 : decode cX5_stepOn 22 = .ok (.aload_n 0, 1) := by decide +kernel
theorem dX5_stepOn_23 : decode cX5_stepOn 23 = .ok (.getfield 11, 3) := by decide +kernel
theorem dX5_stepOn_26 : decode cX5_stepOn 26 = .ok (.iload_n 2, 1) := by decide +kernel
theorem dX5_stepOn_27 : decode cX5_stepOn 27 = .ok (.iaload, 1) := by decide +kernel
theorem dX5_stepOn_28 : decode cX5_stepOn 28 = .ok (.bipush 64, 2) := by decide +kernel
theorem dX5_stepOn_30 : decode cX5_stepOn 30 = .ok (.idiv, 1) := by decide +kernel
theorem dX5_stepOn_31 : decode cX5_stepOn 31 = .ok (.istore_n 3, 1) := by decide +kernel
theorem dX5_stepOn_32 : decode cX5_stepOn 32 = .ok (.iconst 0, 1) := by decide +kernel
theorem dX5_stepOn_33 : decode cX5_stepOn 33 = .ok (.istore 4, 2) := by decide +kernel
theorem dX5_stepOn_35 : decode cX5_stepOn 35 = .ok (.iload 4, 2) := by decide +kernel
theorem dX5_stepOn_37 : decode cX5_stepOn 37 = .ok (.iconst 2, 1) := by decide +kernel
theorem dX5_stepOn_38 : decode cX5_stepOn 38 = .ok (.if_icmp .gt 138, 3) := by decide +kernel
theorem dX5_stepOn_41 : decode cX5_stepOn 41 = .ok (.iconst 0, 1) := by decide +kernel
theorem dX5_stepOn_42 : decode cX5_stepOn 42 = .ok (.bipush 11, 2) := by decide +kernel
theorem dX5_stepOn_44 : decode cX5_stepOn 44 = .ok (.iload_n 3, 1) := by decide +kernel
theorem dX5_stepOn_45 : decode cX5_stepOn 45 = .ok (.iload 4, 2) := by decide +kernel
theorem dX5_stepOn_47 : decode cX5_stepOn 47 = .ok (.iadd, 1) := by decide +kernel
theorem dX5_stepOn_48 : decode cX5_stepOn 48 = .ok (.iconst 1, 1) := by decide +kernel
theorem dX5_stepOn_49 : decode cX5_stepOn 49 = .ok (.isub, 1) := by decide +kernel
theorem dX5_stepOn_50 : decode cX5_stepOn 50 = .ok (.invokestatic 84, 3) := by decide +kernel
theorem dX5_stepOn_53 : decode cX5_stepOn 53 = .ok (.invokestatic 90, 3) := by decide +kernel
theorem dX5_stepOn_56 : decode cX5_stepOn 56 = .ok (.istore 5, 2) := by decide +kernel
theorem dX5_stepOn_58 : decode cX5_stepOn 58 = .ok (.aload_n 0, 1) := by decide +kernel
theorem dX5_stepOn_59 : decode cX5_stepOn 59 = .ok (.getfield 11, 3) := by decide +kernel
theorem dX5_stepOn_62 : decode cX5_stepOn 62 = .ok (.iload_n 2, 1) := by decide +kernel
theorem dX5_stepOn_63 : decode cX5_stepOn 63 = .ok (.iaload, 1) := by decide +kernel
theorem dX5_stepOn_64 : decode cX5_stepOn 64 = .ok (.bipush 64, 2) := by decide +kernel
theorem dX5_stepOn_66 : decode cX5_stepOn 66 = .ok (.irem, 1) := by decide +kernel
theorem dX5_stepOn_67 : decode cX5_stepOn 67 = .ok (.aload_n 0, 1) := by decide +kernel
theorem dX5_stepOn_68 : decode cX5_stepOn 68 = .ok (.getfield 31, 3) := by decide +kernel
theorem dX5_stepOn_71 : decode cX5_stepOn 71 = .ok (.iload 5, 2) := by decide +kernel
theorem dX5_stepOn_73 : decode cX5_stepOn 73 = .ok (.iaload, 1) := by decide +kernel
theorem dX5_stepOn_74 : decode cX5_stepOn 74 = .ok (.iconst (-1), 1) := by decide +kernel
theorem dX5_stepOn_75 : decode cX5_stepOn 75 = .ok (.ixor, 1) := by decide +kernel
theorem dX5_stepOn_76 : decode cX5_stepOn 76 = .ok (.iand, 1) := by decide +kernel
theorem dX5_stepOn_77 : decode cX5_stepOn 77 = .ok (.istore 6, 2) := by decide +kernel
theorem dX5_stepOn_79 : decode cX5_stepOn 79 = .ok (.iload 5, 2) := by decide +kernel
theorem dX5_stepOn_81 : decode cX5_stepOn 81 = .ok (.bipush 64, 2) := by decide +kernel
theorem dX5_stepOn_83 : decode cX5_stepOn 83 = .ok (.imul, 1) := by decide +kernel
theorem dX5_stepOn_84 : decode cX5_stepOn 84 = .ok (.iload 6, 2) := by decide +kernel
theorem dX5_stepOn_86 : decode cX5_stepOn 86 = .ok (.iadd, 1) := by decide +kernel
theorem dX5_stepOn_87 : decode cX5_stepOn 87 = .ok (.istore 7, 2) := by decide +kernel
theorem dX5_stepOn_89 : decode cX5_stepOn 89 = .ok (.iload 6, 2) := by decide +kernel
theorem dX5_stepOn_91 : decode cX5_stepOn 91 = .ok (.ifCond .ne 23, 3) := by decide +kernel
theorem dX5_stepOn_94 : decode cX5_stepOn 94 = .ok (.aload_n 0, 1) := by decide +kernel
theorem dX5_stepOn_95 : decode cX5_stepOn 95 = .ok (.aload_n 0, 1) := by decide +kernel
theorem dX5_stepOn_96 : decode cX5_stepOn 96 = .ok (.getfield 18, 3) := by decide +kernel
theorem dX5_stepOn_99 : decode cX5_stepOn 99 = .ok (.iload_n 2, 1) := by decide +kernel
theorem dX5_stepOn_100 : decode cX5_stepOn 100 = .ok (.laload, 1) := by decide +kernel
theorem dX5_stepOn_101 : decode cX5_stepOn 101 = .ok (.ldc2_w 79, 3) := by decide +kernel
theorem dX5_stepOn_104 : decode cX5_stepOn 104 = .ok (.lmul, 1) := by decide +kernel
theorem dX5_stepOn_105 : decode cX5_stepOn 105 = .ok (.iload 4, 2) := by decide +kernel
theorem dX5_stepOn_107 : decode cX5_stepOn 107 = .ok (.i2l, 1) := by decide +kernel
theorem dX5_stepOn_108 : decode cX5_stepOn 108 = .ok (.ladd, 1) := by decide +kernel
theorem dX5_stepOn_109 : decode cX5_stepOn 109 = .ok (.putfield 55, 3) := by decide +kernel
theorem dX5_stepOn_112 : decode cX5_stepOn 112 = .ok (.iconst 1, 1) := by decide +kernel
theorem dX5_stepOn_113 : decode cX5_stepOn 113 = .ok (.ireturn, 1) := by decide +kernel
theorem dX5_stepOn_114 : decode cX5_stepOn 114 = .ok (.aload_n 0, 1) := by decide +kernel
theorem dX5_stepOn_115 : decode cX5_stepOn 115 = .ok (.getfield 25, 3) := by decide +kernel
theorem dX5_stepOn_118 : decode cX5_stepOn 118 = .ok (.iload 7, 2) := by decide +kernel
theorem dX5_stepOn_120 : decode cX5_stepOn 120 = .ok (.iaload, 1) := by decide +kernel
theorem dX5_stepOn_121 : decode cX5_stepOn 121 = .ok (.aload_n 0, 1) := by decide +kernel
theorem dX5_stepOn_122 : decode cX5_stepOn 122 = .ok (.getfield 81, 3) := by decide +kernel
theorem dX5_stepOn_125 : decode cX5_stepOn 125 = .ok (.if_icmp .eq 45, 3) := by decide +kernel
theorem dX5_stepOn_128 : decode cX5_stepOn 128 = .ok (.aload_n 0, 1) := by decide +kernel
theorem dX5_stepOn_129 : decode cX5_stepOn 129 = .ok (.getfield 25, 3) := by decide +kernel
theorem dX5_stepOn_132 : decode cX5_stepOn 132 = .ok (.iload 7, 2) := by decide +kernel
theorem dX5_stepOn_134 : decode cX5_stepOn 134 = .ok (.aload_n 0, 1) := by decide +kernel
theorem dX5_stepOn_135 : decode cX5_stepOn 135 = .ok (.getfield 81, 3) := by decide +kernel
theorem dX5_stepOn_138 : decode cX5_stepOn 138 = .ok (.iastore, 1) := by decide +kernel
theorem dX5_stepOn_139 : decode cX5_stepOn 139 = .ok (.aload_n 0, 1) := by decide +kernel
theorem dX5_stepOn_140 : decode cX5_stepOn 140 = .ok (.getfield 15, 3) := by decide +kernel
theorem dX5_stepOn_143 : decode cX5_stepOn 143 = .ok (.iload_n 1, 1) := by decide +kernel
theorem dX5_stepOn_144 : decode cX5_stepOn 144 = .ok (.iload 7, 2) := by decide +kernel
theorem dX5_stepOn_146 : decode cX5_stepOn 146 = .ok (.iastore, 1) := by decide +kernel
theorem dX5_stepOn_147 : decode cX5_stepOn 147 = .ok (.aload_n 0, 1) := by decide +kernel
theorem dX5_stepOn_148 : decode cX5_stepOn 148 = .ok (.getfield 22, 3) := by decide +kernel
theorem dX5_stepOn_151 : decode cX5_stepOn 151 = .ok (.iload_n 1, 1) := by decide +kernel
theorem dX5_stepOn_152 : decode cX5_stepOn 152 = .ok (.aload_n 0, 1) := by decide +kernel
theorem dX5_stepOn_153 : decode cX5_stepOn 153 = .ok (.getfield 18, 3) := by decide +kernel
theorem dX5_stepOn_156 : decode cX5_stepOn 156 = .ok (.iload_n 2, 1) := by decide +kernel
theorem dX5_stepOn_157 : decode cX5_stepOn 157 = .ok (.laload, 1) := by decide +kernel
theorem dX5_stepOn_158 : decode cX5_stepOn 158 = .ok (.ldc2_w 79, 3) := by decide +kernel
theorem dX5_stepOn_161 : decode cX5_stepOn 161 = .ok (.lmul, 1) := by decide +kernel
theorem dX5_stepOn_162 : decode cX5_stepOn 162 = .ok (.iload 4, 2) := by decide +kernel
theorem dX5_stepOn_164 : decode cX5_stepOn 164 = .ok (.i2l, 1) := by decide +kernel
theorem dX5_stepOn_165 : decode cX5_stepOn 165 = .ok (.ladd, 1) := by decide +kernel
theorem dX5_stepOn_166 : decode cX5_stepOn 166 = .ok (.lastore, 1) := by decide +kernel
theorem dX5_stepOn_167 : decode cX5_stepOn 167 = .ok (.iinc 1 1, 3) := by decide +kernel
theorem dX5_stepOn_170 : decode cX5_stepOn 170 = .ok (.iinc 4 1, 3) := by decide +kernel
theorem dX5_stepOn_173 : decode cX5_stepOn 173 = .ok (.goto (-138), 3) := by decide +kernel
theorem dX5_stepOn_176 : decode cX5_stepOn 176 = .ok (.iinc 2 1, 3) := by decide +kernel
theorem dX5_stepOn_179 : decode cX5_stepOn 179 = .ok (.goto (-165), 3) := by decide +kernel
theorem dX5_stepOn_182 : decode cX5_stepOn 182 = .ok (.aload_n 0, 1) := by decide +kernel
theorem dX5_stepOn_183 : decode cX5_stepOn 183 = .ok (.getfield 15, 3) := by decide +kernel
theorem dX5_stepOn_186 : decode cX5_stepOn 186 = .ok (.iconst 0, 1) := by decide +kernel
theorem dX5_stepOn_187 : decode cX5_stepOn 187 = .ok (.aload_n 0, 1) := by decide +kernel
theorem dX5_stepOn_188 : decode cX5_stepOn 188 = .ok (.getfield 11, 3) := by decide +kernel
theorem dX5_stepOn_191 : decode cX5_stepOn 191 = .ok (.iconst 0, 1) := by decide +kernel
theorem dX5_stepOn_192 : decode cX5_stepOn 192 = .ok (.iload_n 1, 1) := by decide +kernel
theorem dX5_stepOn_193 : decode cX5_stepOn 193 = .ok (.invokestatic 93, 3) := by decide +kernel
theorem dX5_stepOn_196 : decode cX5_stepOn 196 = .ok (.aload_n 0, 1) := by decide +kernel
theorem dX5_stepOn_197 : decode cX5_stepOn 197 = .ok (.getfield 22, 3) := by decide +kernel
theorem dX5_stepOn_200 : decode cX5_stepOn 200 = .ok (.iconst 0, 1) := by decide +kernel
theorem dX5_stepOn_201 : decode cX5_stepOn 201 = .ok (.aload_n 0, 1) := by decide +kernel
theorem dX5_stepOn_202 : decode cX5_stepOn 202 = .ok (.getfield 18, 3) := by decide +kernel
theorem dX5_stepOn_205 : decode cX5_stepOn 205 = .ok (.iconst 0, 1) := by decide +kernel
theorem dX5_stepOn_206 : decode cX5_stepOn 206 = .ok (.iload_n 1, 1) := by decide +kernel
theorem dX5_stepOn_207 : decode cX5_stepOn 207 = .ok (.invokestatic 93, 3) := by decide +kernel
theorem dX5_stepOn_210 : decode cX5_stepOn 210 = .ok (.aload_n 0, 1) := by decide +kernel
theorem dX5_stepOn_211 : decode cX5_stepOn 211 = .ok (.iload_n 1, 1) := by decide +kernel
theorem dX5_stepOn_212 : decode cX5_stepOn 212 = .ok (.putfield 62, 3) := by decide +kernel
theorem dX5_stepOn_215 : decode cX5_stepOn 215 = .ok (.iconst 0, 1) := by decide +kernel
theorem dX5_stepOn_216 : decode cX5_stepOn 216 = .ok (.ireturn, 1) := by decide +kernel
theorem dX5_drift_0 : decode cX5_drift 0 = .ok (.iconst 0, 1) := by decide +kernel
theorem dX5_drift_1 : decode cX5_drift 1 = .ok (.istore_n 3, 1) := by decide +kernel
theorem dX5_drift_2 : decode cX5_drift 2 = .ok (.iload_n 3, 1) := by decide +kernel
theorem dX5_drift_3 : decode cX5_drift 3 = .ok (.aload_n 1, 1) := by decide +kernel
theorem dX5_drift_4 : decode cX5_drift 4 = .ok (.getfield 34, 3) := by decide +kernel
theorem dX5_drift_7 : decode cX5_drift 7 = .ok (.if_icmp .ge 34, 3) := by decide +kernel
theorem dX5_drift_10 : decode cX5_drift 10 = .ok (.iload_n 2, 1) := by decide +kernel
theorem dX5_drift_11 : decode cX5_drift 11 = .ok (.iload_n 3, 1) := by decide +kernel
theorem dX5_drift_12 : decode cX5_drift 12 = .ok (.invokestatic 47, 3) := by decide +kernel
theorem dX5_drift_15 : decode cX5_drift 15 = .ok (.ifCond .eq 20, 3) := by decide +kernel
theorem dX5_drift_18 : decode cX5_drift 18 = .ok (.aload_n 0, 1) := by decide +kernel
theorem dX5_drift_19 : decode cX5_drift 19 = .ok (.getfield 28, 3) := by decide +kernel
theorem dX5_drift_22 : decode cX5_drift 22 = .ok (.iload_n 3, 1) := by decide +kernel
theorem dX5_drift_23 : decode cX5_drift 23 = .ok (.aload_n 1, 1) := by decide +kernel
theorem dX5_drift_24 : decode cX5_drift 24 = .ok (.aload_n 0, 1) := by decide +kernel
theorem dX5_drift_25 : decode cX5_drift 25 = .ok (.getfield 28, 3) := by decide +kernel
theorem dX5_drift_28 : decode cX5_drift 28 = .ok (.iload_n 3, 1) := by decide +kernel
theorem dX5_drift_29 : decode cX5_drift 29 = .ok (.iaload, 1) := by decide +kernel
theorem dX5_drift_30 : decode cX5_drift 30 = .ok (.iconst 1, 1) := by decide +kernel
theorem dX5_drift_31 : decode cX5_drift 31 = .ok (.invokevirtual 99, 3) := by decide +kernel
theorem dX5_drift_34 : decode cX5_drift 34 = .ok (.iastore, 1) := by decide +kernel
theorem dX5_drift_35 : decode cX5_drift 35 = .ok (.iinc 3 1, 3) := by decide +kernel
theorem dX5_drift_38 : decode cX5_drift 38 = .ok (.goto (-36), 3) := by decide +kernel
theorem dX5_drift_41 : decode cX5_drift 41 = .ok (.return_, 1) := by decide +kernel
