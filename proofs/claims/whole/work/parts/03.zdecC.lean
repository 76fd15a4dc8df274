theorem dX6_init_0 : decode cX6_init 0 = .ok (.aload_n 0, 1) := by decide +kernel
theorem dX6_init_1 : decode cX6_init 1 = .ok (.invokespecial 1, 3) := by decide +kernel
theorem dX6_init_4 : decode cX6_init 4 = .ok (.aload_n 0, 1) := by decide +kernel
theorem dX6_init_5 : decode cX6_init 5 = .ok (.new 7, 3) := by decide +kernel
theorem dX6_init_8 : decode cX6_init 8 = .ok (.dup, 1) := by decide +kernel
theorem dX6_init_9 : decode cX6_init 9 = .ok (.invokespecial 9, 3) := by decide +kernel
theorem dX6_init_12 : decode cX6_init 12 = .ok (.putfield 10, 3) := by decide +kernel
theorem dX6_init_15 : decode cX6_init 15 = .ok (.aload_n 0, 1) := by decide +kernel
theorem dX6_init_16 : decode cX6_init 16 = .ok (.new 7, 3) := by decide +kernel
theorem dX6_init_19 : decode cX6_init 19 = .ok (.dup, 1) := by decide +kernel
theorem dX6_init_20 : decode cX6_init 20 = .ok (.invokespecial 9, 3) := by decide +kernel
theorem dX6_init_23 : decode cX6_init 23 = .ok (.putfield 16, 3) := by decide +kernel
theorem dX6_init_26 : decode cX6_init 26 = .ok (.aload_n 0, 1) := by decide +kernel
theorem dX6_init_27 : decode cX6_init 27 = .ok (.iconst 2, 1) := by decide +kernel
theorem dX6_init_28 : decode cX6_init 28 = .ok (.anewarray 7, 3) := by decide +kernel
theorem dX6_init_31 : decode cX6_init 31 = .ok (.putfield 19, 3) := by decide +kernel
theorem dX6_init_34 : decode cX6_init 34 = .ok (.iconst 0, 1) := by decide +kernel
theorem dX6_init_35 : decode cX6_init 35 = .ok (.istore_n 1, 1) := by decide +kernel
theorem dX6_init_36 : decode cX6_init 36 = .ok (.iload_n 1, 1) := by decide +kernel
theorem dX6_init_37 : decode cX6_init 37 = .ok (.iconst 2, 1) := by decide +kernel
theorem dX6_init_38 : decode cX6_init 38 = .ok (.if_icmp .ge 22, 3) := by decide +kernel
theorem dX6_init_41 : decode cX6_init 41 = .ok (.aload_n 0, 1) := by decide +kernel
theorem dX6_init_42 : decode cX6_init 42 = .ok (.getfield 19, 3) := by decide +kernel
theorem dX6_init_45 : decode cX6_init 45 = .ok (.iload_n 1, 1) := by decide +kernel
theorem dX6_init_46 : decode cX6_init 46 = .ok (.new 7, 3) := by decide +kernel
theorem dX6_init_49 : decode cX6_init 49 = .ok (.dup, 1) := by decide +kernel
theorem dX6_init_50 : decode cX6_init 50 = .ok (.invokespecial 9, 3) := by decide +kernel
theorem dX6_init_53 : decode cX6_init 53 = .ok (.aastore, 1) := by decide +kernel
theorem dX6_init_54 : decode cX6_init 54 = .ok (.iinc 1 1, 3) := by decide +kernel
theorem dX6_init_57 : decode cX6_init 57 = .ok (.goto (-21), 3) := by decide +kernel
theorem dX6_init_60 : decode cX6_init 60 = .ok (.aload_n 0, 1) := by decide +kernel
theorem dX6_init_61 : decode cX6_init 61 = .ok (.iconst 2, 1) := by decide +kernel
theorem dX6_init_62 : decode cX6_init 62 = .ok (.newarray .boolean, 2) := by decide +kernel
theorem dX6_init_64 : decode cX6_init 64 = .ok (.putfield 23, 3) := by decide +kernel
theorem dX6_init_67 : decode cX6_init 67 = .ok (.aload_n 0, 1) := by decide +kernel
theorem dX6_init_68 : decode cX6_init 68 = .ok (.new 27, 3) := by decide +kernel
theorem dX6_init_71 : decode cX6_init 71 = .ok (.dup, 1) := by decide +kernel
theorem dX6_init_72 : decode cX6_init 72 = .ok (.invokespecial 29, 3) := by decide +kernel
theorem dX6_init_75 : decode cX6_init 75 = .ok (.putfield 30, 3) := by decide +kernel
theorem dX6_init_78 : decode cX6_init 78 = .ok (.aload_n 0, 1) := by decide +kernel
theorem dX6_init_79 : decode cX6_init 79 = .ok (.new 34, 3) := by decide +kernel
theorem dX6_init_82 : decode cX6_init 82 = .ok (.dup, 1) := by decide +kernel
theorem dX6_init_83 : decode cX6_init 83 = .ok (.invokespecial 36, 3) := by decide +kernel
theorem dX6_init_86 : decode cX6_init 86 = .ok (.putfield 37, 3) := by decide +kernel
theorem dX6_init_89 : decode cX6_init 89 = .ok (.aload_n 0, 1) := by decide +kernel
theorem dX6_init_90 : decode cX6_init 90 = .ok (.new 41, 3) := by decide +kernel
theorem dX6_init_93 : decode cX6_init 93 = .ok (.dup, 1) := by decide +kernel
theorem dX6_init_94 : decode cX6_init 94 = .ok (.invokespecial 43, 3) := by decide +kernel
theorem dX6_init_97 : decode cX6_init 97 = .ok (.putfield 44, 3) := by decide +kernel
theorem dX6_init_100 : decode cX6_init 100 = .ok (.aload_n 0, 1) := by decide +kernel
theorem dX6_init_101 : decode cX6_init 101 = .ok (.bipush 6, 2) := by decide +kernel
theorem dX6_init_103 : decode cX6_init 103 = .ok (.newarray .int, 2) := by decide +kernel
theorem dX6_init_105 : decode cX6_init 105 = .ok (.putfield 48, 3) := by decide +kernel
theorem dX6_init_108 : decode cX6_init 108 = .ok (.aload_n 0, 1) := by decide +kernel
theorem dX6_init_109 : decode cX6_init 109 = .ok (.iconst 1, 1) := by decide +kernel
theorem dX6_init_110 : decode cX6_init 110 = .ok (.putfield 52, 3) := by decide +kernel
theorem dX6_init_113 : decode cX6_init 113 = .ok (.return_, 1) := by decide +kernel
theorem dX6_shore_0 : decode cX6_shore 0 = .ok (.aload_n 0, 1) := by decide +kernel
theorem dX6_shore_1 : decode cX6_shore 1 = .ok (.getfield 10, 3) := by decide +kernel
theorem dX6_shore_4 : decode cX6_shore 4 = .ok (.getfield 56, 3) := by decide +kernel
theorem dX6_shore_7 : decode cX6_shore 7 = .ok (.istore_n 1, 1) := by decide +kernel
theorem dX6_shore_8 : decode cX6_shore 8 = .ok (.aload_n 0, 1) := by decide +kernel
theorem dX6_shore_9 : decode cX6_shore 9 = .ok (.getfield 10, 3) := by decide +kernel
theorem dX6_shore_12 : decode cX6_shore 12 = .ok (.invokevirtual 59, 3) := by decide +kernel
theorem dX6_shore_15 : decode cX6_shore 15 = .ok (.iload_n 1, 1) := by decide +kernel
theorem dX6_shore_16 : decode cX6_shore 16 = .ok (.ireturn, 1) := by decide +kernel
theorem dX6_current_0 : decode cX6_current 0 = .ok (.iload_n 1, 1) := by decide +kernel
theorem dX6_current_1 : decode cX6_current 1 = .ok (.iconst 0, 1) := by decide +kernel
theorem dX6_current_2 : decode cX6_current 2 = .ok (.bipush 11, 2) := by decide +kernel
theorem dX6_current_4 : decode cX6_current 4 = .ok (.invokestatic 62, 3) := by decide +kernel
theorem dX6_current_7 : decode cX6_current 7 = .ok (.ifCond .eq 13, 3) := by decide +kernel
theorem dX6_current_10 : decode cX6_current 10 = .ok (.iload_n 2, 1) := by decide +kernel
theorem dX6_current_11 : decode cX6_current 11 = .ok (.bipush (-2), 2) := by decide +kernel
theorem dX6_current_13 : decode cX6_current 13 = .ok (.iconst 2, 1) := by decide +kernel
theorem dX6_current_14 : decode cX6_current 14 = .ok (.invokestatic 62, 3) := by decide +kernel
theorem dX6_current_17 : decode cX6_current 17 = .ok (.ifCond .ne 10, 3) := by decide +kernel
theorem dX6_current_20 : decode cX6_current 20 = .ok (.aload_n 0, 1) := by decide +kernel
theorem dX6_current_21 : decode cX6_current 21 = .ok (.bipush (-10), 2) := by decide +kernel
theorem dX6_current_23 : decode cX6_current 23 = .ok (.invokevirtual 66, 3) := by decide +kernel
theorem dX6_current_26 : decode cX6_current 26 = .ok (.ireturn, 1) := by decide +kernel
theorem dX6_current_27 : decode cX6_current 27 = .ok (.aload_n 0, 1) := by decide +kernel
theorem dX6_current_28 : decode cX6_current 28 = .ok (.getfield 10, 3) := by decide +kernel
theorem dX6_current_31 : decode cX6_current 31 = .ok (.getfield 70, 3) := by decide +kernel
theorem dX6_current_34 : decode cX6_current 34 = .ok (.iload_n 1, 1) := by decide +kernel
theorem dX6_current_35 : decode cX6_current 35 = .ok (.iaload, 1) := by decide +kernel
theorem dX6_current_36 : decode cX6_current 36 = .ok (.istore_n 3, 1) := by decide +kernel
theorem dX6_current_37 : decode cX6_current 37 = .ok (.aload_n 0, 1) := by decide +kernel
theorem dX6_current_38 : decode cX6_current 38 = .ok (.getfield 10, 3) := by decide +kernel
theorem dX6_current_41 : decode cX6_current 41 = .ok (.getfield 70, 3) := by decide +kernel
theorem dX6_current_44 : decode cX6_current 44 = .ok (.iload_n 1, 1) := by decide +kernel
theorem dX6_current_45 : decode cX6_current 45 = .ok (.iload_n 2, 1) := by decide +kernel
theorem dX6_current_46 : decode cX6_current 46 = .ok (.iastore, 1) := by decide +kernel
theorem dX6_current_47 : decode cX6_current 47 = .ok (.aload_n 0, 1) := by decide +kernel
theorem dX6_current_48 : decode cX6_current 48 = .ok (.getfield 10, 3) := by decide +kernel
theorem dX6_current_51 : decode cX6_current 51 = .ok (.iconst 0, 1) := by decide +kernel
theorem dX6_current_52 : decode cX6_current 52 = .ok (.putfield 73, 3) := by decide +kernel
theorem dX6_current_55 : decode cX6_current 55 = .ok (.iload_n 3, 1) := by decide +kernel
theorem dX6_current_56 : decode cX6_current 56 = .ok (.ireturn, 1) := by decide +kernel
theorem dX6_soul_0 : decode cX6_soul 0 = .ok (.iload_n 1, 1) := by decide +kernel
theorem dX6_soul_1 : decode cX6_soul 1 = .ok (.iconst 0, 1) := by decide +kernel
theorem dX6_soul_2 : decode cX6_soul 2 = .ok (.iconst 5, 1) := by decide +kernel
theorem dX6_soul_3 : decode cX6_soul 3 = .ok (.invokestatic 62, 3) := by decide +kernel
theorem dX6_soul_6 : decode cX6_soul 6 = .ok (.ifCond .eq 23, 3) := by decide +kernel
theorem dX6_soul_9 : decode cX6_soul 9 = .ok (.iload_n 2, 1) := by decide +kernel
theorem dX6_soul_10 : decode cX6_soul 10 = .ok (.iconst 1, 1) := by decide +kernel
theorem dX6_soul_11 : decode cX6_soul 11 = .ok (.bipush 9, 2) := by decide +kernel
theorem dX6_soul_13 : decode cX6_soul 13 = .ok (.invokestatic 62, 3) := by decide +kernel
theorem dX6_soul_16 : decode cX6_soul 16 = .ok (.ifCond .eq 13, 3) := by decide +kernel
theorem dX6_soul_19 : decode cX6_soul 19 = .ok (.iload_n 3, 1) := by decide +kernel
theorem dX6_soul_20 : decode cX6_soul 20 = .ok (.iconst 0, 1) := by decide +kernel
theorem dX6_soul_21 : decode cX6_soul 21 = .ok (.bipush 11, 2) := by decide +kernel
theorem dX6_soul_23 : decode cX6_soul 23 = .ok (.invokestatic 62, 3) := by decide +kernel
theorem dX6_soul_26 : decode cX6_soul 26 = .ok (.ifCond .ne 10, 3) := by decide +kernel
theorem dX6_soul_29 : decode cX6_soul 29 = .ok (.aload_n 0, 1) := by decide +kernel
theorem dX6_soul_30 : decode cX6_soul 30 = .ok (.bipush (-2), 2) := by decide +kernel
theorem dX6_soul_32 : decode cX6_soul 32 = .ok (.invokevirtual 66, 3) := by decide +kernel
theorem dX6_soul_35 : decode cX6_soul 35 = .ok (.ireturn, 1) := by decide +kernel
theorem dX6_soul_36 : decode cX6_soul 36 = .ok (.aload_n 0, 1) := by decide +kernel
theorem dX6_soul_37 : decode cX6_soul 37 = .ok (.getfield 10, 3) := by decide +kernel
theorem dX6_soul_40 : decode cX6_soul 40 = .ok (.getfield 56, 3) := by decide +kernel
theorem dX6_soul_43 : decode cX6_soul 43 = .ok (.bipush 6, 2) := by decide +kernel
theorem dX6_soul_45 : decode cX6_soul 45 = .ok (.if_icmp .lt 8, 3) := by decide +kernel
theorem dX6_soul_48 : decode cX6_soul 48 = .ok (.aload_n 0, 1) := by decide +kernel
theorem dX6_soul_49 : decode cX6_soul 49 = .ok (.invokevirtual 76, 3) := by decide +kernel
theorem dX6_soul_52 : decode cX6_soul 52 = .ok (.ireturn, 1) := by decide +kernel
theorem dX6_soul_53 : decode cX6_soul 53 = .ok (.aload_n 0, 1) := by decide +kernel
theorem dX6_soul_54 : decode cX6_soul 54 = .ok (.getfield 10, 3) := by decide +kernel
theorem dX6_soul_57 : decode cX6_soul 57 = .ok (.iconst 0, 1) := by decide +kernel
theorem dX6_soul_58 : decode cX6_soul 58 = .ok (.putfield 73, 3) := by decide +kernel
theorem dX6_soul_61 : decode cX6_soul 61 = .ok (.aload_n 0, 1) := by decide +kernel
theorem dX6_soul_62 : decode cX6_soul 62 = .ok (.getfield 10, 3) := by decide +kernel
theorem dX6_soul_65 : decode cX6_soul 65 = .ok (.iload_n 1, 1) := by decide +kernel
theorem dX6_soul_66 : decode cX6_soul 66 = .ok (.iload_n 2, 1) := by decide +kernel
theorem dX6_soul_67 : decode cX6_soul 67 = .ok (.iload_n 3, 1) := by decide +kernel
theorem dX6_soul_68 : decode cX6_soul 68 = .ok (.invokevirtual 80, 3) := by decide +kernel
theorem dX6_soul_71 : decode cX6_soul 71 = .ok (.ireturn, 1) := by decide +kernel
theorem dX6_caller_0 : decode cX6_caller 0 = .ok (.iload_n 1, 1) := by decide +kernel
theorem dX6_caller_1 : decode cX6_caller 1 = .ok (.iconst 0, 1) := by decide +kernel
theorem dX6_caller_2 : decode cX6_caller 2 = .ok (.iconst 5, 1) := by decide +kernel
theorem dX6_caller_3 : decode cX6_caller 3 = .ok (.invokestatic 62, 3) := by decide +kernel
theorem dX6_caller_6 : decode cX6_caller 6 = .ok (.ifCond .ne 10, 3) := by decide +kernel
theorem dX6_caller_9 : decode cX6_caller 9 = .ok (.aload_n 0, 1) := by decide +kernel
theorem dX6_caller_10 : decode cX6_caller 10 = .ok (.bipush (-2), 2) := by decide +kernel
theorem dX6_caller_12 : decode cX6_caller 12 = .ok (.invokevirtual 66, 3) := by decide +kernel
theorem dX6_caller_15 : decode cX6_caller 15 = .ok (.ireturn, 1) := by decide +kernel
theorem dX6_caller_16 : decode cX6_caller 16 = .ok (.aload_n 0, 1) := by decide +kernel
theorem dX6_caller_17 : decode cX6_caller 17 = .ok (.getfield 10, 3) := by decide +kernel
theorem dX6_caller_20 : decode cX6_caller 20 = .ok (.getfield 84, 3) := by decide +kernel
theorem dX6_caller_23 : decode cX6_caller 23 = .ok (.bipush 6, 2) := by decide +kernel
theorem dX6_caller_25 : decode cX6_caller 25 = .ok (.if_icmp .lt 8, 3) := by decide +kernel
theorem dX6_caller_28 : decode cX6_caller 28 = .ok (.aload_n 0, 1) := by decide +kernel
theorem dX6_caller_29 : decode cX6_caller 29 = .ok (.invokevirtual 76, 3) := by decide +kernel
theorem dX6_caller_32 : decode cX6_caller 32 = .ok (.ireturn, 1) := by decide +kernel
theorem dX6_caller_33 : decode cX6_caller 33 = .ok (.aload_n 0, 1) := by decide +kernel
theorem dX6_caller_34 : decode cX6_caller 34 = .ok (.getfield 10, 3) := by decide +kernel
theorem dX6_caller_37 : decode cX6_caller 37 = .ok (.iconst 0, 1) := by decide +kernel
theorem dX6_caller_38 : decode cX6_caller 38 = .ok (.putfield 73, 3) := by decide +kernel
theorem dX6_caller_41 : decode cX6_caller 41 = .ok (.aload_n 0, 1) := by decide +kernel
theorem dX6_caller_42 : decode cX6_caller 42 = .ok (.getfield 10, 3) := by decide +kernel
theorem dX6_caller_45 : decode cX6_caller 45 = .ok (.iload_n 1, 1) := by decide +kernel
theorem dX6_caller_46 : decode cX6_caller 46 = .ok (.invokevirtual 87, 3) := by decide +kernel
theorem dX6_caller_49 : decode cX6_caller 49 = .ok (.ireturn, 1) := by decide +kernel
theorem dX6_type_0 : decode cX6_type 0 = .ok (.iload_n 1, 1) := by decide +kernel
theorem dX6_type_1 : decode cX6_type 1 = .ok (.iconst 0, 1) := by decide +kernel
theorem dX6_type_2 : decode cX6_type 2 = .ok (.bipush 127, 2) := by decide +kernel
theorem dX6_type_4 : decode cX6_type 4 = .ok (.invokestatic 62, 3) := by decide +kernel
theorem dX6_type_7 : decode cX6_type 7 = .ok (.ifCond .ne 10, 3) := by decide +kernel
theorem dX6_type_10 : decode cX6_type 10 = .ok (.aload_n 0, 1) := by decide +kernel
theorem dX6_type_11 : decode cX6_type 11 = .ok (.bipush (-2), 2) := by decide +kernel
theorem dX6_type_13 : decode cX6_type 13 = .ok (.invokevirtual 66, 3) := by decide +kernel
theorem dX6_type_16 : decode cX6_type 16 = .ok (.ireturn, 1) := by decide +kernel
theorem dX6_type_17 : decode cX6_type 17 = .ok (.aload_n 0, 1) := by decide +kernel
theorem dX6_type_18 : decode cX6_type 18 = .ok (.getfield 30, 3) := by decide +kernel
theorem dX6_type_21 : decode cX6_type 21 = .ok (.getfield 90, 3) := by decide +kernel
theorem dX6_type_24 : decode cX6_type 24 = .ok (.sipush 150, 3) := by decide +kernel
theorem dX6_type_27 : decode cX6_type 27 = .ok (.if_icmp .lt 8, 3) := by decide +kernel
theorem dX6_type_30 : decode cX6_type 30 = .ok (.aload_n 0, 1) := by decide +kernel
theorem dX6_type_31 : decode cX6_type 31 = .ok (.invokevirtual 76, 3) := by decide +kernel
theorem dX6_type_34 : decode cX6_type 34 = .ok (.ireturn, 1) := by decide +kernel
theorem dX6_type_35 : decode cX6_type 35 = .ok (.aload_n 0, 1) := by decide +kernel
theorem dX6_type_36 : decode cX6_type 36 = .ok (.getfield 30, 3) := by decide +kernel
theorem dX6_type_39 : decode cX6_type 39 = .ok (.iload_n 1, 1) := by decide +kernel
theorem dX6_type_40 : decode cX6_type 40 = .ok (.invokevirtual 93, 3) := by decide +kernel
theorem dX6_type_43 : decode cX6_type 43 = .ok (.ireturn, 1) := by decide +kernel
theorem dX6_clear_0 : decode cX6_clear 0 = .ok (.aload_n 0, 1) := by decide +kernel
theorem dX6_clear_1 : decode cX6_clear 1 = .ok (.getfield 30, 3) := by decide +kernel
theorem dX6_clear_4 : decode cX6_clear 4 = .ok (.getfield 90, 3) := by decide +kernel
theorem dX6_clear_7 : decode cX6_clear 7 = .ok (.istore_n 1, 1) := by decide +kernel
theorem dX6_clear_8 : decode cX6_clear 8 = .ok (.aload_n 0, 1) := by decide +kernel
theorem dX6_clear_9 : decode cX6_clear 9 = .ok (.getfield 30, 3) := by decide +kernel
theorem dX6_clear_12 : decode cX6_clear 12 = .ok (.iconst 0, 1) := by decide +kernel
theorem dX6_clear_13 : decode cX6_clear 13 = .ok (.putfield 90, 3) := by decide +kernel
theorem dX6_clear_16 : decode cX6_clear 16 = .ok (.iload_n 1, 1) := by decide +kernel
theorem dX6_clear_17 : decode cX6_clear 17 = .ok (.ireturn, 1) := by decide +kernel
theorem dX6_read_0 : decode cX6_read 0 = .ok (.aload_n 0, 1) := by decide +kernel
theorem dX6_read_1 : decode cX6_read 1 = .ok (.getfield 30, 3) := by decide +kernel
theorem dX6_read_4 : decode cX6_read 4 = .ok (.invokevirtual 96, 3) := by decide +kernel
theorem dX6_read_7 : decode cX6_read 7 = .ok (.istore_n 1, 1) := by decide +kernel
theorem dX6_read_8 : decode cX6_read 8 = .ok (.iload_n 1, 1) := by decide +kernel
theorem dX6_read_9 : decode cX6_read 9 = .ok (.iconst (-1), 1) := by decide +kernel
theorem dX6_read_10 : decode cX6_read 10 = .ok (.if_icmp .ne 14, 3) := by decide +kernel
theorem dX6_read_13 : decode cX6_read 13 = .ok (.bipush (-10), 2) := by decide +kernel
theorem dX6_read_15 : decode cX6_read 15 = .ok (.aload_n 0, 1) := by decide +kernel
theorem dX6_read_16 : decode cX6_read 16 = .ok (.getfield 30, 3) := by decide +kernel
theorem dX6_read_19 : decode cX6_read 19 = .ok (.getfield 99, 3) := by decide +kernel
theorem dX6_read_22 : decode cX6_read 22 = .ok (.isub, 1) := by decide +kernel
theorem dX6_read_23 : decode cX6_read 23 = .ok (.ireturn, 1) := by decide +kernel
theorem dX6_read_24 : decode cX6_read 24 = .ok (.aload_n 0, 1) := by decide +kernel
theorem dX6_read_25 : decode cX6_read 25 = .ok (.getfield 10, 3) := by decide +kernel
theorem dX6_read_28 : decode cX6_read 28 = .ok (.aload_n 0, 1) := by decide +kernel
theorem dX6_read_29 : decode cX6_read 29 = .ok (.getfield 30, 3) := by decide +kernel
theorem dX6_read_32 : decode cX6_read 32 = .ok (.getfield 102, 3) := by decide +kernel
theorem dX6_read_35 : decode cX6_read 35 = .ok (.invokevirtual 105, 3) := by decide +kernel
theorem dX6_read_38 : decode cX6_read 38 = .ok (.iload_n 1, 1) := by decide +kernel
theorem dX6_read_39 : decode cX6_read 39 = .ok (.ireturn, 1) := by decide +kernel
theorem dX6_tides_0 : decode cX6_tides 0 = .ok (.iload_n 1, 1) := by decide +kernel
theorem dX6_tides_1 : decode cX6_tides 1 = .ok (.iconst 1, 1) := by decide +kernel
theorem dX6_tides_2 : decode cX6_tides 2 = .ok (.bipush 60, 2) := by decide +kernel
theorem dX6_tides_4 : decode cX6_tides 4 = .ok (.invokestatic 62, 3) := by decide +kernel
theorem dX6_tides_7 : decode cX6_tides 7 = .ok (.ifCond .ne 10, 3) := by decide +kernel
theorem dX6_tides_10 : decode cX6_tides 10 = .ok (.aload_n 0, 1) := by decide +kernel
theorem dX6_tides_11 : decode cX6_tides 11 = .ok (.bipush (-2), 2) := by decide +kernel
theorem dX6_tides_13 : decode cX6_tides 13 = .ok (.invokevirtual 66, 3) := by decide +kernel
theorem dX6_tides_16 : decode cX6_tides 16 = .ok (.ireturn, 1) := by decide +kernel
theorem dX6_tides_17 : decode cX6_tides 17 = .ok (.aload_n 0, 1) := by decide +kernel
theorem dX6_tides_18 : decode cX6_tides 18 = .ok (.getfield 10, 3) := by decide +kernel
theorem dX6_tides_21 : decode cX6_tides 21 = .ok (.invokevirtual 109, 3) := by decide +kernel
theorem dX6_tides_24 : decode cX6_tides 24 = .ok (.aload_n 0, 1) := by decide +kernel
theorem dX6_tides_25 : decode cX6_tides 25 = .ok (.getfield 10, 3) := by decide +kernel
theorem dX6_tides_28 : decode cX6_tides 28 = .ok (.iload_n 1, 1) := by decide +kernel
theorem dX6_tides_29 : decode cX6_tides 29 = .ok (.invokevirtual 112, 3) := by decide +kernel
theorem dX6_tides_32 : decode cX6_tides 32 = .ok (.aload_n 0, 1) := by decide +kernel
theorem dX6_tides_33 : decode cX6_tides 33 = .ok (.getfield 10, 3) := by decide +kernel
theorem dX6_tides_36 : decode cX6_tides 36 = .ok (.invokevirtual 116, 3) := by decide +kernel
theorem dX6_tides_39 : decode cX6_tides 39 = .ok (.ireturn, 1) := by decide +kernel
theorem dX6_walks_0 : decode cX6_walks 0 = .ok (.iload_n 1, 1) := by decide +kernel
theorem dX6_walks_1 : decode cX6_walks 1 = .ok (.iconst (-1), 1) := by decide +kernel
theorem dX6_walks_2 : decode cX6_walks 2 = .ok (.iconst 1, 1) := by decide +kernel
theorem dX6_walks_3 : decode cX6_walks 3 = .ok (.invokestatic 62, 3) := by decide +kernel
theorem dX6_walks_6 : decode cX6_walks 6 = .ok (.ifCond .ne 10, 3) := by decide +kernel
theorem dX6_walks_9 : decode cX6_walks 9 = .ok (.aload_n 0, 1) := by decide +kernel
theorem dX6_walks_10 : decode cX6_walks 10 = .ok (.bipush (-2), 2) := by decide +kernel
theorem dX6_walks_12 : decode cX6_walks 12 = .ok (.invokevirtual 66, 3) := by decide +kernel
theorem dX6_walks_15 : decode cX6_walks 15 = .ok (.ireturn, 1) := by decide +kernel
theorem dX6_walks_16 : decode cX6_walks 16 = .ok (.aload_n 0, 1) := by decide +kernel
theorem dX6_walks_17 : decode cX6_walks 17 = .ok (.getfield 10, 3) := by decide +kernel
theorem dX6_walks_20 : decode cX6_walks 20 = .ok (.getfield 119, 3) := by decide +kernel
theorem dX6_walks_23 : decode cX6_walks 23 = .ok (.getfield 123, 3) := by decide +kernel
theorem dX6_walks_26 : decode cX6_walks 26 = .ok (.sipush 999, 3) := by decide +kernel
theorem dX6_walks_29 : decode cX6_walks 29 = .ok (.if_icmp .lt 8, 3) := by decide +kernel
theorem dX6_walks_32 : decode cX6_walks 32 = .ok (.aload_n 0, 1) := by decide +kernel
theorem dX6_walks_33 : decode cX6_walks 33 = .ok (.invokevirtual 128, 3) := by decide +kernel
theorem dX6_walks_36 : decode cX6_walks 36 = .ok (.ireturn, 1) := by decide +kernel
theorem dX6_walks_37 : decode cX6_walks 37 = .ok (.aload_n 0, 1) := by decide +kernel
theorem dX6_walks_38 : decode cX6_walks 38 = .ok (.getfield 10, 3) := by decide +kernel
theorem dX6_walks_41 : decode cX6_walks 41 = .ok (.invokevirtual 109, 3) := by decide +kernel
theorem dX6_walks_44 : decode cX6_walks 44 = .ok (.aload_n 0, 1) := by decide +kernel
theorem dX6_walks_45 : decode cX6_walks 45 = .ok (.getfield 10, 3) := by decide +kernel
theorem dX6_walks_48 : decode cX6_walks 48 = .ok (.iload_n 1, 1) := by decide +kernel
theorem dX6_walks_49 : decode cX6_walks 49 = .ok (.invokevirtual 131, 3) := by decide +kernel
theorem dX6_walks_52 : decode cX6_walks 52 = .ok (.istore_n 2, 1) := by decide +kernel
theorem dX6_walks_53 : decode cX6_walks 53 = .ok (.aload_n 0, 1) := by decide +kernel
theorem dX6_walks_54 : decode cX6_walks 54 = .ok (.getfield 10, 3) := by decide +kernel
theorem dX6_walks_57 : decode cX6_walks 57 = .ok (.invokevirtual 134, 3) := by decide +kernel
theorem dX6_walks_60 : decode cX6_walks 60 = .ok (.iload_n 2, 1) := by decide +kernel
theorem dX6_walks_61 : decode cX6_walks 61 = .ok (.ireturn, 1) := by decide +kernel
theorem dX6_calls_0 : decode cX6_calls 0 = .ok (.aload_n 0, 1) := by decide +kernel
theorem dX6_calls_1 : decode cX6_calls 1 = .ok (.getfield 10, 3) := by decide +kernel
theorem dX6_calls_4 : decode cX6_calls 4 = .ok (.iload_n 1, 1) := by decide +kernel
theorem dX6_calls_5 : decode cX6_calls 5 = .ok (.invokevirtual 137, 3) := by decide +kernel
theorem dX6_calls_8 : decode cX6_calls 8 = .ok (.ifCond .ne 10, 3) := by decide +kernel
theorem dX6_calls_11 : decode cX6_calls 11 = .ok (.aload_n 0, 1) := by decide +kernel
theorem dX6_calls_12 : decode cX6_calls 12 = .ok (.bipush (-2), 2) := by decide +kernel
theorem dX6_calls_14 : decode cX6_calls 14 = .ok (.invokevirtual 66, 3) := by decide +kernel
theorem dX6_calls_17 : decode cX6_calls 17 = .ok (.ireturn, 1) := by decide +kernel
theorem dX6_calls_18 : decode cX6_calls 18 = .ok (.aload_n 0, 1) := by decide +kernel
theorem dX6_calls_19 : decode cX6_calls 19 = .ok (.getfield 10, 3) := by decide +kernel
theorem dX6_calls_22 : decode cX6_calls 22 = .ok (.iload_n 1, 1) := by decide +kernel
theorem dX6_calls_23 : decode cX6_calls 23 = .ok (.invokevirtual 141, 3) := by decide +kernel
theorem dX6_calls_26 : decode cX6_calls 26 = .ok (.istore_n 2, 1) := by decide +kernel
theorem dX6_calls_27 : decode cX6_calls 27 = .ok (.iload_n 2, 1) := by decide +kernel
theorem dX6_calls_28 : decode cX6_calls 28 = .ok (.iconst (-1), 1) := by decide +kernel
theorem dX6_calls_29 : decode cX6_calls 29 = .ok (.if_icmp .ne 8, 3) := by decide +kernel
theorem dX6_calls_32 : decode cX6_calls 32 = .ok (.aload_n 0, 1) := by decide +kernel
theorem dX6_calls_33 : decode cX6_calls 33 = .ok (.invokevirtual 128, 3) := by decide +kernel
theorem dX6_calls_36 : decode cX6_calls 36 = .ok (.ireturn, 1) := by decide +kernel
theorem dX6_calls_37 : decode cX6_calls 37 = .ok (.aload_n 0, 1) := by decide +kernel
theorem dX6_calls_38 : decode cX6_calls 38 = .ok (.getfield 10, 3) := by decide +kernel
theorem dX6_calls_41 : decode cX6_calls 41 = .ok (.invokevirtual 109, 3) := by decide +kernel
theorem dX6_calls_44 : decode cX6_calls 44 = .ok (.aload_n 0, 1) := by decide +kernel
theorem dX6_calls_45 : decode cX6_calls 45 = .ok (.getfield 10, 3) := by decide +kernel
theorem dX6_calls_48 : decode cX6_calls 48 = .ok (.getfield 119, 3) := by decide +kernel
theorem dX6_calls_51 : decode cX6_calls 51 = .ok (.getfield 144, 3) := by decide +kernel
theorem dX6_calls_54 : decode cX6_calls 54 = .ok (.iload_n 2, 1) := by decide +kernel
theorem dX6_calls_55 : decode cX6_calls 55 = .ok (.iload_n 1, 1) := by decide +kernel
theorem dX6_calls_56 : decode cX6_calls 56 = .ok (.iastore, 1) := by decide +kernel
theorem dX6_calls_57 : decode cX6_calls 57 = .ok (.iload_n 2, 1) := by decide +kernel
theorem dX6_calls_58 : decode cX6_calls 58 = .ok (.ireturn, 1) := by decide +kernel
theorem dX6_returns_0 : decode cX6_returns 0 = .ok (.aload_n 0, 1) := by decide +kernel
theorem dX6_returns_1 : decode cX6_returns 1 = .ok (.getfield 10, 3) := by decide +kernel
theorem dX6_returns_4 : decode cX6_returns 4 = .ok (.iload_n 1, 1) := by decide +kernel
theorem dX6_returns_5 : decode cX6_returns 5 = .ok (.invokevirtual 137, 3) := by decide +kernel
theorem dX6_returns_8 : decode cX6_returns 8 = .ok (.ifCond .ne 10, 3) := by decide +kernel
theorem dX6_returns_11 : decode cX6_returns 11 = .ok (.aload_n 0, 1) := by decide +kernel
theorem dX6_returns_12 : decode cX6_returns 12 = .ok (.bipush (-2), 2) := by decide +kernel
theorem dX6_returns_14 : decode cX6_returns 14 = .ok (.invokevirtual 66, 3) := by decide +kernel
theorem dX6_returns_17 : decode cX6_returns 17 = .ok (.ireturn, 1) := by decide +kernel
theorem dX6_returns_18 : decode cX6_returns 18 = .ok (.aload_n 0, 1) := by decide +kernel
theorem dX6_returns_19 : decode cX6_returns 19 = .ok (.getfield 10, 3) := by decide +kernel
theorem dX6_returns_22 : decode cX6_returns 22 = .ok (.iload_n 1, 1) := by decide +kernel
theorem dX6_returns_23 : decode cX6_returns 23 = .ok (.invokevirtual 147, 3) := by decide +kernel
theorem dX6_returns_26 : decode cX6_returns 26 = .ok (.istore_n 2, 1) := by decide +kernel
theorem dX6_returns_27 : decode cX6_returns 27 = .ok (.iload_n 2, 1) := by decide +kernel
theorem dX6_returns_28 : decode cX6_returns 28 = .ok (.iconst (-1), 1) := by decide +kernel
theorem dX6_returns_29 : decode cX6_returns 29 = .ok (.if_icmp .ne 8, 3) := by decide +kernel
theorem dX6_returns_32 : decode cX6_returns 32 = .ok (.aload_n 0, 1) := by decide +kernel
theorem dX6_returns_33 : decode cX6_returns 33 = .ok (.invokevirtual 128, 3) := by decide +kernel
theorem dX6_returns_36 : decode cX6_returns 36 = .ok (.ireturn, 1) := by decide +kernel
theorem dX6_returns_37 : decode cX6_returns 37 = .ok (.aload_n 0, 1) := by decide +kernel
theorem dX6_returns_38 : decode cX6_returns 38 = .ok (.getfield 10, 3) := by decide +kernel
theorem dX6_returns_41 : decode cX6_returns 41 = .ok (.invokevirtual 109, 3) := by decide +kernel
theorem dX6_returns_44 : decode cX6_returns 44 = .ok (.aload_n 0, 1) := by decide +kernel
theorem dX6_returns_45 : decode cX6_returns 45 = .ok (.getfield 10, 3) := by decide +kernel
theorem dX6_returns_48 : decode cX6_returns 48 = .ok (.getfield 119, 3) := by decide +kernel
theorem dX6_returns_51 : decode cX6_returns 51 = .ok (.getfield 144, 3) := by decide +kernel
theorem dX6_returns_54 : decode cX6_returns 54 = .ok (.iload_n 2, 1) := by decide +kernel
theorem dX6_returns_55 : decode cX6_returns 55 = .ok (.iconst (-1), 1) := by decide +kernel
theorem dX6_returns_56 : decode cX6_returns 56 = .ok (.iastore, 1) := by decide +kernel
theorem dX6_returns_57 : decode cX6_returns 57 = .ok (.iload_n 2, 1) := by decide +kernel
theorem dX6_returns_58 : decode cX6_returns 58 = .ok (.ireturn, 1) := by decide +kernel
theorem dX6_undo_0 : decode cX6_undo 0 = .ok (.aload_n 0, 1) := by decide +kernel
theorem dX6_undo_1 : decode cX6_undo 1 = .ok (.getfield 10, 3) := by decide +kernel
theorem dX6_undo_4 : decode cX6_undo 4 = .ok (.getfield 73, 3) := by decide +kernel
theorem dX6_undo_7 : decode cX6_undo 7 = .ok (.ifCond .gt 8, 3) := by decide +kernel
theorem dX6_undo_10 : decode cX6_undo 10 = .ok (.aload_n 0, 1) := by decide +kernel
theorem dX6_undo_11 : decode cX6_undo 11 = .ok (.invokevirtual 128, 3) := by decide +kernel
theorem dX6_undo_14 : decode cX6_undo 14 = .ok (.ireturn, 1) := by decide +kernel
theorem dX6_undo_15 : decode cX6_undo 15 = .ok (.aload_n 0, 1) := by decide +kernel
theorem dX6_undo_16 : decode cX6_undo 16 = .ok (.getfield 10, 3) := by decide +kernel
theorem dX6_undo_19 : decode cX6_undo 19 = .ok (.invokevirtual 150, 3) := by decide +kernel
theorem dX6_undo_22 : decode cX6_undo 22 = .ok (.aload_n 0, 1) := by decide +kernel
theorem dX6_undo_23 : decode cX6_undo 23 = .ok (.getfield 10, 3) := by decide +kernel
theorem dX6_undo_26 : decode cX6_undo 26 = .ok (.getfield 119, 3) := by decide +kernel
theorem dX6_undo_29 : decode cX6_undo 29 = .ok (.getfield 123, 3) := by decide +kernel
theorem dX6_undo_32 : decode cX6_undo 32 = .ok (.ireturn, 1) := by decide +kernel
theorem dX6_of_0 : decode cX6_of 0 = .ok (.aload_n 0, 1) := by decide +kernel
theorem dX6_of_1 : decode cX6_of 1 = .ok (.getfield 10, 3) := by decide +kernel
theorem dX6_of_4 : decode cX6_of 4 = .ok (.iload_n 1, 1) := by decide +kernel
theorem dX6_of_5 : decode cX6_of 5 = .ok (.invokevirtual 153, 3) := by decide +kernel
theorem dX6_of_8 : decode cX6_of 8 = .ok (.ifCond .eq 12, 3) := by decide +kernel
theorem dX6_of_11 : decode cX6_of 11 = .ok (.iload_n 2, 1) := by decide +kernel
theorem dX6_of_12 : decode cX6_of 12 = .ok (.iconst 0, 1) := by decide +kernel
theorem dX6_of_13 : decode cX6_of 13 = .ok (.iconst 5, 1) := by decide +kernel
theorem dX6_of_14 : decode cX6_of 14 = .ok (.invokestatic 62, 3) := by decide +kernel
theorem dX6_of_17 : decode cX6_of 17 = .ok (.ifCond .ne 10, 3) := by decide +kernel
theorem dX6_of_20 : decode cX6_of 20 = .ok (.aload_n 0, 1) := by decide +kernel
theorem dX6_of_21 : decode cX6_of 21 = .ok (.bipush (-2), 2) := by decide +kernel
theorem dX6_of_23 : decode cX6_of 23 = .ok (.invokevirtual 66, 3) := by decide +kernel
theorem dX6_of_26 : decode cX6_of 26 = .ok (.ireturn, 1) := by decide +kernel
theorem dX6_of_27 : decode cX6_of 27 = .ok (.aload_n 0, 1) := by decide +kernel
theorem dX6_of_28 : decode cX6_of 28 = .ok (.getfield 10, 3) := by decide +kernel
theorem dX6_of_31 : decode cX6_of 31 = .ok (.iload_n 1, 1) := by decide +kernel
theorem dX6_of_32 : decode cX6_of 32 = .ok (.iload_n 2, 1) := by decide +kernel
theorem dX6_of_33 : decode cX6_of 33 = .ok (.invokevirtual 156, 3) := by decide +kernel
theorem dX6_of_36 : decode cX6_of 36 = .ok (.ireturn, 1) := by decide +kernel
theorem dX6_about_0 : decode cX6_about 0 = .ok (.aload_n 0, 1) := by decide +kernel
theorem dX6_about_1 : decode cX6_about 1 = .ok (.getfield 10, 3) := by decide +kernel
theorem dX6_about_4 : decode cX6_about 4 = .ok (.iload_n 1, 1) := by decide +kernel
theorem dX6_about_5 : decode cX6_about 5 = .ok (.invokevirtual 137, 3) := by decide +kernel
theorem dX6_about_8 : decode cX6_about 8 = .ok (.ifCond .eq 12, 3) := by decide +kernel
theorem dX6_about_11 : decode cX6_about 11 = .ok (.iload_n 2, 1) := by decide +kernel
theorem dX6_about_12 : decode cX6_about 12 = .ok (.iconst 0, 1) := by decide +kernel
theorem dX6_about_13 : decode cX6_about 13 = .ok (.iconst 3, 1) := by decide +kernel
theorem dX6_about_14 : decode cX6_about 14 = .ok (.invokestatic 62, 3) := by decide +kernel
theorem dX6_about_17 : decode cX6_about 17 = .ok (.ifCond .ne 10, 3) := by decide +kernel
theorem dX6_about_20 : decode cX6_about 20 = .ok (.aload_n 0, 1) := by decide +kernel
theorem dX6_about_21 : decode cX6_about 21 = .ok (.bipush (-2), 2) := by decide +kernel
theorem dX6_about_23 : decode cX6_about 23 = .ok (.invokevirtual 66, 3) := by decide +kernel
theorem dX6_about_26 : decode cX6_about 26 = .ok (.ireturn, 1) := by decide +kernel
theorem dX6_about_27 : decode cX6_about 27 = .ok (.iload_n 2, 1) := by decide +kernel
theorem dX6_about_28 : decode cX6_about 28 = .ok (.tableswitch 56 0 2 #[28, 38, 47], 28) := by decide +kernel
theorem dX6_about_56 : decode cX6_about 56 = .ok (.aload_n 0, 1) := by decide +kernel
theorem dX6_about_57 : decode cX6_about 57 = .ok (.getfield 10, 3) := by decide +kernel
theorem dX6_about_60 : decode cX6_about 60 = .ok (.getfield 160, 3) := by decide +kernel
theorem dX6_about_63 : decode cX6_about 63 = .ok (.iload_n 1, 1) := by decide +kernel
theorem dX6_about_64 : decode cX6_about 64 = .ok (.iaload, 1) := by decide +kernel
theorem dX6_about_65 : decode cX6_about 65 = .ok (.ireturn, 1) := by decide +kernel
theorem dX6_about_66 : decode cX6_about 66 = .ok (.aload_n 0, 1) := by decide +kernel
theorem dX6_about_67 : decode cX6_about 67 = .ok (.getfield 10, 3) := by decide +kernel
theorem dX6_about_70 : decode cX6_about 70 = .ok (.iload_n 1, 1) := by decide +kernel
theorem dX6_about_71 : decode cX6_about 71 = .ok (.invokevirtual 147, 3) := by decide +kernel
theorem dX6_about_74 : decode cX6_about 74 = .ok (.ireturn, 1) := by decide +kernel
theorem dX6_about_75 : decode cX6_about 75 = .ok (.aload_n 0, 1) := by decide +kernel
theorem dX6_about_76 : decode cX6_about 76 = .ok (.getfield 10, 3) := by decide +kernel
theorem dX6_about_79 : decode cX6_about 79 = .ok (.iload_n 1, 1) := by decide +kernel
theorem dX6_about_80 : decode cX6_about 80 = .ok (.invokevirtual 163, 3) := by decide +kernel
theorem dX6_about_83 : decode cX6_about 83 = .ok (.ireturn, 1) := by decide +kernel
theorem dX6_about_84 : decode cX6_about 84 = .ok (.aload_n 0, 1) := by decide +kernel
theorem dX6_about_85 : decode cX6_about 85 = .ok (.getfield 10, 3) := by decide +kernel
theorem dX6_about_88 : decode cX6_about 88 = .ok (.iload_n 1, 1) := by decide +kernel
theorem dX6_about_89 : decode cX6_about 89 = .ok (.invokevirtual 141, 3) := by decide +kernel
theorem dX6_about_92 : decode cX6_about 92 = .ok (.ireturn, 1) := by decide +kernel
theorem dX6_feels_0 : decode cX6_feels 0 = .ok (.aload_n 0, 1) := by decide +kernel
theorem dX6_feels_1 : decode cX6_feels 1 = .ok (.getfield 10, 3) := by decide +kernel
theorem dX6_feels_4 : decode cX6_feels 4 = .ok (.iload_n 1, 1) := by decide +kernel
theorem dX6_feels_5 : decode cX6_feels 5 = .ok (.invokevirtual 153, 3) := by decide +kernel
theorem dX6_feels_8 : decode cX6_feels 8 = .ok (.ifCond .eq 14, 3) := by decide +kernel
theorem dX6_feels_11 : decode cX6_feels 11 = .ok (.aload_n 0, 1) := by decide +kernel
theorem dX6_feels_12 : decode cX6_feels 12 = .ok (.getfield 10, 3) := by decide +kernel
theorem dX6_feels_15 : decode cX6_feels 15 = .ok (.iload_n 2, 1) := by decide +kernel
theorem dX6_feels_16 : decode cX6_feels 16 = .ok (.invokevirtual 137, 3) := by decide +kernel
theorem dX6_feels_19 : decode cX6_feels 19 = .ok (.ifCond .ne 10, 3) := by decide +kernel
theorem dX6_feels_22 : decode cX6_feels 22 = .ok (.aload_n 0, 1) := by decide +kernel
theorem dX6_feels_23 : decode cX6_feels 23 = .ok (.bipush (-2), 2) := by decide +kernel
theorem dX6_feels_25 : decode cX6_feels 25 = .ok (.invokevirtual 66, 3) := by decide +kernel
theorem dX6_feels_28 : decode cX6_feels 28 = .ok (.ireturn, 1) := by decide +kernel
theorem dX6_feels_29 : decode cX6_feels 29 = .ok (.aload_n 0, 1) := by decide +kernel
theorem dX6_feels_30 : decode cX6_feels 30 = .ok (.getfield 10, 3) := by decide +kernel
theorem dX6_feels_33 : decode cX6_feels 33 = .ok (.iload_n 1, 1) := by decide +kernel
theorem dX6_feels_34 : decode cX6_feels 34 = .ok (.iload_n 2, 1) := by decide +kernel
theorem dX6_feels_35 : decode cX6_feels 35 = .ok (.invokevirtual 166, 3) := by decide +kernel
theorem dX6_feels_38 : decode cX6_feels 38 = .ok (.ireturn, 1) := by decide +kernel
theorem dX6_where_0 : decode cX6_where 0 = .ok (.aload_n 0, 1) := by decide +kernel
theorem dX6_where_1 : decode cX6_where 1 = .ok (.getfield 10, 3) := by decide +kernel
theorem dX6_where_4 : decode cX6_where 4 = .ok (.iload_n 1, 1) := by decide +kernel
theorem dX6_where_5 : decode cX6_where 5 = .ok (.invokevirtual 153, 3) := by decide +kernel
theorem dX6_where_8 : decode cX6_where 8 = .ok (.ifCond .eq 13, 3) := by decide +kernel
theorem dX6_where_11 : decode cX6_where 11 = .ok (.iload_n 2, 1) := by decide +kernel
theorem dX6_where_12 : decode cX6_where 12 = .ok (.iconst 0, 1) := by decide +kernel
theorem dX6_where_13 : decode cX6_where 13 = .ok (.bipush 60, 2) := by decide +kernel
theorem dX6_where_15 : decode cX6_where 15 = .ok (.invokestatic 62, 3) := by decide +kernel
theorem dX6_where_18 : decode cX6_where 18 = .ok (.ifCond .ne 10, 3) := by decide +kernel
theorem dX6_where_21 : decode cX6_where 21 = .ok (.aload_n 0, 1) := by decide +kernel
theorem dX6_where_22 : decode cX6_where 22 = .ok (.bipush (-2), 2) := by decide +kernel
theorem dX6_where_24 : decode cX6_where 24 = .ok (.invokevirtual 66, 3) := by decide +kernel
theorem dX6_where_27 : decode cX6_where 27 = .ok (.ireturn, 1) := by decide +kernel
theorem dX6_where_28 : decode cX6_where 28 = .ok (.aload_n 0, 1) := by decide +kernel
theorem dX6_where_29 : decode cX6_where 29 = .ok (.getfield 10, 3) := by decide +kernel
theorem dX6_where_32 : decode cX6_where 32 = .ok (.iload_n 1, 1) := by decide +kernel
theorem dX6_where_33 : decode cX6_where 33 = .ok (.iload_n 2, 1) := by decide +kernel
theorem dX6_where_34 : decode cX6_where 34 = .ok (.invokevirtual 169, 3) := by decide +kernel
theorem dX6_where_37 : decode cX6_where 37 = .ok (.ireturn, 1) := by decide +kernel
theorem dX6_comes_0 : decode cX6_comes 0 = .ok (.iload_n 1, 1) := by decide +kernel
theorem dX6_comes_1 : decode cX6_comes 1 = .ok (.iconst 0, 1) := by decide +kernel
theorem dX6_comes_2 : decode cX6_comes 2 = .ok (.bipush 11, 2) := by decide +kernel
theorem dX6_comes_4 : decode cX6_comes 4 = .ok (.invokestatic 62, 3) := by decide +kernel
theorem dX6_comes_7 : decode cX6_comes 7 = .ok (.ifCond .eq 13, 3) := by decide +kernel
theorem dX6_comes_10 : decode cX6_comes 10 = .ok (.iload_n 2, 1) := by decide +kernel
theorem dX6_comes_11 : decode cX6_comes 11 = .ok (.iconst 0, 1) := by decide +kernel
theorem dX6_comes_12 : decode cX6_comes 12 = .ok (.bipush 60, 2) := by decide +kernel
theorem dX6_comes_14 : decode cX6_comes 14 = .ok (.invokestatic 62, 3) := by decide +kernel
theorem dX6_comes_17 : decode cX6_comes 17 = .ok (.ifCond .ne 10, 3) := by decide +kernel
theorem dX6_comes_20 : decode cX6_comes 20 = .ok (.aload_n 0, 1) := by decide +kernel
theorem dX6_comes_21 : decode cX6_comes 21 = .ok (.bipush (-2), 2) := by decide +kernel
theorem dX6_comes_23 : decode cX6_comes 23 = .ok (.invokevirtual 66, 3) := by decide +kernel
theorem dX6_comes_26 : decode cX6_comes 26 = .ok (.ireturn, 1) := by decide +kernel
theorem dX6_comes_27 : decode cX6_comes 27 = .ok (.iconst 0, 1) := by decide +kernel
theorem dX6_comes_28 : decode cX6_comes 28 = .ok (.istore_n 3, 1) := by decide +kernel
theorem dX6_comes_29 : decode cX6_comes 29 = .ok (.iconst 0, 1) := by decide +kernel
theorem dX6_comes_30 : decode cX6_comes 30 = .ok (.istore 4, 2) := by decide +kernel
theorem dX6_comes_32 : decode cX6_comes 32 = .ok (.iload 4, 2) := by decide +kernel
theorem dX6_comes_34 : decode cX6_comes 34 = .ok (.bipush 12, 2) := by decide +kernel
theorem dX6_comes_36 : decode cX6_comes 36 = .ok (.if_icmp .ge 30, 3) := by decide +kernel
theorem dX6_comes_39 : decode cX6_comes 39 = .ok (.aload_n 0, 1) := by decide +kernel
theorem dX6_comes_40 : decode cX6_comes 40 = .ok (.getfield 10, 3) := by decide +kernel
theorem dX6_comes_43 : decode cX6_comes 43 = .ok (.iload 4, 2) := by decide +kernel
theorem dX6_comes_45 : decode cX6_comes 45 = .ok (.iload_n 2, 1) := by decide +kernel
theorem dX6_comes_46 : decode cX6_comes 46 = .ok (.invokevirtual 172, 3) := by decide +kernel
theorem dX6_comes_49 : decode cX6_comes 49 = .ok (.iload_n 1, 1) := by decide +kernel
theorem dX6_comes_50 : decode cX6_comes 50 = .ok (.if_icmp .ne 10, 3) := by decide +kernel
theorem dX6_comes_53 : decode cX6_comes 53 = .ok (.iload_n 3, 1) := by decide +kernel
theorem dX6_comes_54 : decode cX6_comes 54 = .ok (.iconst 1, 1) := by decide +kernel
theorem dX6_comes_55 : decode cX6_comes 55 = .ok (.iload 4, 2) := by decide +kernel
theorem dX6_comes_57 : decode cX6_comes 57 = .ok (.ishl, 1) := by decide +kernel
theorem dX6_comes_58 : decode cX6_comes 58 = .ok (.ior, 1) := by decide +kernel
theorem dX6_comes_59 : decode cX6_comes 59 = .ok (.istore_n 3, 1) := by decide +kernel
theorem dX6_comes_60 : decode cX6_comes 60 = .ok (.iinc 4 1, 3) := by decide +kernel
theorem dX6_comes_63 : decode cX6_comes 63 = .ok (.goto (-31), 3) := by decide +kernel
theorem dX6_comes_66 : decode cX6_comes 66 = .ok (.iload_n 3, 1) := by decide +kernel
theorem dX6_comes_67 : decode cX6_comes 67 = .ok (.ireturn, 1) := by decide +kernel
theorem dX6_walk_0 : decode cX6_walk 0 = .ok (.iload_n 1, 1) := by decide +kernel
theorem dX6_walk_1 : decode cX6_walk 1 = .ok (.iconst 0, 1) := by decide +kernel
theorem dX6_walk_2 : decode cX6_walk 2 = .ok (.iconst 1, 1) := by decide +kernel
theorem dX6_walk_3 : decode cX6_walk 3 = .ok (.aload_n 0, 1) := by decide +kernel
theorem dX6_walk_4 : decode cX6_walk 4 = .ok (.getfield 10, 3) := by decide +kernel
theorem dX6_walk_7 : decode cX6_walk 7 = .ok (.getfield 56, 3) := by decide +kernel
theorem dX6_walk_10 : decode cX6_walk 10 = .ok (.ishl, 1) := by decide +kernel
theorem dX6_walk_11 : decode cX6_walk 11 = .ok (.iconst 1, 1) := by decide +kernel
theorem dX6_walk_12 : decode cX6_walk 12 = .ok (.isub, 1) := by decide +kernel
theorem dX6_walk_13 : decode cX6_walk 13 = .ok (.invokestatic 62, 3) := by decide +kernel
theorem dX6_walk_16 : decode cX6_walk 16 = .ok (.ifCond .eq 14, 3) := by decide +kernel
theorem dX6_walk_19 : decode cX6_walk 19 = .ok (.iload_n 2, 1) := by decide +kernel
theorem dX6_walk_20 : decode cX6_walk 20 = .ok (.bipush (-2), 2) := by decide +kernel
theorem dX6_walk_22 : decode cX6_walk 22 = .ok (.if_icmp .lt 8, 3) := by decide +kernel
theorem dX6_walk_25 : decode cX6_walk 25 = .ok (.iload_n 2, 1) := by decide +kernel
theorem dX6_walk_26 : decode cX6_walk 26 = .ok (.iconst (-1), 1) := by decide +kernel
theorem dX6_walk_27 : decode cX6_walk 27 = .ok (.if_icmp .ne 10, 3) := by decide +kernel
theorem dX6_walk_30 : decode cX6_walk 30 = .ok (.aload_n 0, 1) := by decide +kernel
theorem dX6_walk_31 : decode cX6_walk 31 = .ok (.bipush (-10), 2) := by decide +kernel
theorem dX6_walk_33 : decode cX6_walk 33 = .ok (.invokevirtual 66, 3) := by decide +kernel
theorem dX6_walk_36 : decode cX6_walk 36 = .ok (.ireturn, 1) := by decide +kernel
theorem dX6_walk_37 : decode cX6_walk 37 = .ok (.aload_n 0, 1) := by decide +kernel
theorem dX6_walk_38 : decode cX6_walk 38 = .ok (.getfield 37, 3) := by decide +kernel
theorem dX6_walk_41 : decode cX6_walk 41 = .ok (.aload_n 0, 1) := by decide +kernel
theorem dX6_walk_42 : decode cX6_walk 42 = .ok (.getfield 10, 3) := by decide +kernel
theorem dX6_walk_45 : decode cX6_walk 45 = .ok (.iload_n 1, 1) := by decide +kernel
theorem dX6_walk_46 : decode cX6_walk 46 = .ok (.invokevirtual 175, 3) := by decide +kernel
theorem dX6_walk_49 : decode cX6_walk 49 = .ok (.ifCond .ne 6, 3) := by decide +kernel
theorem dX6_walk_52 : decode cX6_walk 52 = .ok (.bipush (-6), 2) := by decide +kernel
theorem dX6_walk_54 : decode cX6_walk 54 = .ok (.ireturn, 1) := by decide +kernel
theorem dX6_walk_55 : decode cX6_walk 55 = .ok (.iload_n 2, 1) := by decide +kernel
theorem dX6_walk_56 : decode cX6_walk 56 = .ok (.bipush (-2), 2) := by decide +kernel
theorem dX6_walk_58 : decode cX6_walk 58 = .ok (.if_icmp .ne 11, 3) := by decide +kernel
theorem dX6_walk_61 : decode cX6_walk 61 = .ok (.aload_n 0, 1) := by decide +kernel
theorem dX6_walk_62 : decode cX6_walk 62 = .ok (.getfield 37, 3) := by decide +kernel
theorem dX6_walk_65 : decode cX6_walk 65 = .ok (.getfield 179, 3) := by decide +kernel
theorem dX6_walk_68 : decode cX6_walk 68 = .ok (.ireturn, 1) := by decide +kernel
theorem dX6_walk_69 : decode cX6_walk 69 = .ok (.iload_n 2, 1) := by decide +kernel
theorem dX6_walk_70 : decode cX6_walk 70 = .ok (.aload_n 0, 1) := by decide +kernel
theorem dX6_walk_71 : decode cX6_walk 71 = .ok (.getfield 37, 3) := by decide +kernel
theorem dX6_walk_74 : decode cX6_walk 74 = .ok (.getfield 179, 3) := by decide +kernel
theorem dX6_walk_77 : decode cX6_walk 77 = .ok (.if_icmp .ge 14, 3) := by decide +kernel
theorem dX6_walk_80 : decode cX6_walk 80 = .ok (.aload_n 0, 1) := by decide +kernel
theorem dX6_walk_81 : decode cX6_walk 81 = .ok (.getfield 37, 3) := by decide +kernel
theorem dX6_walk_84 : decode cX6_walk 84 = .ok (.iload_n 2, 1) := by decide +kernel
theorem dX6_walk_85 : decode cX6_walk 85 = .ok (.invokevirtual 182, 3) := by decide +kernel
theorem dX6_walk_88 : decode cX6_walk 88 = .ok (.goto 5, 3) := by decide +kernel
theorem dX6_walk_91 : decode cX6_walk 91 = .ok (.bipush (-5), 2) := by decide +kernel
theorem dX6_walk_93 : decode cX6_walk 93 = .ok (.ireturn, 1) := by decide +kernel
theorem dX6_right_0 : decode cX6_right 0 = .ok (.aload_n 0, 1) := by decide +kernel
theorem dX6_right_1 : decode cX6_right 1 = .ok (.getfield 10, 3) := by decide +kernel
theorem dX6_right_4 : decode cX6_right 4 = .ok (.invokevirtual 185, 3) := by decide +kernel
theorem dX6_right_7 : decode cX6_right 7 = .ok (.ireturn, 1) := by decide +kernel
theorem dX6_order_0 : decode cX6_order 0 = .ok (.iload_n 1, 1) := by decide +kernel
theorem dX6_order_1 : decode cX6_order 1 = .ok (.iconst (-1), 1) := by decide +kernel
theorem dX6_order_2 : decode cX6_order 2 = .ok (.if_icmp .ge 10, 3) := by decide +kernel
theorem dX6_order_5 : decode cX6_order 5 = .ok (.aload_n 0, 1) := by decide +kernel
theorem dX6_order_6 : decode cX6_order 6 = .ok (.bipush (-10), 2) := by decide +kernel
theorem dX6_order_8 : decode cX6_order 8 = .ok (.invokevirtual 66, 3) := by decide +kernel
theorem dX6_order_11 : decode cX6_order 11 = .ok (.ireturn, 1) := by decide +kernel
theorem dX6_order_12 : decode cX6_order 12 = .ok (.aload_n 0, 1) := by decide +kernel
theorem dX6_order_13 : decode cX6_order 13 = .ok (.getfield 44, 3) := by decide +kernel
theorem dX6_order_16 : decode cX6_order 16 = .ok (.aload_n 0, 1) := by decide +kernel
theorem dX6_order_17 : decode cX6_order 17 = .ok (.getfield 10, 3) := by decide +kernel
theorem dX6_order_20 : decode cX6_order 20 = .ok (.invokevirtual 188, 3) := by decide +kernel
theorem dX6_order_23 : decode cX6_order 23 = .ok (.iload_n 1, 1) := by decide +kernel
theorem dX6_order_24 : decode cX6_order 24 = .ok (.iconst (-1), 1) := by decide +kernel
theorem dX6_order_25 : decode cX6_order 25 = .ok (.if_icmp .ne 11, 3) := by decide +kernel
theorem dX6_order_28 : decode cX6_order 28 = .ok (.aload_n 0, 1) := by decide +kernel
theorem dX6_order_29 : decode cX6_order 29 = .ok (.getfield 44, 3) := by decide +kernel
theorem dX6_order_32 : decode cX6_order 32 = .ok (.getfield 190, 3) := by decide +kernel
theorem dX6_order_35 : decode cX6_order 35 = .ok (.ireturn, 1) := by decide +kernel
theorem dX6_order_36 : decode cX6_order 36 = .ok (.iload_n 1, 1) := by decide +kernel
theorem dX6_order_37 : decode cX6_order 37 = .ok (.aload_n 0, 1) := by decide +kernel
theorem dX6_order_38 : decode cX6_order 38 = .ok (.getfield 44, 3) := by decide +kernel
theorem dX6_order_41 : decode cX6_order 41 = .ok (.getfield 193, 3) := by decide +kernel
theorem dX6_order_44 : decode cX6_order 44 = .ok (.if_icmp .ge 15, 3) := by decide +kernel
theorem dX6_order_47 : decode cX6_order 47 = .ok (.aload_n 0, 1) := by decide +kernel
theorem dX6_order_48 : decode cX6_order 48 = .ok (.getfield 44, 3) := by decide +kernel
theorem dX6_order_51 : decode cX6_order 51 = .ok (.getfield 196, 3) := by decide +kernel
theorem dX6_order_54 : decode cX6_order 54 = .ok (.iload_n 1, 1) := by decide +kernel
theorem dX6_order_55 : decode cX6_order 55 = .ok (.iaload, 1) := by decide +kernel
theorem dX6_order_56 : decode cX6_order 56 = .ok (.goto 5, 3) := by decide +kernel
theorem dX6_order_59 : decode cX6_order 59 = .ok (.bipush (-5), 2) := by decide +kernel
theorem dX6_order_61 : decode cX6_order 61 = .ok (.ireturn, 1) := by decide +kernel
theorem dX6_swaps_0 : decode cX6_swaps 0 = .ok (.aload_n 0, 1) := by decide +kernel
theorem dX6_swaps_1 : decode cX6_swaps 1 = .ok (.getfield 48, 3) := by decide +kernel
theorem dX6_swaps_4 : decode cX6_swaps 4 = .ok (.astore_n 1, 1) := by decide +kernel
theorem dX6_swaps_5 : decode cX6_swaps 5 = .ok (.aload_n 0, 1) := by decide +kernel
theorem dX6_swaps_6 : decode cX6_swaps 6 = .ok (.getfield 10, 3) := by decide +kernel
theorem dX6_swaps_9 : decode cX6_swaps 9 = .ok (.getfield 119, 3) := by decide +kernel
theorem dX6_swaps_12 : decode cX6_swaps 12 = .ok (.getfield 144, 3) := by decide +kernel
theorem dX6_swaps_15 : decode cX6_swaps 15 = .ok (.iconst 0, 1) := by decide +kernel
theorem dX6_swaps_16 : decode cX6_swaps 16 = .ok (.aload_n 1, 1) := by decide +kernel
theorem dX6_swaps_17 : decode cX6_swaps 17 = .ok (.iconst 0, 1) := by decide +kernel
theorem dX6_swaps_18 : decode cX6_swaps 18 = .ok (.bipush 6, 2) := by decide +kernel
theorem dX6_swaps_20 : decode cX6_swaps 20 = .ok (.invokestatic 199, 3) := by decide +kernel
theorem dX6_swaps_23 : decode cX6_swaps 23 = .ok (.iconst 0, 1) := by decide +kernel
theorem dX6_swaps_24 : decode cX6_swaps 24 = .ok (.istore_n 2, 1) := by decide +kernel
theorem dX6_swaps_25 : decode cX6_swaps 25 = .ok (.aload_n 0, 1) := by decide +kernel
theorem dX6_swaps_26 : decode cX6_swaps 26 = .ok (.getfield 10, 3) := by decide +kernel
theorem dX6_swaps_29 : decode cX6_swaps 29 = .ok (.getfield 56, 3) := by decide +kernel
theorem dX6_swaps_32 : decode cX6_swaps 32 = .ok (.aload_n 0, 1) := by decide +kernel
theorem dX6_swaps_33 : decode cX6_swaps 33 = .ok (.getfield 10, 3) := by decide +kernel
theorem dX6_swaps_36 : decode cX6_swaps 36 = .ok (.getfield 84, 3) := by decide +kernel
theorem dX6_swaps_39 : decode cX6_swaps 39 = .ok (.invokestatic 205, 3) := by decide +kernel
theorem dX6_swaps_42 : decode cX6_swaps 42 = .ok (.istore_n 3, 1) := by decide +kernel
theorem dX6_swaps_43 : decode cX6_swaps 43 = .ok (.iconst 0, 1) := by decide +kernel
theorem dX6_swaps_44 : decode cX6_swaps 44 = .ok (.istore 4, 2) := by decide +kernel
theorem dX6_swaps_46 : decode cX6_swaps 46 = .ok (.iload 4, 2) := by decide +kernel
theorem dX6_swaps_48 : decode cX6_swaps 48 = .ok (.iload_n 3, 1) := by decide +kernel
theorem dX6_swaps_49 : decode cX6_swaps 49 = .ok (.if_icmp .ge 73, 3) := by decide +kernel
theorem dX6_swaps_52 : decode cX6_swaps 52 = .ok (.aload_n 1, 1) := by decide +kernel
theorem dX6_swaps_53 : decode cX6_swaps 53 = .ok (.iload 4, 2) := by decide +kernel
theorem dX6_swaps_55 : decode cX6_swaps 55 = .ok (.iaload, 1) := by decide +kernel
theorem dX6_swaps_56 : decode cX6_swaps 56 = .ok (.istore 5, 2) := by decide +kernel
theorem dX6_swaps_58 : decode cX6_swaps 58 = .ok (.iload 5, 2) := by decide +kernel
theorem dX6_swaps_60 : decode cX6_swaps 60 = .ok (.iconst (-1), 1) := by decide +kernel
theorem dX6_swaps_61 : decode cX6_swaps 61 = .ok (.if_icmp .eq 55, 3) := by decide +kernel
theorem dX6_swaps_64 : decode cX6_swaps 64 = .ok (.iload 5, 2) := by decide +kernel
theorem dX6_swaps_66 : decode cX6_swaps 66 = .ok (.iload 4, 2) := by decide +kernel
theorem dX6_swaps_68 : decode cX6_swaps 68 = .ok (.if_icmp .eq 48, 3) := by decide +kernel
theorem dX6_swaps_71 : decode cX6_swaps 71 = .ok (.iconst 0, 1) := by decide +kernel
theorem dX6_swaps_72 : decode cX6_swaps 72 = .ok (.istore 6, 2) := by decide +kernel
theorem dX6_swaps_74 : decode cX6_swaps 74 = .ok (.iload 6, 2) := by decide +kernel
theorem dX6_swaps_76 : decode cX6_swaps 76 = .ok (.aload_n 0, 1) := by decide +kernel
theorem dX6_swaps_77 : decode cX6_swaps 77 = .ok (.getfield 10, 3) := by decide +kernel
theorem dX6_swaps_80 : decode cX6_swaps 80 = .ok (.getfield 56, 3) := by decide +kernel
theorem dX6_swaps_83 : decode cX6_swaps 83 = .ok (.if_icmp .ge 24, 3) := by decide +kernel
theorem dX6_swaps_86 : decode cX6_swaps 86 = .ok (.aload_n 1, 1) := by decide +kernel
theorem dX6_swaps_87 : decode cX6_swaps 87 = .ok (.iload 6, 2) := by decide +kernel
theorem dX6_swaps_89 : decode cX6_swaps 89 = .ok (.iaload, 1) := by decide +kernel
theorem dX6_swaps_90 : decode cX6_swaps 90 = .ok (.iload 4, 2) := by decide +kernel
theorem dX6_swaps_92 : decode cX6_swaps 92 = .ok (.if_icmp .ne 9, 3) := by decide +kernel
theorem dX6_swaps_95 : decode cX6_swaps 95 = .ok (.aload_n 1, 1) := by decide +kernel
theorem dX6_swaps_96 : decode cX6_swaps 96 = .ok (.iload 6, 2) := by decide +kernel
theorem dX6_swaps_98 : decode cX6_swaps 98 = .ok (.iload 5, 2) := by decide +kernel
theorem dX6_swaps_100 : decode cX6_swaps 100 = .ok (.iastore, 1) := by decide +kernel
theorem dX6_swaps_101 : decode cX6_swaps 101 = .ok (.iinc 6 1, 3) := by decide +kernel
theorem dX6_swaps_104 : decode cX6_swaps 104 = .ok (.goto (-30), 3) := by decide +kernel
theorem dX6_swaps_107 : decode cX6_swaps 107 = .ok (.aload_n 1, 1) := by decide +kernel
theorem dX6_swaps_108 : decode cX6_swaps 108 = .ok (.iload 4, 2) := by decide +kernel
theorem dX6_swaps_110 : decode cX6_swaps 110 = .ok (.iload 4, 2) := by decide +kernel
theorem dX6_swaps_112 : decode cX6_swaps 112 = .ok (.iastore, 1) := by decide +kernel
theorem dX6_swaps_113 : decode cX6_swaps 113 = .ok (.iinc 2 1, 3) := by decide +kernel
theorem dX6_swaps_116 : decode cX6_swaps 116 = .ok (.iinc 4 1, 3) := by decide +kernel
theorem dX6_swaps_119 : decode cX6_swaps 119 = .ok (.goto (-73), 3) := by decide +kernel
theorem dX6_swaps_122 : decode cX6_swaps 122 = .ok (.iload_n 2, 1) := by decide +kernel
theorem dX6_swaps_123 : decode cX6_swaps 123 = .ok (.ireturn, 1) := by decide +kernel
theorem dX6_seen_0 : decode cX6_seen 0 = .ok (.iload_n 1, 1) := by decide +kernel
theorem dX6_seen_1 : decode cX6_seen 1 = .ok (.iconst 0, 1) := by decide +kernel
theorem dX6_seen_2 : decode cX6_seen 2 = .ok (.bipush 60, 2) := by decide +kernel
theorem dX6_seen_4 : decode cX6_seen 4 = .ok (.invokestatic 62, 3) := by decide +kernel
theorem dX6_seen_7 : decode cX6_seen 7 = .ok (.ifCond .eq 13, 3) := by decide +kernel
theorem dX6_seen_10 : decode cX6_seen 10 = .ok (.iload_n 2, 1) := by decide +kernel
theorem dX6_seen_11 : decode cX6_seen 11 = .ok (.iconst 0, 1) := by decide +kernel
theorem dX6_seen_12 : decode cX6_seen 12 = .ok (.bipush 11, 2) := by decide +kernel
theorem dX6_seen_14 : decode cX6_seen 14 = .ok (.invokestatic 62, 3) := by decide +kernel
theorem dX6_seen_17 : decode cX6_seen 17 = .ok (.ifCond .ne 10, 3) := by decide +kernel
theorem dX6_seen_20 : decode cX6_seen 20 = .ok (.aload_n 0, 1) := by decide +kernel
theorem dX6_seen_21 : decode cX6_seen 21 = .ok (.bipush (-2), 2) := by decide +kernel
theorem dX6_seen_23 : decode cX6_seen 23 = .ok (.invokevirtual 66, 3) := by decide +kernel
theorem dX6_seen_26 : decode cX6_seen 26 = .ok (.ireturn, 1) := by decide +kernel
theorem dX6_seen_27 : decode cX6_seen 27 = .ok (.aload_n 0, 1) := by decide +kernel
theorem dX6_seen_28 : decode cX6_seen 28 = .ok (.getfield 10, 3) := by decide +kernel
theorem dX6_seen_31 : decode cX6_seen 31 = .ok (.getfield 210, 3) := by decide +kernel
theorem dX6_seen_34 : decode cX6_seen 34 = .ok (.getfield 214, 3) := by decide +kernel
theorem dX6_seen_37 : decode cX6_seen 37 = .ok (.iconst 5, 1) := by decide +kernel
theorem dX6_seen_38 : decode cX6_seen 38 = .ok (.if_icmp .lt 8, 3) := by decide +kernel
theorem dX6_seen_41 : decode cX6_seen 41 = .ok (.aload_n 0, 1) := by decide +kernel
theorem dX6_seen_42 : decode cX6_seen 42 = .ok (.invokevirtual 76, 3) := by decide +kernel
theorem dX6_seen_45 : decode cX6_seen 45 = .ok (.ireturn, 1) := by decide +kernel
theorem dX6_seen_46 : decode cX6_seen 46 = .ok (.aload_n 0, 1) := by decide +kernel
theorem dX6_seen_47 : decode cX6_seen 47 = .ok (.getfield 10, 3) := by decide +kernel
theorem dX6_seen_50 : decode cX6_seen 50 = .ok (.getfield 210, 3) := by decide +kernel
theorem dX6_seen_53 : decode cX6_seen 53 = .ok (.iload_n 1, 1) := by decide +kernel
theorem dX6_seen_54 : decode cX6_seen 54 = .ok (.iload_n 2, 1) := by decide +kernel
theorem dX6_seen_55 : decode cX6_seen 55 = .ok (.iconst 0, 1) := by decide +kernel
theorem dX6_seen_56 : decode cX6_seen 56 = .ok (.iconst 0, 1) := by decide +kernel
theorem dX6_seen_57 : decode cX6_seen 57 = .ok (.invokevirtual 217, 3) := by decide +kernel
theorem dX6_seen_60 : decode cX6_seen 60 = .ok (.ireturn, 1) := by decide +kernel
theorem dX6_which_0 : decode cX6_which 0 = .ok (.aload_n 0, 1) := by decide +kernel
theorem dX6_which_1 : decode cX6_which 1 = .ok (.invokevirtual 221, 3) := by decide +kernel
theorem dX6_which_4 : decode cX6_which 4 = .ok (.ireturn, 1) := by decide +kernel
theorem dX6_tell_0 : decode cX6_tell 0 = .ok (.aload_n 0, 1) := by decide +kernel
theorem dX6_tell_1 : decode cX6_tell 1 = .ok (.invokevirtual 221, 3) := by decide +kernel
theorem dX6_tell_4 : decode cX6_tell 4 = .ok (.istore_n 1, 1) := by decide +kernel
theorem dX6_tell_5 : decode cX6_tell 5 = .ok (.aload_n 0, 1) := by decide +kernel
theorem dX6_tell_6 : decode cX6_tell 6 = .ok (.getfield 10, 3) := by decide +kernel
theorem dX6_tell_9 : decode cX6_tell 9 = .ok (.getfield 119, 3) := by decide +kernel
theorem dX6_tell_12 : decode cX6_tell 12 = .ok (.getfield 224, 3) := by decide +kernel
theorem dX6_tell_15 : decode cX6_tell 15 = .ok (.iconst 0, 1) := by decide +kernel
theorem dX6_tell_16 : decode cX6_tell 16 = .ok (.aload_n 0, 1) := by decide +kernel
theorem dX6_tell_17 : decode cX6_tell 17 = .ok (.getfield 48, 3) := by decide +kernel
theorem dX6_tell_20 : decode cX6_tell 20 = .ok (.iconst 0, 1) := by decide +kernel
theorem dX6_tell_21 : decode cX6_tell 21 = .ok (.bipush 6, 2) := by decide +kernel
theorem dX6_tell_23 : decode cX6_tell 23 = .ok (.invokestatic 199, 3) := by decide +kernel
theorem dX6_tell_26 : decode cX6_tell 26 = .ok (.bipush 7, 2) := by decide +kernel
theorem dX6_tell_28 : decode cX6_tell 28 = .ok (.istore_n 2, 1) := by decide +kernel
theorem dX6_tell_29 : decode cX6_tell 29 = .ok (.iconst (-1), 1) := by decide +kernel
theorem dX6_tell_30 : decode cX6_tell 30 = .ok (.istore_n 3, 1) := by decide +kernel
theorem dX6_tell_31 : decode cX6_tell 31 = .ok (.iconst 0, 1) := by decide +kernel
theorem dX6_tell_32 : decode cX6_tell 32 = .ok (.istore 4, 2) := by decide +kernel
theorem dX6_tell_34 : decode cX6_tell 34 = .ok (.iload 4, 2) := by decide +kernel
theorem dX6_tell_36 : decode cX6_tell 36 = .ok (.bipush 20, 2) := by decide +kernel
theorem dX6_tell_38 : decode cX6_tell 38 = .ok (.if_icmp .gt 82, 3) := by decide +kernel
theorem dX6_tell_41 : decode cX6_tell 41 = .ok (.iload_n 1, 1) := by decide +kernel
theorem dX6_tell_42 : decode cX6_tell 42 = .ok (.ifCond .eq 78, 3) := by decide +kernel
theorem dX6_tell_45 : decode cX6_tell 45 = .ok (.iload_n 1, 1) := by decide +kernel
theorem dX6_tell_46 : decode cX6_tell 46 = .ok (.aload_n 0, 1) := by decide +kernel
theorem dX6_tell_47 : decode cX6_tell 47 = .ok (.getfield 48, 3) := by decide +kernel
theorem dX6_tell_50 : decode cX6_tell 50 = .ok (.invokestatic 227, 3) := by decide +kernel
theorem dX6_tell_53 : decode cX6_tell 53 = .ok (.istore 5, 2) := by decide +kernel
theorem dX6_tell_55 : decode cX6_tell 55 = .ok (.iload 5, 2) := by decide +kernel
theorem dX6_tell_57 : decode cX6_tell 57 = .ok (.iload_n 2, 1) := by decide +kernel
theorem dX6_tell_58 : decode cX6_tell 58 = .ok (.if_icmp .ge 9, 3) := by decide +kernel
theorem dX6_tell_61 : decode cX6_tell 61 = .ok (.iload 5, 2) := by decide +kernel
theorem dX6_tell_63 : decode cX6_tell 63 = .ok (.istore_n 2, 1) := by decide +kernel
theorem dX6_tell_64 : decode cX6_tell 64 = .ok (.iload 4, 2) := by decide +kernel
theorem dX6_tell_66 : decode cX6_tell 66 = .ok (.istore_n 3, 1) := by decide +kernel
theorem dX6_tell_67 : decode cX6_tell 67 = .ok (.iconst 0, 1) := by decide +kernel
theorem dX6_tell_68 : decode cX6_tell 68 = .ok (.istore 6, 2) := by decide +kernel
theorem dX6_tell_70 : decode cX6_tell 70 = .ok (.iload 6, 2) := by decide +kernel
theorem dX6_tell_72 : decode cX6_tell 72 = .ok (.bipush 6, 2) := by decide +kernel
theorem dX6_tell_74 : decode cX6_tell 74 = .ok (.if_icmp .ge 40, 3) := by decide +kernel
theorem dX6_tell_77 : decode cX6_tell 77 = .ok (.iload_n 1, 1) := by decide +kernel
theorem dX6_tell_78 : decode cX6_tell 78 = .ok (.iload 6, 2) := by decide +kernel
theorem dX6_tell_80 : decode cX6_tell 80 = .ok (.invokestatic 231, 3) := by decide +kernel
theorem dX6_tell_83 : decode cX6_tell 83 = .ok (.ifCond .eq 25, 3) := by decide +kernel
theorem dX6_tell_86 : decode cX6_tell 86 = .ok (.aload_n 0, 1) := by decide +kernel
theorem dX6_tell_87 : decode cX6_tell 87 = .ok (.getfield 48, 3) := by decide +kernel
theorem dX6_tell_90 : decode cX6_tell 90 = .ok (.iload 6, 2) := by decide +kernel
theorem dX6_tell_92 : decode cX6_tell 92 = .ok (.aload_n 0, 1) := by decide +kernel
theorem dX6_tell_93 : decode cX6_tell 93 = .ok (.getfield 10, 3) := by decide +kernel
theorem dX6_tell_96 : decode cX6_tell 96 = .ok (.aload_n 0, 1) := by decide +kernel
theorem dX6_tell_97 : decode cX6_tell 97 = .ok (.getfield 48, 3) := by decide +kernel
theorem dX6_tell_100 : decode cX6_tell 100 = .ok (.iload 6, 2) := by decide +kernel
theorem dX6_tell_102 : decode cX6_tell 102 = .ok (.iaload, 1) := by decide +kernel
theorem dX6_tell_103 : decode cX6_tell 103 = .ok (.iconst 1, 1) := by decide +kernel
theorem dX6_tell_104 : decode cX6_tell 104 = .ok (.invokevirtual 172, 3) := by decide +kernel
theorem dX6_tell_107 : decode cX6_tell 107 = .ok (.iastore, 1) := by decide +kernel
theorem dX6_tell_108 : decode cX6_tell 108 = .ok (.iinc 6 1, 3) := by decide +kernel
theorem dX6_tell_111 : decode cX6_tell 111 = .ok (.goto (-41), 3) := by decide +kernel
theorem dX6_tell_114 : decode cX6_tell 114 = .ok (.iinc 4 1, 3) := by decide +kernel
theorem dX6_tell_117 : decode cX6_tell 117 = .ok (.goto (-83), 3) := by decide +kernel
theorem dX6_tell_120 : decode cX6_tell 120 = .ok (.iload_n 3, 1) := by decide +kernel
theorem dX6_tell_121 : decode cX6_tell 121 = .ok (.ireturn, 1) := by decide +kernel
theorem dX6_note_0 : decode cX6_note 0 = .ok (.aload_n 0, 1) := by decide +kernel
theorem dX6_note_1 : decode cX6_note 1 = .ok (.getfield 10, 3) := by decide +kernel
theorem dX6_note_4 : decode cX6_note 4 = .ok (.iload_n 1, 1) := by decide +kernel
theorem dX6_note_5 : decode cX6_note 5 = .ok (.invokevirtual 153, 3) := by decide +kernel
theorem dX6_note_8 : decode cX6_note 8 = .ok (.ifCond .eq 34, 3) := by decide +kernel
theorem dX6_note_11 : decode cX6_note 11 = .ok (.iload_n 2, 1) := by decide +kernel
theorem dX6_note_12 : decode cX6_note 12 = .ok (.iconst 1, 1) := by decide +kernel
theorem dX6_note_13 : decode cX6_note 13 = .ok (.bipush 9, 2) := by decide +kernel
theorem dX6_note_15 : decode cX6_note 15 = .ok (.invokestatic 62, 3) := by decide +kernel
theorem dX6_note_18 : decode cX6_note 18 = .ok (.ifCond .eq 24, 3) := by decide +kernel
theorem dX6_note_21 : decode cX6_note 21 = .ok (.iload_n 3, 1) := by decide +kernel
theorem dX6_note_22 : decode cX6_note 22 = .ok (.iconst 0, 1) := by decide +kernel
theorem dX6_note_23 : decode cX6_note 23 = .ok (.bipush 99, 2) := by decide +kernel
theorem dX6_note_25 : decode cX6_note 25 = .ok (.invokestatic 62, 3) := by decide +kernel
theorem dX6_note_28 : decode cX6_note 28 = .ok (.ifCond .eq 14, 3) := by decide +kernel
theorem dX6_note_31 : decode cX6_note 31 = .ok (.iload 4, 2) := by decide +kernel
theorem dX6_note_33 : decode cX6_note 33 = .ok (.iconst 0, 1) := by decide +kernel
theorem dX6_note_34 : decode cX6_note 34 = .ok (.bipush 30, 2) := by decide +kernel
theorem dX6_note_36 : decode cX6_note 36 = .ok (.invokestatic 62, 3) := by decide +kernel
theorem dX6_note_39 : decode cX6_note 39 = .ok (.ifCond .ne 10, 3) := by decide +kernel
theorem dX6_note_42 : decode cX6_note 42 = .ok (.aload_n 0, 1) := by decide +kernel
theorem dX6_note_43 : decode cX6_note 43 = .ok (.bipush (-2), 2) := by decide +kernel
theorem dX6_note_45 : decode cX6_note 45 = .ok (.invokevirtual 66, 3) := by decide +kernel
theorem dX6_note_48 : decode cX6_note 48 = .ok (.ireturn, 1) := by decide +kernel
theorem dX6_note_49 : decode cX6_note 49 = .ok (.aload_n 0, 1) := by decide +kernel
theorem dX6_note_50 : decode cX6_note 50 = .ok (.getfield 10, 3) := by decide +kernel
theorem dX6_note_53 : decode cX6_note 53 = .ok (.getfield 235, 3) := by decide +kernel
theorem dX6_note_56 : decode cX6_note 56 = .ok (.getfield 214, 3) := by decide +kernel
theorem dX6_note_59 : decode cX6_note 59 = .ok (.bipush 6, 2) := by decide +kernel
theorem dX6_note_61 : decode cX6_note 61 = .ok (.if_icmp .lt 8, 3) := by decide +kernel
theorem dX6_note_64 : decode cX6_note 64 = .ok (.aload_n 0, 1) := by decide +kernel
theorem dX6_note_65 : decode cX6_note 65 = .ok (.invokevirtual 76, 3) := by decide +kernel
theorem dX6_note_68 : decode cX6_note 68 = .ok (.ireturn, 1) := by decide +kernel
theorem dX6_note_69 : decode cX6_note 69 = .ok (.aload_n 0, 1) := by decide +kernel
theorem dX6_note_70 : decode cX6_note 70 = .ok (.getfield 10, 3) := by decide +kernel
theorem dX6_note_73 : decode cX6_note 73 = .ok (.getfield 235, 3) := by decide +kernel
theorem dX6_note_76 : decode cX6_note 76 = .ok (.iload_n 1, 1) := by decide +kernel
theorem dX6_note_77 : decode cX6_note 77 = .ok (.iload_n 2, 1) := by decide +kernel
theorem dX6_note_78 : decode cX6_note 78 = .ok (.iload_n 3, 1) := by decide +kernel
theorem dX6_note_79 : decode cX6_note 79 = .ok (.iload 4, 2) := by decide +kernel
theorem dX6_note_81 : decode cX6_note 81 = .ok (.invokevirtual 217, 3) := by decide +kernel
theorem dX6_note_84 : decode cX6_note 84 = .ok (.ireturn, 1) := by decide +kernel
theorem dX6_mark_0 : decode cX6_mark 0 = .ok (.aload_n 0, 1) := by decide +kernel
theorem dX6_mark_1 : decode cX6_mark 1 = .ok (.getfield 10, 3) := by decide +kernel
theorem dX6_mark_4 : decode cX6_mark 4 = .ok (.iload_n 1, 1) := by decide +kernel
theorem dX6_mark_5 : decode cX6_mark 5 = .ok (.invokevirtual 137, 3) := by decide +kernel
theorem dX6_mark_8 : decode cX6_mark 8 = .ok (.ifCond .eq 23, 3) := by decide +kernel
theorem dX6_mark_11 : decode cX6_mark 11 = .ok (.iload_n 2, 1) := by decide +kernel
theorem dX6_mark_12 : decode cX6_mark 12 = .ok (.iconst 0, 1) := by decide +kernel
theorem dX6_mark_13 : decode cX6_mark 13 = .ok (.bipush 30, 2) := by decide +kernel
theorem dX6_mark_15 : decode cX6_mark 15 = .ok (.invokestatic 62, 3) := by decide +kernel
theorem dX6_mark_18 : decode cX6_mark 18 = .ok (.ifCond .eq 13, 3) := by decide +kernel
theorem dX6_mark_21 : decode cX6_mark 21 = .ok (.iload_n 3, 1) := by decide +kernel
theorem dX6_mark_22 : decode cX6_mark 22 = .ok (.iconst 0, 1) := by decide +kernel
theorem dX6_mark_23 : decode cX6_mark 23 = .ok (.bipush 60, 2) := by decide +kernel
theorem dX6_mark_25 : decode cX6_mark 25 = .ok (.invokestatic 62, 3) := by decide +kernel
theorem dX6_mark_28 : decode cX6_mark 28 = .ok (.ifCond .ne 10, 3) := by decide +kernel
theorem dX6_mark_31 : decode cX6_mark 31 = .ok (.aload_n 0, 1) := by decide +kernel
theorem dX6_mark_32 : decode cX6_mark 32 = .ok (.bipush (-2), 2) := by decide +kernel
theorem dX6_mark_34 : decode cX6_mark 34 = .ok (.invokevirtual 66, 3) := by decide +kernel
theorem dX6_mark_37 : decode cX6_mark 37 = .ok (.ireturn, 1) := by decide +kernel
theorem dX6_mark_38 : decode cX6_mark 38 = .ok (.aload_n 0, 1) := by decide +kernel
theorem dX6_mark_39 : decode cX6_mark 39 = .ok (.getfield 10, 3) := by decide +kernel
theorem dX6_mark_42 : decode cX6_mark 42 = .ok (.getfield 238, 3) := by decide +kernel
theorem dX6_mark_45 : decode cX6_mark 45 = .ok (.getfield 214, 3) := by decide +kernel
theorem dX6_mark_48 : decode cX6_mark 48 = .ok (.bipush 6, 2) := by decide +kernel
theorem dX6_mark_50 : decode cX6_mark 50 = .ok (.if_icmp .lt 8, 3) := by decide +kernel
theorem dX6_mark_53 : decode cX6_mark 53 = .ok (.aload_n 0, 1) := by decide +kernel
theorem dX6_mark_54 : decode cX6_mark 54 = .ok (.invokevirtual 76, 3) := by decide +kernel
theorem dX6_mark_57 : decode cX6_mark 57 = .ok (.ireturn, 1) := by decide +kernel
theorem dX6_mark_58 : decode cX6_mark 58 = .ok (.aload_n 0, 1) := by decide +kernel
theorem dX6_mark_59 : decode cX6_mark 59 = .ok (.getfield 10, 3) := by decide +kernel
theorem dX6_mark_62 : decode cX6_mark 62 = .ok (.getfield 238, 3) := by decide +kernel
theorem dX6_mark_65 : decode cX6_mark 65 = .ok (.iload_n 1, 1) := by decide +kernel
theorem dX6_mark_66 : decode cX6_mark 66 = .ok (.iload_n 2, 1) := by decide +kernel
theorem dX6_mark_67 : decode cX6_mark 67 = .ok (.iload_n 3, 1) := by decide +kernel
theorem dX6_mark_68 : decode cX6_mark 68 = .ok (.iconst 0, 1) := by decide +kernel
theorem dX6_mark_69 : decode cX6_mark 69 = .ok (.invokevirtual 217, 3) := by decide +kernel
theorem dX6_mark_72 : decode cX6_mark 72 = .ok (.ireturn, 1) := by decide +kernel
theorem dX6_forget_0 : decode cX6_forget 0 = .ok (.iload_n 1, 1) := by decide +kernel
theorem dX6_forget_1 : decode cX6_forget 1 = .ok (.tableswitch 60 0 2 #[27, 38, 49], 27) := by decide +kernel
theorem dX6_forget_28 : decode cX6_forget 28 = .ok (.aload_n 0, 1) := by decide +kernel
theorem dX6_forget_29 : decode cX6_forget 29 = .ok (.getfield 10, 3) := by decide +kernel
theorem dX6_forget_32 : decode cX6_forget 32 = .ok (.getfield 210, 3) := by decide +kernel
theorem dX6_forget_35 : decode cX6_forget 35 = .ok (.invokevirtual 241, 3) := by decide +kernel
theorem dX6_forget_38 : decode cX6_forget 38 = .ok (.ireturn, 1) := by decide +kernel
theorem dX6_forget_39 : decode cX6_forget 39 = .ok (.aload_n 0, 1) := by decide +kernel
theorem dX6_forget_40 : decode cX6_forget 40 = .ok (.getfield 10, 3) := by decide +kernel
theorem dX6_forget_43 : decode cX6_forget 43 = .ok (.getfield 235, 3) := by decide +kernel
theorem dX6_forget_46 : decode cX6_forget 46 = .ok (.invokevirtual 241, 3) := by decide +kernel
theorem dX6_forget_49 : decode cX6_forget 49 = .ok (.ireturn, 1) := by decide +kernel
theorem dX6_forget_50 : decode cX6_forget 50 = .ok (.aload_n 0, 1) := by decide +kernel
theorem dX6_forget_51 : decode cX6_forget 51 = .ok (.getfield 10, 3) := by decide +kernel
theorem dX6_forget_54 : decode cX6_forget 54 = .ok (.getfield 238, 3) := by decide +kernel
theorem dX6_forget_57 : decode cX6_forget 57 = .ok (.invokevirtual 241, 3) := by decide +kernel
theorem dX6_forget_60 : decode cX6_forget 60 = .ok (.ireturn, 1) := by decide +kernel
theorem dX6_forget_61 : decode cX6_forget 61 = .ok (.aload_n 0, 1) := by decide +kernel
theorem dX6_forget_62 : decode cX6_forget 62 = .ok (.bipush (-2), 2) := by decide +kernel
theorem dX6_forget_64 : decode cX6_forget 64 = .ok (.invokevirtual 66, 3) := by decide +kernel
theorem dX6_forget_67 : decode cX6_forget 67 = .ok (.ireturn, 1) := by decide +kernel
theorem dX6_is_0 : decode cX6_is 0 = .ok (.aload_n 0, 1) := by decide +kernel
theorem dX6_is_1 : decode cX6_is 1 = .ok (.getfield 10, 3) := by decide +kernel
theorem dX6_is_4 : decode cX6_is 4 = .ok (.iload_n 1, 1) := by decide +kernel
theorem dX6_is_5 : decode cX6_is 5 = .ok (.invokevirtual 153, 3) := by decide +kernel
theorem dX6_is_8 : decode cX6_is 8 = .ok (.ifCond .ne 10, 3) := by decide +kernel
theorem dX6_is_11 : decode cX6_is 11 = .ok (.aload_n 0, 1) := by decide +kernel
theorem dX6_is_12 : decode cX6_is 12 = .ok (.bipush (-2), 2) := by decide +kernel
theorem dX6_is_14 : decode cX6_is 14 = .ok (.invokevirtual 66, 3) := by decide +kernel
theorem dX6_is_17 : decode cX6_is 17 = .ok (.ireturn, 1) := by decide +kernel
theorem dX6_is_18 : decode cX6_is 18 = .ok (.aload_n 0, 1) := by decide +kernel
theorem dX6_is_19 : decode cX6_is 19 = .ok (.iload_n 1, 1) := by decide +kernel
theorem dX6_is_20 : decode cX6_is 20 = .ok (.invokevirtual 244, 3) := by decide +kernel
theorem dX6_is_23 : decode cX6_is 23 = .ok (.ireturn, 1) := by decide +kernel
theorem dX6_look_0 : decode cX6_look 0 = .ok (.aload_n 0, 1) := by decide +kernel
theorem dX6_look_1 : decode cX6_look 1 = .ok (.getfield 10, 3) := by decide +kernel
theorem dX6_look_4 : decode cX6_look 4 = .ok (.iload_n 1, 1) := by decide +kernel
theorem dX6_look_5 : decode cX6_look 5 = .ok (.invokevirtual 153, 3) := by decide +kernel
theorem dX6_look_8 : decode cX6_look 8 = .ok (.ifCond .ne 10, 3) := by decide +kernel
theorem dX6_look_11 : decode cX6_look 11 = .ok (.aload_n 0, 1) := by decide +kernel
theorem dX6_look_12 : decode cX6_look 12 = .ok (.bipush (-2), 2) := by decide +kernel
theorem dX6_look_14 : decode cX6_look 14 = .ok (.invokevirtual 66, 3) := by decide +kernel
theorem dX6_look_17 : decode cX6_look 17 = .ok (.ireturn, 1) := by decide +kernel
theorem dX6_look_18 : decode cX6_look 18 = .ok (.aload_n 0, 1) := by decide +kernel
theorem dX6_look_19 : decode cX6_look 19 = .ok (.iload_n 1, 1) := by decide +kernel
theorem dX6_look_20 : decode cX6_look 20 = .ok (.invokevirtual 244, 3) := by decide +kernel
theorem dX6_look_23 : decode cX6_look 23 = .ok (.istore_n 2, 1) := by decide +kernel
theorem dX6_look_24 : decode cX6_look 24 = .ok (.bipush 7, 2) := by decide +kernel
theorem dX6_look_26 : decode cX6_look 26 = .ok (.istore_n 3, 1) := by decide +kernel
theorem dX6_look_27 : decode cX6_look 27 = .ok (.iconst (-1), 1) := by decide +kernel
theorem dX6_look_28 : decode cX6_look 28 = .ok (.istore 4, 2) := by decide +kernel
theorem dX6_look_30 : decode cX6_look 30 = .ok (.iconst 0, 1) := by decide +kernel
theorem dX6_look_31 : decode cX6_look 31 = .ok (.istore 5, 2) := by decide +kernel
theorem dX6_look_33 : decode cX6_look 33 = .ok (.iload 5, 2) := by decide +kernel
theorem dX6_look_35 : decode cX6_look 35 = .ok (.bipush 9, 2) := by decide +kernel
theorem dX6_look_37 : decode cX6_look 37 = .ok (.if_icmp .gt 75, 3) := by decide +kernel
theorem dX6_look_40 : decode cX6_look 40 = .ok (.iload_n 2, 1) := by decide +kernel
theorem dX6_look_41 : decode cX6_look 41 = .ok (.ifCond .eq 71, 3) := by decide +kernel
theorem dX6_look_44 : decode cX6_look 44 = .ok (.iconst 0, 1) := by decide +kernel
theorem dX6_look_45 : decode cX6_look 45 = .ok (.istore 6, 2) := by decide +kernel
theorem dX6_look_47 : decode cX6_look 47 = .ok (.iload 6, 2) := by decide +kernel
theorem dX6_look_49 : decode cX6_look 49 = .ok (.bipush 6, 2) := by decide +kernel
theorem dX6_look_51 : decode cX6_look 51 = .ok (.if_icmp .ge 32, 3) := by decide +kernel
theorem dX6_look_54 : decode cX6_look 54 = .ok (.aload_n 0, 1) := by decide +kernel
theorem dX6_look_55 : decode cX6_look 55 = .ok (.getfield 48, 3) := by decide +kernel
theorem dX6_look_58 : decode cX6_look 58 = .ok (.iload 6, 2) := by decide +kernel
theorem dX6_look_60 : decode cX6_look 60 = .ok (.iload 6, 2) := by decide +kernel
theorem dX6_look_62 : decode cX6_look 62 = .ok (.aload_n 0, 1) := by decide +kernel
theorem dX6_look_63 : decode cX6_look 63 = .ok (.getfield 10, 3) := by decide +kernel
theorem dX6_look_66 : decode cX6_look 66 = .ok (.getfield 247, 3) := by decide +kernel
theorem dX6_look_69 : decode cX6_look 69 = .ok (.iload_n 1, 1) := by decide +kernel
theorem dX6_look_70 : decode cX6_look 70 = .ok (.iaload, 1) := by decide +kernel
theorem dX6_look_71 : decode cX6_look 71 = .ok (.iload 5, 2) := by decide +kernel
theorem dX6_look_73 : decode cX6_look 73 = .ok (.invokestatic 250, 3) := by decide +kernel
theorem dX6_look_76 : decode cX6_look 76 = .ok (.iastore, 1) := by decide +kernel
theorem dX6_look_77 : decode cX6_look 77 = .ok (.iinc 6 1, 3) := by decide +kernel
theorem dX6_look_80 : decode cX6_look 80 = .ok (.goto (-33), 3) := by decide +kernel
theorem dX6_look_83 : decode cX6_look 83 = .ok (.iload_n 2, 1) := by decide +kernel
theorem dX6_look_84 : decode cX6_look 84 = .ok (.aload_n 0, 1) := by decide +kernel
theorem dX6_look_85 : decode cX6_look 85 = .ok (.getfield 48, 3) := by decide +kernel
theorem dX6_look_88 : decode cX6_look 88 = .ok (.invokestatic 227, 3) := by decide +kernel
theorem dX6_look_91 : decode cX6_look 91 = .ok (.istore 6, 2) := by decide +kernel
theorem dX6_look_93 : decode cX6_look 93 = .ok (.iload 6, 2) := by decide +kernel
theorem dX6_look_95 : decode cX6_look 95 = .ok (.iload_n 3, 1) := by decide +kernel
theorem dX6_look_96 : decode cX6_look 96 = .ok (.if_icmp .ge 10, 3) := by decide +kernel
theorem dX6_look_99 : decode cX6_look 99 = .ok (.iload 6, 2) := by decide +kernel
theorem dX6_look_101 : decode cX6_look 101 = .ok (.istore_n 3, 1) := by decide +kernel
theorem dX6_look_102 : decode cX6_look 102 = .ok (.iload 5, 2) := by decide +kernel
theorem dX6_look_104 : decode cX6_look 104 = .ok (.istore 4, 2) := by decide +kernel
theorem dX6_look_106 : decode cX6_look 106 = .ok (.iinc 5 1, 3) := by decide +kernel
theorem dX6_look_109 : decode cX6_look 109 = .ok (.goto (-76), 3) := by decide +kernel
theorem dX6_look_112 : decode cX6_look 112 = .ok (.iload 4, 2) := by decide +kernel
theorem dX6_look_114 : decode cX6_look 114 = .ok (.ireturn, 1) := by decide +kernel
theorem dX6_kinds_0 : decode cX6_kinds 0 = .ok (.aload_n 0, 1) := by decide +kernel
theorem dX6_kinds_1 : decode cX6_kinds 1 = .ok (.getfield 10, 3) := by decide +kernel
theorem dX6_kinds_4 : decode cX6_kinds 4 = .ok (.iload_n 1, 1) := by decide +kernel
theorem dX6_kinds_5 : decode cX6_kinds 5 = .ok (.invokevirtual 137, 3) := by decide +kernel
theorem dX6_kinds_8 : decode cX6_kinds 8 = .ok (.ifCond .ne 10, 3) := by decide +kernel
theorem dX6_kinds_11 : decode cX6_kinds 11 = .ok (.aload_n 0, 1) := by decide +kernel
theorem dX6_kinds_12 : decode cX6_kinds 12 = .ok (.bipush (-2), 2) := by decide +kernel
theorem dX6_kinds_14 : decode cX6_kinds 14 = .ok (.invokevirtual 66, 3) := by decide +kernel
theorem dX6_kinds_17 : decode cX6_kinds 17 = .ok (.ireturn, 1) := by decide +kernel
theorem dX6_kinds_18 : decode cX6_kinds 18 = .ok (.aload_n 0, 1) := by decide +kernel
theorem dX6_kinds_19 : decode cX6_kinds 19 = .ok (.iload_n 1, 1) := by decide +kernel
theorem dX6_kinds_20 : decode cX6_kinds 20 = .ok (.invokevirtual 253, 3) := by decide +kernel
theorem dX6_kinds_23 : decode cX6_kinds 23 = .ok (.ireturn, 1) := by decide +kernel
theorem dX6_ask_0 : decode cX6_ask 0 = .ok (.aload_n 0, 1) := by decide +kernel
theorem dX6_ask_1 : decode cX6_ask 1 = .ok (.getfield 10, 3) := by decide +kernel
theorem dX6_ask_4 : decode cX6_ask 4 = .ok (.iload_n 1, 1) := by decide +kernel
theorem dX6_ask_5 : decode cX6_ask 5 = .ok (.invokevirtual 137, 3) := by decide +kernel
theorem dX6_ask_8 : decode cX6_ask 8 = .ok (.ifCond .ne 10, 3) := by decide +kernel
theorem dX6_ask_11 : decode cX6_ask 11 = .ok (.aload_n 0, 1) := by decide +kernel
theorem dX6_ask_12 : decode cX6_ask 12 = .ok (.bipush (-2), 2) := by decide +kernel
theorem dX6_ask_14 : decode cX6_ask 14 = .ok (.invokevirtual 66, 3) := by decide +kernel
theorem dX6_ask_17 : decode cX6_ask 17 = .ok (.ireturn, 1) := by decide +kernel
theorem dX6_ask_18 : decode cX6_ask 18 = .ok (.aload_n 0, 1) := by decide +kernel
theorem dX6_ask_19 : decode cX6_ask 19 = .ok (.iload_n 1, 1) := by decide +kernel
theorem dX6_ask_20 : decode cX6_ask 20 = .ok (.invokevirtual 253, 3) := by decide +kernel
theorem dX6_ask_23 : decode cX6_ask 23 = .ok (.istore_n 2, 1) := by decide +kernel
theorem dX6_ask_24 : decode cX6_ask 24 = .ok (.bipush 7, 2) := by decide +kernel
theorem dX6_ask_26 : decode cX6_ask 26 = .ok (.istore_n 3, 1) := by decide +kernel
theorem dX6_ask_27 : decode cX6_ask 27 = .ok (.iconst (-1), 1) := by decide +kernel
theorem dX6_ask_28 : decode cX6_ask 28 = .ok (.istore 4, 2) := by decide +kernel
theorem dX6_ask_30 : decode cX6_ask 30 = .ok (.iconst 0, 1) := by decide +kernel
theorem dX6_ask_31 : decode cX6_ask 31 = .ok (.istore 5, 2) := by decide +kernel
theorem dX6_ask_33 : decode cX6_ask 33 = .ok (.iload 5, 2) := by decide +kernel
theorem dX6_ask_35 : decode cX6_ask 35 = .ok (.bipush 30, 2) := by decide +kernel
theorem dX6_ask_37 : decode cX6_ask 37 = .ok (.if_icmp .gt 66, 3) := by decide +kernel
theorem dX6_ask_40 : decode cX6_ask 40 = .ok (.iload_n 2, 1) := by decide +kernel
theorem dX6_ask_41 : decode cX6_ask 41 = .ok (.ifCond .eq 62, 3) := by decide +kernel
theorem dX6_ask_44 : decode cX6_ask 44 = .ok (.iconst 0, 1) := by decide +kernel
theorem dX6_ask_45 : decode cX6_ask 45 = .ok (.istore 6, 2) := by decide +kernel
theorem dX6_ask_47 : decode cX6_ask 47 = .ok (.iload 6, 2) := by decide +kernel
theorem dX6_ask_49 : decode cX6_ask 49 = .ok (.bipush 6, 2) := by decide +kernel
theorem dX6_ask_51 : decode cX6_ask 51 = .ok (.if_icmp .ge 23, 3) := by decide +kernel
theorem dX6_ask_54 : decode cX6_ask 54 = .ok (.aload_n 0, 1) := by decide +kernel
theorem dX6_ask_55 : decode cX6_ask 55 = .ok (.getfield 48, 3) := by decide +kernel
theorem dX6_ask_58 : decode cX6_ask 58 = .ok (.iload 6, 2) := by decide +kernel
theorem dX6_ask_60 : decode cX6_ask 60 = .ok (.iload 6, 2) := by decide +kernel
theorem dX6_ask_62 : decode cX6_ask 62 = .ok (.iload 5, 2) := by decide +kernel
theorem dX6_ask_64 : decode cX6_ask 64 = .ok (.invokestatic 256, 3) := by decide +kernel
theorem dX6_ask_67 : decode cX6_ask 67 = .ok (.iastore, 1) := by decide +kernel
theorem dX6_ask_68 : decode cX6_ask 68 = .ok (.iinc 6 1, 3) := by decide +kernel
theorem dX6_ask_71 : decode cX6_ask 71 = .ok (.goto (-24), 3) := by decide +kernel
theorem dX6_ask_74 : decode cX6_ask 74 = .ok (.iload_n 2, 1) := by decide +kernel
theorem dX6_ask_75 : decode cX6_ask 75 = .ok (.aload_n 0, 1) := by decide +kernel
theorem dX6_ask_76 : decode cX6_ask 76 = .ok (.getfield 48, 3) := by decide +kernel
theorem dX6_ask_79 : decode cX6_ask 79 = .ok (.invokestatic 227, 3) := by decide +kernel
theorem dX6_ask_82 : decode cX6_ask 82 = .ok (.istore 6, 2) := by decide +kernel
theorem dX6_ask_84 : decode cX6_ask 84 = .ok (.iload 6, 2) := by decide +kernel
theorem dX6_ask_86 : decode cX6_ask 86 = .ok (.iload_n 3, 1) := by decide +kernel
theorem dX6_ask_87 : decode cX6_ask 87 = .ok (.if_icmp .ge 10, 3) := by decide +kernel
theorem dX6_ask_90 : decode cX6_ask 90 = .ok (.iload 6, 2) := by decide +kernel
theorem dX6_ask_92 : decode cX6_ask 92 = .ok (.istore_n 3, 1) := by decide +kernel
theorem dX6_ask_93 : decode cX6_ask 93 = .ok (.iload 5, 2) := by decide +kernel
theorem dX6_ask_95 : decode cX6_ask 95 = .ok (.istore 4, 2) := by decide +kernel
theorem dX6_ask_97 : decode cX6_ask 97 = .ok (.iinc 5 1, 3) := by decide +kernel
theorem dX6_ask_100 : decode cX6_ask 100 = .ok (.goto (-67), 3) := by decide +kernel
theorem dX6_ask_103 : decode cX6_ask 103 = .ok (.iload 4, 2) := by decide +kernel
theorem dX6_ask_105 : decode cX6_ask 105 = .ok (.ireturn, 1) := by decide +kernel
theorem dX6_claim_0 : decode cX6_claim 0 = .ok (.aload_n 0, 1) := by decide +kernel
theorem dX6_claim_1 : decode cX6_claim 1 = .ok (.getfield 10, 3) := by decide +kernel
theorem dX6_claim_4 : decode cX6_claim 4 = .ok (.iload_n 1, 1) := by decide +kernel
theorem dX6_claim_5 : decode cX6_claim 5 = .ok (.invokevirtual 137, 3) := by decide +kernel
theorem dX6_claim_8 : decode cX6_claim 8 = .ok (.ifCond .eq 36, 3) := by decide +kernel
theorem dX6_claim_11 : decode cX6_claim 11 = .ok (.aload_n 0, 1) := by decide +kernel
theorem dX6_claim_12 : decode cX6_claim 12 = .ok (.getfield 10, 3) := by decide +kernel
theorem dX6_claim_15 : decode cX6_claim 15 = .ok (.iload_n 2, 1) := by decide +kernel
theorem dX6_claim_16 : decode cX6_claim 16 = .ok (.invokevirtual 137, 3) := by decide +kernel
theorem dX6_claim_19 : decode cX6_claim 19 = .ok (.ifCond .eq 25, 3) := by decide +kernel
theorem dX6_claim_22 : decode cX6_claim 22 = .ok (.iload_n 1, 1) := by decide +kernel
theorem dX6_claim_23 : decode cX6_claim 23 = .ok (.iload_n 2, 1) := by decide +kernel
theorem dX6_claim_24 : decode cX6_claim 24 = .ok (.if_icmp .eq 20, 3) := by decide +kernel
theorem dX6_claim_27 : decode cX6_claim 27 = .ok (.aload_n 0, 1) := by decide +kernel
theorem dX6_claim_28 : decode cX6_claim 28 = .ok (.getfield 10, 3) := by decide +kernel
theorem dX6_claim_31 : decode cX6_claim 31 = .ok (.iload_n 3, 1) := by decide +kernel
theorem dX6_claim_32 : decode cX6_claim 32 = .ok (.invokevirtual 153, 3) := by decide +kernel
theorem dX6_claim_35 : decode cX6_claim 35 = .ok (.ifCond .eq 9, 3) := by decide +kernel
theorem dX6_claim_38 : decode cX6_claim 38 = .ok (.iload 4, 2) := by decide +kernel
theorem dX6_claim_40 : decode cX6_claim 40 = .ok (.iconst (-1), 1) := by decide +kernel
theorem dX6_claim_41 : decode cX6_claim 41 = .ok (.if_icmp .ge 10, 3) := by decide +kernel
theorem dX6_claim_44 : decode cX6_claim 44 = .ok (.aload_n 0, 1) := by decide +kernel
theorem dX6_claim_45 : decode cX6_claim 45 = .ok (.bipush (-10), 2) := by decide +kernel
theorem dX6_claim_47 : decode cX6_claim 47 = .ok (.invokevirtual 66, 3) := by decide +kernel
theorem dX6_claim_50 : decode cX6_claim 50 = .ok (.ireturn, 1) := by decide +kernel
theorem dX6_claim_51 : decode cX6_claim 51 = .ok (.bipush 9, 2) := by decide +kernel
theorem dX6_claim_53 : decode cX6_claim 53 = .ok (.aload_n 0, 1) := by decide +kernel
theorem dX6_claim_54 : decode cX6_claim 54 = .ok (.getfield 10, 3) := by decide +kernel
theorem dX6_claim_57 : decode cX6_claim 57 = .ok (.iload_n 3, 1) := by decide +kernel
theorem dX6_claim_58 : decode cX6_claim 58 = .ok (.iload_n 1, 1) := by decide +kernel
theorem dX6_claim_59 : decode cX6_claim 59 = .ok (.invokevirtual 259, 3) := by decide +kernel
theorem dX6_claim_62 : decode cX6_claim 62 = .ok (.isub, 1) := by decide +kernel
theorem dX6_claim_63 : decode cX6_claim 63 = .ok (.istore 5, 2) := by decide +kernel
theorem dX6_claim_65 : decode cX6_claim 65 = .ok (.bipush 9, 2) := by decide +kernel
theorem dX6_claim_67 : decode cX6_claim 67 = .ok (.aload_n 0, 1) := by decide +kernel
theorem dX6_claim_68 : decode cX6_claim 68 = .ok (.getfield 10, 3) := by decide +kernel
theorem dX6_claim_71 : decode cX6_claim 71 = .ok (.iload_n 3, 1) := by decide +kernel
theorem dX6_claim_72 : decode cX6_claim 72 = .ok (.iload_n 2, 1) := by decide +kernel
theorem dX6_claim_73 : decode cX6_claim 73 = .ok (.invokevirtual 259, 3) := by decide +kernel
theorem dX6_claim_76 : decode cX6_claim 76 = .ok (.isub, 1) := by decide +kernel
theorem dX6_claim_77 : decode cX6_claim 77 = .ok (.istore 6, 2) := by decide +kernel
theorem dX6_claim_79 : decode cX6_claim 79 = .ok (.iconst 0, 1) := by decide +kernel
theorem dX6_claim_80 : decode cX6_claim 80 = .ok (.istore 7, 2) := by decide +kernel
theorem dX6_claim_82 : decode cX6_claim 82 = .ok (.iconst 0, 1) := by decide +kernel
theorem dX6_claim_83 : decode cX6_claim 83 = .ok (.istore 8, 2) := by decide +kernel
theorem dX6_claim_85 : decode cX6_claim 85 = .ok (.iload 8, 2) := by decide +kernel
theorem dX6_claim_87 : decode cX6_claim 87 = .ok (.bipush 100, 2) := by decide +kernel
theorem dX6_claim_89 : decode cX6_claim 89 = .ok (.if_icmp .ge 42, 3) := by decide +kernel
theorem dX6_claim_92 : decode cX6_claim 92 = .ok (.iload 8, 2) := by decide +kernel
theorem dX6_claim_94 : decode cX6_claim 94 = .ok (.bipush 10, 2) := by decide +kernel
theorem dX6_claim_96 : decode cX6_claim 96 = .ok (.idiv, 1) := by decide +kernel
theorem dX6_claim_97 : decode cX6_claim 97 = .ok (.iload 8, 2) := by decide +kernel
theorem dX6_claim_99 : decode cX6_claim 99 = .ok (.bipush 10, 2) := by decide +kernel
theorem dX6_claim_101 : decode cX6_claim 101 = .ok (.irem, 1) := by decide +kernel
theorem dX6_claim_102 : decode cX6_claim 102 = .ok (.iload 5, 2) := by decide +kernel
theorem dX6_claim_104 : decode cX6_claim 104 = .ok (.iload 6, 2) := by decide +kernel
theorem dX6_claim_106 : decode cX6_claim 106 = .ok (.invokestatic 262, 3) := by decide +kernel
theorem dX6_claim_109 : decode cX6_claim 109 = .ok (.ifCond .eq 16, 3) := by decide +kernel
theorem dX6_claim_112 : decode cX6_claim 112 = .ok (.iload 7, 2) := by decide +kernel
theorem dX6_claim_114 : decode cX6_claim 114 = .ok (.iload 4, 2) := by decide +kernel
theorem dX6_claim_116 : decode cX6_claim 116 = .ok (.if_icmp .ne 6, 3) := by decide +kernel
theorem dX6_claim_119 : decode cX6_claim 119 = .ok (.iload 8, 2) := by decide +kernel
theorem dX6_claim_121 : decode cX6_claim 121 = .ok (.ireturn, 1) := by decide +kernel
theorem dX6_claim_122 : decode cX6_claim 122 = .ok (.iinc 7 1, 3) := by decide +kernel
theorem dX6_claim_125 : decode cX6_claim 125 = .ok (.iinc 8 1, 3) := by decide +kernel
theorem dX6_claim_128 : decode cX6_claim 128 = .ok (.goto (-43), 3) := by decide +kernel
theorem dX6_claim_131 : decode cX6_claim 131 = .ok (.iload 4, 2) := by decide +kernel
theorem dX6_claim_133 : decode cX6_claim 133 = .ok (.iconst (-1), 1) := by decide +kernel
theorem dX6_claim_134 : decode cX6_claim 134 = .ok (.if_icmp .ne 8, 3) := by decide +kernel
theorem dX6_claim_137 : decode cX6_claim 137 = .ok (.iload 7, 2) := by decide +kernel
theorem dX6_claim_139 : decode cX6_claim 139 = .ok (.goto 5, 3) := by decide +kernel
theorem dX6_claim_142 : decode cX6_claim 142 = .ok (.bipush (-5), 2) := by decide +kernel
theorem dX6_claim_144 : decode cX6_claim 144 = .ok (.ireturn, 1) := by decide +kernel
theorem dX6_gulls_0 : decode cX6_gulls 0 = .ok (.iload_n 1, 1) := by decide +kernel
theorem dX6_gulls_1 : decode cX6_gulls 1 = .ok (.iconst 0, 1) := by decide +kernel
theorem dX6_gulls_2 : decode cX6_gulls 2 = .ok (.bipush 10, 2) := by decide +kernel
theorem dX6_gulls_4 : decode cX6_gulls 4 = .ok (.invokestatic 62, 3) := by decide +kernel
theorem dX6_gulls_7 : decode cX6_gulls 7 = .ok (.ifCond .ne 10, 3) := by decide +kernel
theorem dX6_gulls_10 : decode cX6_gulls 10 = .ok (.aload_n 0, 1) := by decide +kernel
theorem dX6_gulls_11 : decode cX6_gulls 11 = .ok (.bipush (-2), 2) := by decide +kernel
theorem dX6_gulls_13 : decode cX6_gulls 13 = .ok (.invokevirtual 66, 3) := by decide +kernel
theorem dX6_gulls_16 : decode cX6_gulls 16 = .ok (.ireturn, 1) := by decide +kernel
theorem dX6_gulls_17 : decode cX6_gulls 17 = .ok (.iconst 0, 1) := by decide +kernel
theorem dX6_gulls_18 : decode cX6_gulls 18 = .ok (.istore_n 2, 1) := by decide +kernel
theorem dX6_gulls_19 : decode cX6_gulls 19 = .ok (.iconst 0, 1) := by decide +kernel
theorem dX6_gulls_20 : decode cX6_gulls 20 = .ok (.istore_n 3, 1) := by decide +kernel
theorem dX6_gulls_21 : decode cX6_gulls 21 = .ok (.iload_n 3, 1) := by decide +kernel
theorem dX6_gulls_22 : decode cX6_gulls 22 = .ok (.aload_n 0, 1) := by decide +kernel
theorem dX6_gulls_23 : decode cX6_gulls 23 = .ok (.getfield 10, 3) := by decide +kernel
theorem dX6_gulls_26 : decode cX6_gulls 26 = .ok (.getfield 56, 3) := by decide +kernel
theorem dX6_gulls_29 : decode cX6_gulls 29 = .ok (.if_icmp .ge 31, 3) := by decide +kernel
theorem dX6_gulls_32 : decode cX6_gulls 32 = .ok (.aload_n 0, 1) := by decide +kernel
theorem dX6_gulls_33 : decode cX6_gulls 33 = .ok (.getfield 10, 3) := by decide +kernel
theorem dX6_gulls_36 : decode cX6_gulls 36 = .ok (.iload_n 3, 1) := by decide +kernel
theorem dX6_gulls_37 : decode cX6_gulls 37 = .ok (.invokevirtual 266, 3) := by decide +kernel
theorem dX6_gulls_40 : decode cX6_gulls 40 = .ok (.ifCond .eq 14, 3) := by decide +kernel
theorem dX6_gulls_43 : decode cX6_gulls 43 = .ok (.iload_n 2, 1) := by decide +kernel
theorem dX6_gulls_44 : decode cX6_gulls 44 = .ok (.aload_n 0, 1) := by decide +kernel
theorem dX6_gulls_45 : decode cX6_gulls 45 = .ok (.getfield 10, 3) := by decide +kernel
theorem dX6_gulls_48 : decode cX6_gulls 48 = .ok (.iload_n 3, 1) := by decide +kernel
theorem dX6_gulls_49 : decode cX6_gulls 49 = .ok (.invokevirtual 269, 3) := by decide +kernel
theorem dX6_gulls_52 : decode cX6_gulls 52 = .ok (.iadd, 1) := by decide +kernel
theorem dX6_gulls_53 : decode cX6_gulls 53 = .ok (.istore_n 2, 1) := by decide +kernel
theorem dX6_gulls_54 : decode cX6_gulls 54 = .ok (.iinc 3 1, 3) := by decide +kernel
theorem dX6_gulls_57 : decode cX6_gulls 57 = .ok (.goto (-36), 3) := by decide +kernel
theorem dX6_gulls_60 : decode cX6_gulls 60 = .ok (.aload_n 0, 1) := by decide +kernel
theorem dX6_gulls_61 : decode cX6_gulls 61 = .ok (.iload_n 2, 1) := by decide +kernel
theorem dX6_gulls_62 : decode cX6_gulls 62 = .ok (.bipush 10, 2) := by decide +kernel
theorem dX6_gulls_64 : decode cX6_gulls 64 = .ok (.iload_n 1, 1) := by decide +kernel
theorem dX6_gulls_65 : decode cX6_gulls 65 = .ok (.isub, 1) := by decide +kernel
theorem dX6_gulls_66 : decode cX6_gulls 66 = .ok (.imul, 1) := by decide +kernel
theorem dX6_gulls_67 : decode cX6_gulls 67 = .ok (.bipush 10, 2) := by decide +kernel
theorem dX6_gulls_69 : decode cX6_gulls 69 = .ok (.invokevirtual 272, 3) := by decide +kernel
theorem dX6_gulls_72 : decode cX6_gulls 72 = .ok (.iconst 1, 1) := by decide +kernel
theorem dX6_gulls_73 : decode cX6_gulls 73 = .ok (.ireturn, 1) := by decide +kernel
theorem dX6_years_0 : decode cX6_years 0 = .ok (.iload_n 1, 1) := by decide +kernel
theorem dX6_years_1 : decode cX6_years 1 = .ok (.iconst 0, 1) := by decide +kernel
theorem dX6_years_2 : decode cX6_years 2 = .ok (.ldc_w 276, 3) := by decide +kernel
theorem dX6_years_5 : decode cX6_years 5 = .ok (.invokestatic 62, 3) := by decide +kernel
theorem dX6_years_8 : decode cX6_years 8 = .ok (.ifCond .eq 13, 3) := by decide +kernel
theorem dX6_years_11 : decode cX6_years 11 = .ok (.iload_n 2, 1) := by decide +kernel
theorem dX6_years_12 : decode cX6_years 12 = .ok (.iconst 0, 1) := by decide +kernel
theorem dX6_years_13 : decode cX6_years 13 = .ok (.bipush 60, 2) := by decide +kernel
theorem dX6_years_15 : decode cX6_years 15 = .ok (.invokestatic 62, 3) := by decide +kernel
theorem dX6_years_18 : decode cX6_years 18 = .ok (.ifCond .ne 10, 3) := by decide +kernel
theorem dX6_years_21 : decode cX6_years 21 = .ok (.aload_n 0, 1) := by decide +kernel
theorem dX6_years_22 : decode cX6_years 22 = .ok (.bipush (-2), 2) := by decide +kernel
theorem dX6_years_24 : decode cX6_years 24 = .ok (.invokevirtual 66, 3) := by decide +kernel
theorem dX6_years_27 : decode cX6_years 27 = .ok (.ireturn, 1) := by decide +kernel
theorem dX6_years_28 : decode cX6_years 28 = .ok (.aload_n 0, 1) := by decide +kernel
theorem dX6_years_29 : decode cX6_years 29 = .ok (.getfield 16, 3) := by decide +kernel
theorem dX6_years_32 : decode cX6_years 32 = .ok (.aload_n 0, 1) := by decide +kernel
theorem dX6_years_33 : decode cX6_years 33 = .ok (.getfield 10, 3) := by decide +kernel
theorem dX6_years_36 : decode cX6_years 36 = .ok (.invokevirtual 105, 3) := by decide +kernel
theorem dX6_years_39 : decode cX6_years 39 = .ok (.iload_n 1, 1) := by decide +kernel
theorem dX6_years_40 : decode cX6_years 40 = .ok (.i2l, 1) := by decide +kernel
theorem dX6_years_41 : decode cX6_years 41 = .ok (.lstore_n 3, 1) := by decide +kernel
theorem dX6_years_42 : decode cX6_years 42 = .ok (.iconst 0, 1) := by decide +kernel
theorem dX6_years_43 : decode cX6_years 43 = .ok (.istore 5, 2) := by decide +kernel
theorem dX6_years_45 : decode cX6_years 45 = .ok (.iload 5, 2) := by decide +kernel
theorem dX6_years_47 : decode cX6_years 47 = .ok (.iload_n 2, 1) := by decide +kernel
theorem dX6_years_48 : decode cX6_years 48 = .ok (.if_icmp .ge 110, 3) := by decide +kernel
theorem dX6_years_51 : decode cX6_years 51 = .ok (.lload_n 3, 1) := by decide +kernel
theorem dX6_years_52 : decode cX6_years 52 = .ok (.ldc2_w 277, 3) := by decide +kernel
theorem dX6_years_55 : decode cX6_years 55 = .ok (.lmul, 1) := by decide +kernel
theorem dX6_years_56 : decode cX6_years 56 = .ok (.ldc2_w 279, 3) := by decide +kernel
theorem dX6_years_59 : decode cX6_years 59 = .ok (.ladd, 1) := by decide +kernel
theorem dX6_years_60 : decode cX6_years 60 = .ok (.ldc2_w 281, 3) := by decide +kernel
theorem dX6_years_63 : decode cX6_years 63 = .ok (.lrem, 1) := by decide +kernel
theorem dX6_years_64 : decode cX6_years 64 = .ok (.lstore_n 3, 1) := by decide +kernel
theorem dX6_years_65 : decode cX6_years 65 = .ok (.aload_n 0, 1) := by decide +kernel
theorem dX6_years_66 : decode cX6_years 66 = .ok (.getfield 16, 3) := by decide +kernel
theorem dX6_years_69 : decode cX6_years 69 = .ok (.lload_n 3, 1) := by decide +kernel
theorem dX6_years_70 : decode cX6_years 70 = .ok (.ldc2_w 283, 3) := by decide +kernel
theorem dX6_years_73 : decode cX6_years 73 = .ok (.ldiv, 1) := by decide +kernel
theorem dX6_years_74 : decode cX6_years 74 = .ok (.ldc2_w 285, 3) := by decide +kernel
theorem dX6_years_77 : decode cX6_years 77 = .ok (.lrem, 1) := by decide +kernel
theorem dX6_years_78 : decode cX6_years 78 = .ok (.l2i, 1) := by decide +kernel
theorem dX6_years_79 : decode cX6_years 79 = .ok (.iconst 1, 1) := by decide +kernel
theorem dX6_years_80 : decode cX6_years 80 = .ok (.isub, 1) := by decide +kernel
theorem dX6_years_81 : decode cX6_years 81 = .ok (.invokevirtual 131, 3) := by decide +kernel
theorem dX6_years_84 : decode cX6_years 84 = .ok (.pop, 1) := by decide +kernel
theorem dX6_years_85 : decode cX6_years 85 = .ok (.aload_n 0, 1) := by decide +kernel
theorem dX6_years_86 : decode cX6_years 86 = .ok (.getfield 16, 3) := by decide +kernel
theorem dX6_years_89 : decode cX6_years 89 = .ok (.invokevirtual 134, 3) := by decide +kernel
theorem dX6_years_92 : decode cX6_years 92 = .ok (.lload_n 3, 1) := by decide +kernel
theorem dX6_years_93 : decode cX6_years 93 = .ok (.ldc2_w 287, 3) := by decide +kernel
theorem dX6_years_96 : decode cX6_years 96 = .ok (.ldiv, 1) := by decide +kernel
theorem dX6_years_97 : decode cX6_years 97 = .ok (.ldc2_w 289, 3) := by decide +kernel
theorem dX6_years_100 : decode cX6_years 100 = .ok (.lrem, 1) := by decide +kernel
theorem dX6_years_101 : decode cX6_years 101 = .ok (.l2i, 1) := by decide +kernel
theorem dX6_years_102 : decode cX6_years 102 = .ok (.istore 6, 2) := by decide +kernel
theorem dX6_years_104 : decode cX6_years 104 = .ok (.aload_n 0, 1) := by decide +kernel
theorem dX6_years_105 : decode cX6_years 105 = .ok (.getfield 16, 3) := by decide +kernel
theorem dX6_years_108 : decode cX6_years 108 = .ok (.iload 6, 2) := by decide +kernel
theorem dX6_years_110 : decode cX6_years 110 = .ok (.invokevirtual 137, 3) := by decide +kernel
theorem dX6_years_113 : decode cX6_years 113 = .ok (.ifCond .eq 15, 3) := by decide +kernel
theorem dX6_years_116 : decode cX6_years 116 = .ok (.aload_n 0, 1) := by decide +kernel
theorem dX6_years_117 : decode cX6_years 117 = .ok (.getfield 16, 3) := by decide +kernel
theorem dX6_years_120 : decode cX6_years 120 = .ok (.iload 6, 2) := by decide +kernel
theorem dX6_years_122 : decode cX6_years 122 = .ok (.invokevirtual 141, 3) := by decide +kernel
theorem dX6_years_125 : decode cX6_years 125 = .ok (.goto 4, 3) := by decide +kernel
theorem dX6_years_128 : decode cX6_years 128 = .ok (.iconst (-1), 1) := by decide +kernel
theorem dX6_years_129 : decode cX6_years 129 = .ok (.istore 7, 2) := by decide +kernel
theorem dX6_years_131 : decode cX6_years 131 = .ok (.iload 7, 2) := by decide +kernel
theorem dX6_years_133 : decode cX6_years 133 = .ok (.iconst (-1), 1) := by decide +kernel
theorem dX6_years_134 : decode cX6_years 134 = .ok (.if_icmp .eq 18, 3) := by decide +kernel
theorem dX6_years_137 : decode cX6_years 137 = .ok (.aload_n 0, 1) := by decide +kernel
theorem dX6_years_138 : decode cX6_years 138 = .ok (.getfield 16, 3) := by decide +kernel
theorem dX6_years_141 : decode cX6_years 141 = .ok (.getfield 119, 3) := by decide +kernel
theorem dX6_years_144 : decode cX6_years 144 = .ok (.getfield 144, 3) := by decide +kernel
theorem dX6_years_147 : decode cX6_years 147 = .ok (.iload 7, 2) := by decide +kernel
theorem dX6_years_149 : decode cX6_years 149 = .ok (.iload 6, 2) := by decide +kernel
theorem dX6_years_151 : decode cX6_years 151 = .ok (.iastore, 1) := by decide +kernel
theorem dX6_years_152 : decode cX6_years 152 = .ok (.iinc 5 1, 3) := by decide +kernel
theorem dX6_years_155 : decode cX6_years 155 = .ok (.goto (-110), 3) := by decide +kernel
theorem dX6_years_158 : decode cX6_years 158 = .ok (.aload_n 0, 1) := by decide +kernel
theorem dX6_years_159 : decode cX6_years 159 = .ok (.getfield 16, 3) := by decide +kernel
theorem dX6_years_162 : decode cX6_years 162 = .ok (.invokevirtual 185, 3) := by decide +kernel
theorem dX6_years_165 : decode cX6_years 165 = .ok (.ireturn, 1) := by decide +kernel
theorem dX6_part_0 : decode cX6_part 0 = .ok (.iload_n 1, 1) := by decide +kernel
theorem dX6_part_1 : decode cX6_part 1 = .ok (.lookupswitch 39 #[(0, 27), (1, 33)], 27) := by decide +kernel
theorem dX6_part_28 : decode cX6_part 28 = .ok (.aload_n 0, 1) := by decide +kernel
theorem dX6_part_29 : decode cX6_part 29 = .ok (.getfield 291, 3) := by decide +kernel
theorem dX6_part_32 : decode cX6_part 32 = .ok (.i2l, 1) := by decide +kernel
theorem dX6_part_33 : decode cX6_part 33 = .ok (.lreturn, 1) := by decide +kernel
theorem dX6_part_34 : decode cX6_part 34 = .ok (.aload_n 0, 1) := by decide +kernel
theorem dX6_part_35 : decode cX6_part 35 = .ok (.getfield 52, 3) := by decide +kernel
theorem dX6_part_38 : decode cX6_part 38 = .ok (.i2l, 1) := by decide +kernel
theorem dX6_part_39 : decode cX6_part 39 = .ok (.lreturn, 1) := by decide +kernel
theorem dX6_part_40 : decode cX6_part 40 = .ok (.aload_n 0, 1) := by decide +kernel
theorem dX6_part_41 : decode cX6_part 41 = .ok (.bipush (-2), 2) := by decide +kernel
theorem dX6_part_43 : decode cX6_part 43 = .ok (.invokevirtual 66, 3) := by decide +kernel
theorem dX6_part_46 : decode cX6_part 46 = .ok (.i2l, 1) := by decide +kernel
theorem dX6_part_47 : decode cX6_part 47 = .ok (.lreturn, 1) := by decide +kernel
theorem dX6_image_0 : decode cX6_image 0 = .ok (.iload_n 1, 1) := by decide +kernel
theorem dX6_image_1 : decode cX6_image 1 = .ok (.iconst 0, 1) := by decide +kernel
theorem dX6_image_2 : decode cX6_image 2 = .ok (.iconst 1, 1) := by decide +kernel
theorem dX6_image_3 : decode cX6_image 3 = .ok (.invokestatic 62, 3) := by decide +kernel
theorem dX6_image_6 : decode cX6_image 6 = .ok (.ifCond .ne 10, 3) := by decide +kernel
theorem dX6_image_9 : decode cX6_image 9 = .ok (.aload_n 0, 1) := by decide +kernel
theorem dX6_image_10 : decode cX6_image 10 = .ok (.bipush (-2), 2) := by decide +kernel
theorem dX6_image_12 : decode cX6_image 12 = .ok (.invokevirtual 66, 3) := by decide +kernel
theorem dX6_image_15 : decode cX6_image 15 = .ok (.ireturn, 1) := by decide +kernel
theorem dX6_image_16 : decode cX6_image 16 = .ok (.aload_n 0, 1) := by decide +kernel
theorem dX6_image_17 : decode cX6_image 17 = .ok (.getfield 19, 3) := by decide +kernel
theorem dX6_image_20 : decode cX6_image 20 = .ok (.iload_n 1, 1) := by decide +kernel
theorem dX6_image_21 : decode cX6_image 21 = .ok (.aaload, 1) := by decide +kernel
theorem dX6_image_22 : decode cX6_image 22 = .ok (.aload_n 0, 1) := by decide +kernel
theorem dX6_image_23 : decode cX6_image 23 = .ok (.getfield 10, 3) := by decide +kernel
theorem dX6_image_26 : decode cX6_image 26 = .ok (.invokevirtual 105, 3) := by decide +kernel
theorem dX6_image_29 : decode cX6_image 29 = .ok (.aload_n 0, 1) := by decide +kernel
theorem dX6_image_30 : decode cX6_image 30 = .ok (.getfield 23, 3) := by decide +kernel
theorem dX6_image_33 : decode cX6_image 33 = .ok (.iload_n 1, 1) := by decide +kernel
theorem dX6_image_34 : decode cX6_image 34 = .ok (.iconst 1, 1) := by decide +kernel
theorem dX6_image_35 : decode cX6_image 35 = .ok (.bastore, 1) := by decide +kernel
theorem dX6_image_36 : decode cX6_image 36 = .ok (.iconst 1, 1) := by decide +kernel
theorem dX6_image_37 : decode cX6_image 37 = .ok (.ireturn, 1) := by decide +kernel
theorem dX6_from_0 : decode cX6_from 0 = .ok (.iload_n 1, 1) := by decide +kernel
theorem dX6_from_1 : decode cX6_from 1 = .ok (.iconst 0, 1) := by decide +kernel
theorem dX6_from_2 : decode cX6_from 2 = .ok (.iconst 1, 1) := by decide +kernel
theorem dX6_from_3 : decode cX6_from 3 = .ok (.invokestatic 62, 3) := by decide +kernel
theorem dX6_from_6 : decode cX6_from 6 = .ok (.ifCond .ne 10, 3) := by decide +kernel
theorem dX6_from_9 : decode cX6_from 9 = .ok (.aload_n 0, 1) := by decide +kernel
theorem dX6_from_10 : decode cX6_from 10 = .ok (.bipush (-2), 2) := by decide +kernel
theorem dX6_from_12 : decode cX6_from 12 = .ok (.invokevirtual 66, 3) := by decide +kernel
theorem dX6_from_15 : decode cX6_from 15 = .ok (.ireturn, 1) := by decide +kernel
theorem dX6_from_16 : decode cX6_from 16 = .ok (.aload_n 0, 1) := by decide +kernel
theorem dX6_from_17 : decode cX6_from 17 = .ok (.getfield 23, 3) := by decide +kernel
theorem dX6_from_20 : decode cX6_from 20 = .ok (.iload_n 1, 1) := by decide +kernel
theorem dX6_from_21 : decode cX6_from 21 = .ok (.baload, 1) := by decide +kernel
theorem dX6_from_22 : decode cX6_from 22 = .ok (.ifCond .ne 8, 3) := by decide +kernel
theorem dX6_from_25 : decode cX6_from 25 = .ok (.aload_n 0, 1) := by decide +kernel
theorem dX6_from_26 : decode cX6_from 26 = .ok (.invokevirtual 128, 3) := by decide +kernel
theorem dX6_from_29 : decode cX6_from 29 = .ok (.ireturn, 1) := by decide +kernel
theorem dX6_from_30 : decode cX6_from 30 = .ok (.aload_n 0, 1) := by decide +kernel
theorem dX6_from_31 : decode cX6_from 31 = .ok (.getfield 10, 3) := by decide +kernel
theorem dX6_from_34 : decode cX6_from 34 = .ok (.aload_n 0, 1) := by decide +kernel
theorem dX6_from_35 : decode cX6_from 35 = .ok (.getfield 19, 3) := by decide +kernel
theorem dX6_from_38 : decode cX6_from 38 = .ok (.iload_n 1, 1) := by decide +kernel
theorem dX6_from_39 : decode cX6_from 39 = .ok (.aaload, 1) := by decide +kernel
theorem dX6_from_40 : decode cX6_from 40 = .ok (.invokevirtual 105, 3) := by decide +kernel
theorem dX6_from_43 : decode cX6_from 43 = .ok (.iconst 1, 1) := by decide +kernel
theorem dX6_from_44 : decode cX6_from 44 = .ok (.ireturn, 1) := by decide +kernel
theorem dX6_status_0 : decode cX6_status 0 = .ok (.iload_n 1, 1) := by decide +kernel
theorem dX6_status_1 : decode cX6_status 1 = .ok (.tableswitch 42 0 2 #[27, 32, 37], 27) := by decide +kernel
theorem dX6_status_28 : decode cX6_status 28 = .ok (.aload_n 0, 1) := by decide +kernel
theorem dX6_status_29 : decode cX6_status 29 = .ok (.getfield 294, 3) := by decide +kernel
theorem dX6_status_32 : decode cX6_status 32 = .ok (.ireturn, 1) := by decide +kernel
theorem dX6_status_33 : decode cX6_status 33 = .ok (.aload_n 0, 1) := by decide +kernel
theorem dX6_status_34 : decode cX6_status 34 = .ok (.getfield 297, 3) := by decide +kernel
theorem dX6_status_37 : decode cX6_status 37 = .ok (.ireturn, 1) := by decide +kernel
theorem dX6_status_38 : decode cX6_status 38 = .ok (.aload_n 0, 1) := by decide +kernel
theorem dX6_status_39 : decode cX6_status 39 = .ok (.getfield 300, 3) := by decide +kernel
theorem dX6_status_42 : decode cX6_status 42 = .ok (.ireturn, 1) := by decide +kernel
theorem dX6_status_43 : decode cX6_status 43 = .ok (.aload_n 0, 1) := by decide +kernel
theorem dX6_status_44 : decode cX6_status 44 = .ok (.iconst (-1), 1) := by decide +kernel
theorem dX6_status_45 : decode cX6_status 45 = .ok (.invokevirtual 66, 3) := by decide +kernel
theorem dX6_status_48 : decode cX6_status 48 = .ok (.ireturn, 1) := by decide +kernel
theorem dX6_count_0 : decode cX6_count 0 = .ok (.iload_n 1, 1) := by decide +kernel
theorem dX6_count_1 : decode cX6_count 1 = .ok (.iconst 0, 1) := by decide +kernel
theorem dX6_count_2 : decode cX6_count 2 = .ok (.bipush 10, 2) := by decide +kernel
theorem dX6_count_4 : decode cX6_count 4 = .ok (.invokestatic 62, 3) := by decide +kernel
theorem dX6_count_7 : decode cX6_count 7 = .ok (.ifCond .ne 10, 3) := by decide +kernel
theorem dX6_count_10 : decode cX6_count 10 = .ok (.aload_n 0, 1) := by decide +kernel
theorem dX6_count_11 : decode cX6_count 11 = .ok (.bipush (-2), 2) := by decide +kernel
theorem dX6_count_13 : decode cX6_count 13 = .ok (.invokevirtual 66, 3) := by decide +kernel
theorem dX6_count_16 : decode cX6_count 16 = .ok (.ireturn, 1) := by decide +kernel
theorem dX6_count_17 : decode cX6_count 17 = .ok (.aload_n 0, 1) := by decide +kernel
theorem dX6_count_18 : decode cX6_count 18 = .ok (.iload_n 1, 1) := by decide +kernel
theorem dX6_count_19 : decode cX6_count 19 = .ok (.invokevirtual 303, 3) := by decide +kernel
theorem dX6_count_22 : decode cX6_count 22 = .ok (.ireturn, 1) := by decide +kernel
theorem dX6_digest_0 : decode cX6_digest 0 = .ok (.ldc2_w 306, 3) := by decide +kernel
theorem dX6_digest_3 : decode cX6_digest 3 = .ok (.lstore_n 1, 1) := by decide +kernel
theorem dX6_digest_4 : decode cX6_digest 4 = .ok (.iconst 0, 1) := by decide +kernel
theorem dX6_digest_5 : decode cX6_digest 5 = .ok (.istore_n 3, 1) := by decide +kernel
theorem dX6_digest_6 : decode cX6_digest 6 = .ok (.iload_n 3, 1) := by decide +kernel
theorem dX6_digest_7 : decode cX6_digest 7 = .ok (.bipush 11, 2) := by decide +kernel
theorem dX6_digest_9 : decode cX6_digest 9 = .ok (.if_icmp .ge 22, 3) := by decide +kernel
theorem dX6_digest_12 : decode cX6_digest 12 = .ok (.ldc2_w 308, 3) := by decide +kernel
theorem dX6_digest_15 : decode cX6_digest 15 = .ok (.lload_n 1, 1) := by decide +kernel
theorem dX6_digest_16 : decode cX6_digest 16 = .ok (.lmul, 1) := by decide +kernel
theorem dX6_digest_17 : decode cX6_digest 17 = .ok (.aload_n 0, 1) := by decide +kernel
theorem dX6_digest_18 : decode cX6_digest 18 = .ok (.iload_n 3, 1) := by decide +kernel
theorem dX6_digest_19 : decode cX6_digest 19 = .ok (.invokevirtual 303, 3) := by decide +kernel
theorem dX6_digest_22 : decode cX6_digest 22 = .ok (.i2l, 1) := by decide +kernel
theorem dX6_digest_23 : decode cX6_digest 23 = .ok (.ladd, 1) := by decide +kernel
theorem dX6_digest_24 : decode cX6_digest 24 = .ok (.lstore_n 1, 1) := by decide +kernel
theorem dX6_digest_25 : decode cX6_digest 25 = .ok (.iinc 3 1, 3) := by decide +kernel
theorem dX6_digest_28 : decode cX6_digest 28 = .ok (.goto (-22), 3) := by decide +kernel
theorem dX6_digest_31 : decode cX6_digest 31 = .ok (.iconst 0, 1) := by decide +kernel
theorem dX6_digest_32 : decode cX6_digest 32 = .ok (.istore_n 3, 1) := by decide +kernel
theorem dX6_digest_33 : decode cX6_digest 33 = .ok (.iload_n 3, 1) := by decide +kernel
theorem dX6_digest_34 : decode cX6_digest 34 = .ok (.bipush 12, 2) := by decide +kernel
theorem dX6_digest_36 : decode cX6_digest 36 = .ok (.if_icmp .ge 26, 3) := by decide +kernel
theorem dX6_digest_39 : decode cX6_digest 39 = .ok (.ldc2_w 308, 3) := by decide +kernel
theorem dX6_digest_42 : decode cX6_digest 42 = .ok (.lload_n 1, 1) := by decide +kernel
theorem dX6_digest_43 : decode cX6_digest 43 = .ok (.lmul, 1) := by decide +kernel
theorem dX6_digest_44 : decode cX6_digest 44 = .ok (.aload_n 0, 1) := by decide +kernel
theorem dX6_digest_45 : decode cX6_digest 45 = .ok (.getfield 10, 3) := by decide +kernel
theorem dX6_digest_48 : decode cX6_digest 48 = .ok (.getfield 70, 3) := by decide +kernel
theorem dX6_digest_51 : decode cX6_digest 51 = .ok (.iload_n 3, 1) := by decide +kernel
theorem dX6_digest_52 : decode cX6_digest 52 = .ok (.iaload, 1) := by decide +kernel
theorem dX6_digest_53 : decode cX6_digest 53 = .ok (.i2l, 1) := by decide +kernel
theorem dX6_digest_54 : decode cX6_digest 54 = .ok (.ladd, 1) := by decide +kernel
theorem dX6_digest_55 : decode cX6_digest 55 = .ok (.lstore_n 1, 1) := by decide +kernel
theorem dX6_digest_56 : decode cX6_digest 56 = .ok (.iinc 3 1, 3) := by decide +kernel
theorem dX6_digest_59 : decode cX6_digest 59 = .ok (.goto (-26), 3) := by decide +kernel
theorem dX6_digest_62 : decode cX6_digest 62 = .ok (.iconst 0, 1) := by decide +kernel
theorem dX6_digest_63 : decode cX6_digest 63 = .ok (.istore_n 3, 1) := by decide +kernel
theorem dX6_digest_64 : decode cX6_digest 64 = .ok (.iload_n 3, 1) := by decide +kernel
theorem dX6_digest_65 : decode cX6_digest 65 = .ok (.aload_n 0, 1) := by decide +kernel
theorem dX6_digest_66 : decode cX6_digest 66 = .ok (.getfield 10, 3) := by decide +kernel
theorem dX6_digest_69 : decode cX6_digest 69 = .ok (.getfield 56, 3) := by decide +kernel
theorem dX6_digest_72 : decode cX6_digest 72 = .ok (.if_icmp .ge 42, 3) := by decide +kernel
theorem dX6_digest_75 : decode cX6_digest 75 = .ok (.iconst 0, 1) := by decide +kernel
theorem dX6_digest_76 : decode cX6_digest 76 = .ok (.istore 4, 2) := by decide +kernel
theorem dX6_digest_78 : decode cX6_digest 78 = .ok (.iload 4, 2) := by decide +kernel
theorem dX6_digest_80 : decode cX6_digest 80 = .ok (.iconst 4, 1) := by decide +kernel
theorem dX6_digest_81 : decode cX6_digest 81 = .ok (.if_icmp .gt 27, 3) := by decide +kernel
theorem dX6_digest_84 : decode cX6_digest 84 = .ok (.ldc2_w 308, 3) := by decide +kernel
theorem dX6_digest_87 : decode cX6_digest 87 = .ok (.lload_n 1, 1) := by decide +kernel
theorem dX6_digest_88 : decode cX6_digest 88 = .ok (.lmul, 1) := by decide +kernel
theorem dX6_digest_89 : decode cX6_digest 89 = .ok (.aload_n 0, 1) := by decide +kernel
theorem dX6_digest_90 : decode cX6_digest 90 = .ok (.getfield 10, 3) := by decide +kernel
theorem dX6_digest_93 : decode cX6_digest 93 = .ok (.iload_n 3, 1) := by decide +kernel
theorem dX6_digest_94 : decode cX6_digest 94 = .ok (.iload 4, 2) := by decide +kernel
theorem dX6_digest_96 : decode cX6_digest 96 = .ok (.invokevirtual 156, 3) := by decide +kernel
theorem dX6_digest_99 : decode cX6_digest 99 = .ok (.i2l, 1) := by decide +kernel
theorem dX6_digest_100 : decode cX6_digest 100 = .ok (.ladd, 1) := by decide +kernel
theorem dX6_digest_101 : decode cX6_digest 101 = .ok (.lstore_n 1, 1) := by decide +kernel
theorem dX6_digest_102 : decode cX6_digest 102 = .ok (.iinc 4 1, 3) := by decide +kernel
theorem dX6_digest_105 : decode cX6_digest 105 = .ok (.goto (-27), 3) := by decide +kernel
theorem dX6_digest_108 : decode cX6_digest 108 = .ok (.iinc 3 1, 3) := by decide +kernel
theorem dX6_digest_111 : decode cX6_digest 111 = .ok (.goto (-47), 3) := by decide +kernel
theorem dX6_digest_114 : decode cX6_digest 114 = .ok (.iconst 0, 1) := by decide +kernel
theorem dX6_digest_115 : decode cX6_digest 115 = .ok (.istore_n 3, 1) := by decide +kernel
theorem dX6_digest_116 : decode cX6_digest 116 = .ok (.iload_n 3, 1) := by decide +kernel
theorem dX6_digest_117 : decode cX6_digest 117 = .ok (.aload_n 0, 1) := by decide +kernel
theorem dX6_digest_118 : decode cX6_digest 118 = .ok (.getfield 10, 3) := by decide +kernel
theorem dX6_digest_121 : decode cX6_digest 121 = .ok (.getfield 84, 3) := by decide +kernel
theorem dX6_digest_124 : decode cX6_digest 124 = .ok (.if_icmp .ge 26, 3) := by decide +kernel
theorem dX6_digest_127 : decode cX6_digest 127 = .ok (.ldc2_w 308, 3) := by decide +kernel
theorem dX6_digest_130 : decode cX6_digest 130 = .ok (.lload_n 1, 1) := by decide +kernel
theorem dX6_digest_131 : decode cX6_digest 131 = .ok (.lmul, 1) := by decide +kernel
theorem dX6_digest_132 : decode cX6_digest 132 = .ok (.aload_n 0, 1) := by decide +kernel
theorem dX6_digest_133 : decode cX6_digest 133 = .ok (.getfield 10, 3) := by decide +kernel
theorem dX6_digest_136 : decode cX6_digest 136 = .ok (.getfield 160, 3) := by decide +kernel
theorem dX6_digest_139 : decode cX6_digest 139 = .ok (.iload_n 3, 1) := by decide +kernel
theorem dX6_digest_140 : decode cX6_digest 140 = .ok (.iaload, 1) := by decide +kernel
theorem dX6_digest_141 : decode cX6_digest 141 = .ok (.i2l, 1) := by decide +kernel
theorem dX6_digest_142 : decode cX6_digest 142 = .ok (.ladd, 1) := by decide +kernel
theorem dX6_digest_143 : decode cX6_digest 143 = .ok (.lstore_n 1, 1) := by decide +kernel
theorem dX6_digest_144 : decode cX6_digest 144 = .ok (.iinc 3 1, 3) := by decide +kernel
theorem dX6_digest_147 : decode cX6_digest 147 = .ok (.goto (-31), 3) := by decide +kernel
theorem dX6_digest_150 : decode cX6_digest 150 = .ok (.aload_n 0, 1) := by decide +kernel
theorem dX6_digest_151 : decode cX6_digest 151 = .ok (.getfield 10, 3) := by decide +kernel
theorem dX6_digest_154 : decode cX6_digest 154 = .ok (.getfield 210, 3) := by decide +kernel
theorem dX6_digest_157 : decode cX6_digest 157 = .ok (.lload_n 1, 1) := by decide +kernel
theorem dX6_digest_158 : decode cX6_digest 158 = .ok (.invokevirtual 310, 3) := by decide +kernel
theorem dX6_digest_161 : decode cX6_digest 161 = .ok (.lstore_n 1, 1) := by decide +kernel
theorem dX6_digest_162 : decode cX6_digest 162 = .ok (.aload_n 0, 1) := by decide +kernel
theorem dX6_digest_163 : decode cX6_digest 163 = .ok (.getfield 10, 3) := by decide +kernel
theorem dX6_digest_166 : decode cX6_digest 166 = .ok (.getfield 235, 3) := by decide +kernel
theorem dX6_digest_169 : decode cX6_digest 169 = .ok (.lload_n 1, 1) := by decide +kernel
theorem dX6_digest_170 : decode cX6_digest 170 = .ok (.invokevirtual 310, 3) := by decide +kernel
theorem dX6_digest_173 : decode cX6_digest 173 = .ok (.lstore_n 1, 1) := by decide +kernel
theorem dX6_digest_174 : decode cX6_digest 174 = .ok (.aload_n 0, 1) := by decide +kernel
theorem dX6_digest_175 : decode cX6_digest 175 = .ok (.getfield 10, 3) := by decide +kernel
theorem dX6_digest_178 : decode cX6_digest 178 = .ok (.getfield 238, 3) := by decide +kernel
theorem dX6_digest_181 : decode cX6_digest 181 = .ok (.lload_n 1, 1) := by decide +kernel
theorem dX6_digest_182 : decode cX6_digest 182 = .ok (.invokevirtual 310, 3) := by decide +kernel
theorem dX6_digest_185 : decode cX6_digest 185 = .ok (.lstore_n 1, 1) := by decide +kernel
theorem dX6_digest_186 : decode cX6_digest 186 = .ok (.ldc2_w 308, 3) := by decide +kernel
theorem dX6_digest_189 : decode cX6_digest 189 = .ok (.lload_n 1, 1) := by decide +kernel
theorem dX6_digest_190 : decode cX6_digest 190 = .ok (.lmul, 1) := by decide +kernel
theorem dX6_digest_191 : decode cX6_digest 191 = .ok (.aload_n 0, 1) := by decide +kernel
theorem dX6_digest_192 : decode cX6_digest 192 = .ok (.getfield 291, 3) := by decide +kernel
theorem dX6_digest_195 : decode cX6_digest 195 = .ok (.i2l, 1) := by decide +kernel
theorem dX6_digest_196 : decode cX6_digest 196 = .ok (.ladd, 1) := by decide +kernel
theorem dX6_digest_197 : decode cX6_digest 197 = .ok (.lstore_n 1, 1) := by decide +kernel
theorem dX6_digest_198 : decode cX6_digest 198 = .ok (.ldc2_w 308, 3) := by decide +kernel
theorem dX6_digest_201 : decode cX6_digest 201 = .ok (.lload_n 1, 1) := by decide +kernel
theorem dX6_digest_202 : decode cX6_digest 202 = .ok (.lmul, 1) := by decide +kernel
theorem dX6_digest_203 : decode cX6_digest 203 = .ok (.aload_n 0, 1) := by decide +kernel
theorem dX6_digest_204 : decode cX6_digest 204 = .ok (.getfield 52, 3) := by decide +kernel
theorem dX6_digest_207 : decode cX6_digest 207 = .ok (.i2l, 1) := by decide +kernel
theorem dX6_digest_208 : decode cX6_digest 208 = .ok (.ladd, 1) := by decide +kernel
theorem dX6_digest_209 : decode cX6_digest 209 = .ok (.lreturn, 1) := by decide +kernel
theorem dX6_refuseBad_0 : decode cX6_refuseBad 0 = .ok (.aload_n 0, 1) := by decide +kernel
theorem dX6_refuseBad_1 : decode cX6_refuseBad 1 = .ok (.dup, 1) := by decide +kernel
theorem dX6_refuseBad_2 : decode cX6_refuseBad 2 = .ok (.getfield 294, 3) := by decide +kernel
theorem dX6_refuseBad_5 : decode cX6_refuseBad 5 = .ok (.iconst 1, 1) := by decide +kernel
theorem dX6_refuseBad_6 : decode cX6_refuseBad 6 = .ok (.iadd, 1) := by decide +kernel
theorem dX6_refuseBad_7 : decode cX6_refuseBad 7 = .ok (.putfield 294, 3) := by decide +kernel
theorem dX6_refuseBad_10 : decode cX6_refuseBad 10 = .ok (.iload_n 1, 1) := by decide +kernel
theorem dX6_refuseBad_11 : decode cX6_refuseBad 11 = .ok (.ireturn, 1) := by decide +kernel
theorem dX6_refuseNo_0 : decode cX6_refuseNo 0 = .ok (.aload_n 0, 1) := by decide +kernel
theorem dX6_refuseNo_1 : decode cX6_refuseNo 1 = .ok (.dup, 1) := by decide +kernel
theorem dX6_refuseNo_2 : decode cX6_refuseNo 2 = .ok (.getfield 297, 3) := by decide +kernel
theorem dX6_refuseNo_5 : decode cX6_refuseNo 5 = .ok (.iconst 1, 1) := by decide +kernel
theorem dX6_refuseNo_6 : decode cX6_refuseNo 6 = .ok (.iadd, 1) := by decide +kernel
theorem dX6_refuseNo_7 : decode cX6_refuseNo 7 = .ok (.putfield 297, 3) := by decide +kernel
theorem dX6_refuseNo_10 : decode cX6_refuseNo 10 = .ok (.bipush (-3), 2) := by decide +kernel
theorem dX6_refuseNo_12 : decode cX6_refuseNo 12 = .ok (.ireturn, 1) := by decide +kernel
theorem dX6_refuseFull_0 : decode cX6_refuseFull 0 = .ok (.aload_n 0, 1) := by decide +kernel
theorem dX6_refuseFull_1 : decode cX6_refuseFull 1 = .ok (.dup, 1) := by decide +kernel
theorem dX6_refuseFull_2 : decode cX6_refuseFull 2 = .ok (.getfield 300, 3) := by decide +kernel
theorem dX6_refuseFull_5 : decode cX6_refuseFull 5 = .ok (.iconst 1, 1) := by decide +kernel
theorem dX6_refuseFull_6 : decode cX6_refuseFull 6 = .ok (.iadd, 1) := by decide +kernel
theorem dX6_refuseFull_7 : decode cX6_refuseFull 7 = .ok (.putfield 300, 3) := by decide +kernel
theorem dX6_refuseFull_10 : decode cX6_refuseFull 10 = .ok (.bipush (-4), 2) := by decide +kernel
theorem dX6_refuseFull_12 : decode cX6_refuseFull 12 = .ok (.ireturn, 1) := by decide +kernel
theorem dX6_within_0 : decode cX6_within 0 = .ok (.iload_n 0, 1) := by decide +kernel
theorem dX6_within_1 : decode cX6_within 1 = .ok (.iload_n 1, 1) := by decide +kernel
theorem dX6_within_2 : decode cX6_within 2 = .ok (.if_icmp .lt 12, 3) := by decide +kernel
theorem dX6_within_5 : decode cX6_within 5 = .ok (.iload_n 0, 1) := by decide +kernel
theorem dX6_within_6 : decode cX6_within 6 = .ok (.iload_n 2, 1) := by decide +kernel
theorem dX6_within_7 : decode cX6_within 7 = .ok (.if_icmp .gt 7, 3) := by decide +kernel
theorem dX6_within_10 : decode cX6_within 10 = .ok (.iconst 1, 1) := by decide +kernel
theorem dX6_within_11 : decode cX6_within 11 = .ok (.goto 4, 3) := by decide +kernel
theorem dX6_within_14 : decode cX6_within 14 = .ok (.iconst 0, 1) := by decide +kernel
theorem dX6_within_15 : decode cX6_within 15 = .ok (.ireturn, 1) := by decide +kernel
theorem dX6_contains_0 : decode cX6_contains 0 = .ok (.iload_n 0, 1) := by decide +kernel
theorem dX6_contains_1 : decode cX6_contains 1 = .ok (.iload_n 1, 1) := by decide +kernel
theorem dX6_contains_2 : decode cX6_contains 2 = .ok (.ishr, 1) := by decide +kernel
theorem dX6_contains_3 : decode cX6_contains 3 = .ok (.iconst 1, 1) := by decide +kernel
theorem dX6_contains_4 : decode cX6_contains 4 = .ok (.iand, 1) := by decide +kernel
theorem dX6_contains_5 : decode cX6_contains 5 = .ok (.iconst 1, 1) := by decide +kernel
theorem dX6_contains_6 : decode cX6_contains 6 = .ok (.if_icmp .ne 7, 3) := by decide +kernel
theorem dX6_contains_9 : decode cX6_contains 9 = .ok (.iconst 1, 1) := by decide +kernel
theorem dX6_contains_10 : decode cX6_contains 10 = .ok (.goto 4, 3) := by decide +kernel
theorem dX6_contains_13 : decode cX6_contains 13 = .ok (.iconst 0, 1) := by decide +kernel
theorem dX6_contains_14 : decode cX6_contains 14 = .ok (.ireturn, 1) := by decide +kernel
theorem dX6_counted_0 : decode cX6_counted 0 = .ok (.iload_n 1, 1) := by decide +kernel
theorem dX6_counted_1 : decode cX6_counted 1 = .ok (.tableswitch 150 0 9 #[55, 63, 71, 82, 90, 98, 109, 120, 131, 142], 55) := by decide +kernel
theorem dX6_counted_56 : decode cX6_counted 56 = .ok (.aload_n 0, 1) := by decide +kernel
theorem dX6_counted_57 : decode cX6_counted 57 = .ok (.getfield 10, 3) := by decide +kernel
theorem dX6_counted_60 : decode cX6_counted 60 = .ok (.getfield 56, 3) := by decide +kernel
theorem dX6_counted_63 : decode cX6_counted 63 = .ok (.ireturn, 1) := by decide +kernel
theorem dX6_counted_64 : decode cX6_counted 64 = .ok (.aload_n 0, 1) := by decide +kernel
theorem dX6_counted_65 : decode cX6_counted 65 = .ok (.getfield 10, 3) := by decide +kernel
theorem dX6_counted_68 : decode cX6_counted 68 = .ok (.getfield 84, 3) := by decide +kernel
theorem dX6_counted_71 : decode cX6_counted 71 = .ok (.ireturn, 1) := by decide +kernel
theorem dX6_counted_72 : decode cX6_counted 72 = .ok (.aload_n 0, 1) := by decide +kernel
theorem dX6_counted_73 : decode cX6_counted 73 = .ok (.getfield 10, 3) := by decide +kernel
theorem dX6_counted_76 : decode cX6_counted 76 = .ok (.getfield 119, 3) := by decide +kernel
theorem dX6_counted_79 : decode cX6_counted 79 = .ok (.getfield 123, 3) := by decide +kernel
theorem dX6_counted_82 : decode cX6_counted 82 = .ok (.ireturn, 1) := by decide +kernel
theorem dX6_counted_83 : decode cX6_counted 83 = .ok (.aload_n 0, 1) := by decide +kernel
theorem dX6_counted_84 : decode cX6_counted 84 = .ok (.getfield 10, 3) := by decide +kernel
theorem dX6_counted_87 : decode cX6_counted 87 = .ok (.invokevirtual 116, 3) := by decide +kernel
theorem dX6_counted_90 : decode cX6_counted 90 = .ok (.ireturn, 1) := by decide +kernel
theorem dX6_counted_91 : decode cX6_counted 91 = .ok (.aload_n 0, 1) := by decide +kernel
theorem dX6_counted_92 : decode cX6_counted 92 = .ok (.getfield 10, 3) := by decide +kernel
theorem dX6_counted_95 : decode cX6_counted 95 = .ok (.invokevirtual 314, 3) := by decide +kernel
theorem dX6_counted_98 : decode cX6_counted 98 = .ok (.ireturn, 1) := by decide +kernel
theorem dX6_counted_99 : decode cX6_counted 99 = .ok (.aload_n 0, 1) := by decide +kernel
theorem dX6_counted_100 : decode cX6_counted 100 = .ok (.getfield 10, 3) := by decide +kernel
theorem dX6_counted_103 : decode cX6_counted 103 = .ok (.getfield 119, 3) := by decide +kernel
theorem dX6_counted_106 : decode cX6_counted 106 = .ok (.getfield 317, 3) := by decide +kernel
theorem dX6_counted_109 : decode cX6_counted 109 = .ok (.ireturn, 1) := by decide +kernel
theorem dX6_counted_110 : decode cX6_counted 110 = .ok (.aload_n 0, 1) := by decide +kernel
theorem dX6_counted_111 : decode cX6_counted 111 = .ok (.getfield 10, 3) := by decide +kernel
theorem dX6_counted_114 : decode cX6_counted 114 = .ok (.getfield 210, 3) := by decide +kernel
theorem dX6_counted_117 : decode cX6_counted 117 = .ok (.getfield 214, 3) := by decide +kernel
theorem dX6_counted_120 : decode cX6_counted 120 = .ok (.ireturn, 1) := by decide +kernel
theorem dX6_counted_121 : decode cX6_counted 121 = .ok (.aload_n 0, 1) := by decide +kernel
theorem dX6_counted_122 : decode cX6_counted 122 = .ok (.getfield 10, 3) := by decide +kernel
theorem dX6_counted_125 : decode cX6_counted 125 = .ok (.getfield 235, 3) := by decide +kernel
theorem dX6_counted_128 : decode cX6_counted 128 = .ok (.getfield 214, 3) := by decide +kernel
theorem dX6_counted_131 : decode cX6_counted 131 = .ok (.ireturn, 1) := by decide +kernel
theorem dX6_counted_132 : decode cX6_counted 132 = .ok (.aload_n 0, 1) := by decide +kernel
theorem dX6_counted_133 : decode cX6_counted 133 = .ok (.getfield 10, 3) := by decide +kernel
theorem dX6_counted_136 : decode cX6_counted 136 = .ok (.getfield 238, 3) := by decide +kernel
theorem dX6_counted_139 : decode cX6_counted 139 = .ok (.getfield 214, 3) := by decide +kernel
theorem dX6_counted_142 : decode cX6_counted 142 = .ok (.ireturn, 1) := by decide +kernel
theorem dX6_counted_143 : decode cX6_counted 143 = .ok (.aload_n 0, 1) := by decide +kernel
theorem dX6_counted_144 : decode cX6_counted 144 = .ok (.getfield 10, 3) := by decide +kernel
theorem dX6_counted_147 : decode cX6_counted 147 = .ok (.getfield 73, 3) := by decide +kernel
theorem dX6_counted_150 : decode cX6_counted 150 = .ok (.ireturn, 1) := by decide +kernel
theorem dX6_counted_151 : decode cX6_counted 151 = .ok (.aload_n 0, 1) := by decide +kernel
theorem dX6_counted_152 : decode cX6_counted 152 = .ok (.getfield 30, 3) := by decide +kernel
theorem dX6_counted_155 : decode cX6_counted 155 = .ok (.getfield 90, 3) := by decide +kernel
theorem dX6_counted_158 : decode cX6_counted 158 = .ok (.ireturn, 1) := by decide +kernel
theorem dX6_keepFraction_0 : decode cX6_keepFraction 0 = .ok (.aload_n 0, 1) := by decide +kernel
theorem dX6_keepFraction_1 : decode cX6_keepFraction 1 = .ok (.iload_n 1, 1) := by decide +kernel
theorem dX6_keepFraction_2 : decode cX6_keepFraction 2 = .ok (.putfield 291, 3) := by decide +kernel
theorem dX6_keepFraction_5 : decode cX6_keepFraction 5 = .ok (.aload_n 0, 1) := by decide +kernel
theorem dX6_keepFraction_6 : decode cX6_keepFraction 6 = .ok (.iload_n 2, 1) := by decide +kernel
theorem dX6_keepFraction_7 : decode cX6_keepFraction 7 = .ok (.putfield 52, 3) := by decide +kernel
theorem dX6_keepFraction_10 : decode cX6_keepFraction 10 = .ok (.iload_n 2, 1) := by decide +kernel
theorem dX6_keepFraction_11 : decode cX6_keepFraction 11 = .ok (.istore_n 3, 1) := by decide +kernel
theorem dX6_keepFraction_12 : decode cX6_keepFraction 12 = .ok (.iload_n 3, 1) := by decide +kernel
theorem dX6_keepFraction_13 : decode cX6_keepFraction 13 = .ok (.iconst 1, 1) := by decide +kernel
theorem dX6_keepFraction_14 : decode cX6_keepFraction 14 = .ok (.if_icmp .le 47, 3) := by decide +kernel
theorem dX6_keepFraction_17 : decode cX6_keepFraction 17 = .ok (.aload_n 0, 1) := by decide +kernel
theorem dX6_keepFraction_18 : decode cX6_keepFraction 18 = .ok (.getfield 291, 3) := by decide +kernel
theorem dX6_keepFraction_21 : decode cX6_keepFraction 21 = .ok (.iload_n 3, 1) := by decide +kernel
theorem dX6_keepFraction_22 : decode cX6_keepFraction 22 = .ok (.irem, 1) := by decide +kernel
theorem dX6_keepFraction_23 : decode cX6_keepFraction 23 = .ok (.ifCond .ne 32, 3) := by decide +kernel
theorem dX6_keepFraction_26 : decode cX6_keepFraction 26 = .ok (.aload_n 0, 1) := by decide +kernel
theorem dX6_keepFraction_27 : decode cX6_keepFraction 27 = .ok (.getfield 52, 3) := by decide +kernel
theorem dX6_keepFraction_30 : decode cX6_keepFraction 30 = .ok (.iload_n 3, 1) := by decide +kernel
theorem dX6_keepFraction_31 : decode cX6_keepFraction 31 = .ok (.irem, 1) := by decide +kernel
theorem dX6_keepFraction_32 : decode cX6_keepFraction 32 = .ok (.ifCond .ne 23, 3) := by decide +kernel
theorem dX6_keepFraction_35 : decode cX6_keepFraction 35 = .ok (.aload_n 0, 1) := by decide +kernel
theorem dX6_keepFraction_36 : decode cX6_keepFraction 36 = .ok (.dup, 1) := by decide +kernel
theorem dX6_keepFraction_37 : decode cX6_keepFraction 37 = .ok (.getfield 291, 3) := by decide +kernel
theorem dX6_keepFraction_40 : decode cX6_keepFraction 40 = .ok (.iload_n 3, 1) := by decide +kernel
theorem dX6_keepFraction_41 : decode cX6_keepFraction 41 = .ok (.idiv, 1) := by decide +kernel
theorem dX6_keepFraction_42 : decode cX6_keepFraction 42 = .ok (.putfield 291, 3) := by decide +kernel
theorem dX6_keepFraction_45 : decode cX6_keepFraction 45 = .ok (.aload_n 0, 1) := by decide +kernel
theorem dX6_keepFraction_46 : decode cX6_keepFraction 46 = .ok (.dup, 1) := by decide +kernel
theorem dX6_keepFraction_47 : decode cX6_keepFraction 47 = .ok (.getfield 52, 3) := by decide +kernel
theorem dX6_keepFraction_50 : decode cX6_keepFraction 50 = .ok (.iload_n 3, 1) := by decide +kernel
theorem dX6_keepFraction_51 : decode cX6_keepFraction 51 = .ok (.idiv, 1) := by decide +kernel
theorem dX6_keepFraction_52 : decode cX6_keepFraction 52 = .ok (.putfield 52, 3) := by decide +kernel
theorem dX6_keepFraction_55 : decode cX6_keepFraction 55 = .ok (.iinc 3 (-1), 3) := by decide +kernel
theorem dX6_keepFraction_58 : decode cX6_keepFraction 58 = .ok (.goto (-46), 3) := by decide +kernel
theorem dX6_keepFraction_61 : decode cX6_keepFraction 61 = .ok (.return_, 1) := by decide +kernel
theorem dX6_soulsSeen_0 : decode cX6_soulsSeen 0 = .ok (.iconst 0, 1) := by decide +kernel
theorem dX6_soulsSeen_1 : decode cX6_soulsSeen 1 = .ok (.istore_n 1, 1) := by decide +kernel
theorem dX6_soulsSeen_2 : decode cX6_soulsSeen 2 = .ok (.iconst 0, 1) := by decide +kernel
theorem dX6_soulsSeen_3 : decode cX6_soulsSeen 3 = .ok (.istore_n 2, 1) := by decide +kernel
theorem dX6_soulsSeen_4 : decode cX6_soulsSeen 4 = .ok (.iload_n 2, 1) := by decide +kernel
theorem dX6_soulsSeen_5 : decode cX6_soulsSeen 5 = .ok (.aload_n 0, 1) := by decide +kernel
theorem dX6_soulsSeen_6 : decode cX6_soulsSeen 6 = .ok (.getfield 10, 3) := by decide +kernel
theorem dX6_soulsSeen_9 : decode cX6_soulsSeen 9 = .ok (.getfield 56, 3) := by decide +kernel
theorem dX6_soulsSeen_12 : decode cX6_soulsSeen 12 = .ok (.if_icmp .ge 99, 3) := by decide +kernel
theorem dX6_soulsSeen_15 : decode cX6_soulsSeen 15 = .ok (.aload_n 0, 1) := by decide +kernel
theorem dX6_soulsSeen_16 : decode cX6_soulsSeen 16 = .ok (.getfield 10, 3) := by decide +kernel
theorem dX6_soulsSeen_19 : decode cX6_soulsSeen 19 = .ok (.iload_n 2, 1) := by decide +kernel
theorem dX6_soulsSeen_20 : decode cX6_soulsSeen 20 = .ok (.invokevirtual 266, 3) := by decide +kernel
theorem dX6_soulsSeen_23 : decode cX6_soulsSeen 23 = .ok (.istore_n 3, 1) := by decide +kernel
theorem dX6_soulsSeen_24 : decode cX6_soulsSeen 24 = .ok (.iconst 0, 1) := by decide +kernel
theorem dX6_soulsSeen_25 : decode cX6_soulsSeen 25 = .ok (.istore 4, 2) := by decide +kernel
theorem dX6_soulsSeen_27 : decode cX6_soulsSeen 27 = .ok (.iload 4, 2) := by decide +kernel
theorem dX6_soulsSeen_29 : decode cX6_soulsSeen 29 = .ok (.aload_n 0, 1) := by decide +kernel
theorem dX6_soulsSeen_30 : decode cX6_soulsSeen 30 = .ok (.getfield 10, 3) := by decide +kernel
theorem dX6_soulsSeen_33 : decode cX6_soulsSeen 33 = .ok (.getfield 210, 3) := by decide +kernel
theorem dX6_soulsSeen_36 : decode cX6_soulsSeen 36 = .ok (.getfield 214, 3) := by decide +kernel
theorem dX6_soulsSeen_39 : decode cX6_soulsSeen 39 = .ok (.if_icmp .ge 56, 3) := by decide +kernel
theorem dX6_soulsSeen_42 : decode cX6_soulsSeen 42 = .ok (.iload_n 3, 1) := by decide +kernel
theorem dX6_soulsSeen_43 : decode cX6_soulsSeen 43 = .ok (.ifCond .eq 52, 3) := by decide +kernel
theorem dX6_soulsSeen_46 : decode cX6_soulsSeen 46 = .ok (.aload_n 0, 1) := by decide +kernel
theorem dX6_soulsSeen_47 : decode cX6_soulsSeen 47 = .ok (.getfield 10, 3) := by decide +kernel
theorem dX6_soulsSeen_50 : decode cX6_soulsSeen 50 = .ok (.iload_n 2, 1) := by decide +kernel
theorem dX6_soulsSeen_51 : decode cX6_soulsSeen 51 = .ok (.aload_n 0, 1) := by decide +kernel
theorem dX6_soulsSeen_52 : decode cX6_soulsSeen 52 = .ok (.getfield 10, 3) := by decide +kernel
theorem dX6_soulsSeen_55 : decode cX6_soulsSeen 55 = .ok (.getfield 210, 3) := by decide +kernel
theorem dX6_soulsSeen_58 : decode cX6_soulsSeen 58 = .ok (.iload 4, 2) := by decide +kernel
theorem dX6_soulsSeen_60 : decode cX6_soulsSeen 60 = .ok (.iconst 0, 1) := by decide +kernel
theorem dX6_soulsSeen_61 : decode cX6_soulsSeen 61 = .ok (.invokevirtual 320, 3) := by decide +kernel
theorem dX6_soulsSeen_64 : decode cX6_soulsSeen 64 = .ok (.invokevirtual 169, 3) := by decide +kernel
theorem dX6_soulsSeen_67 : decode cX6_soulsSeen 67 = .ok (.aload_n 0, 1) := by decide +kernel
theorem dX6_soulsSeen_68 : decode cX6_soulsSeen 68 = .ok (.getfield 10, 3) := by decide +kernel
theorem dX6_soulsSeen_71 : decode cX6_soulsSeen 71 = .ok (.getfield 210, 3) := by decide +kernel
theorem dX6_soulsSeen_74 : decode cX6_soulsSeen 74 = .ok (.iload 4, 2) := by decide +kernel
theorem dX6_soulsSeen_76 : decode cX6_soulsSeen 76 = .ok (.iconst 1, 1) := by decide +kernel
theorem dX6_soulsSeen_77 : decode cX6_soulsSeen 77 = .ok (.invokevirtual 320, 3) := by decide +kernel
theorem dX6_soulsSeen_80 : decode cX6_soulsSeen 80 = .ok (.if_icmp .ne 7, 3) := by decide +kernel
theorem dX6_soulsSeen_83 : decode cX6_soulsSeen 83 = .ok (.iconst 1, 1) := by decide +kernel
theorem dX6_soulsSeen_84 : decode cX6_soulsSeen 84 = .ok (.goto 4, 3) := by decide +kernel
theorem dX6_soulsSeen_87 : decode cX6_soulsSeen 87 = .ok (.iconst 0, 1) := by decide +kernel
theorem dX6_soulsSeen_88 : decode cX6_soulsSeen 88 = .ok (.istore_n 3, 1) := by decide +kernel
theorem dX6_soulsSeen_89 : decode cX6_soulsSeen 89 = .ok (.iinc 4 1, 3) := by decide +kernel
theorem dX6_soulsSeen_92 : decode cX6_soulsSeen 92 = .ok (.goto (-65), 3) := by decide +kernel
theorem dX6_soulsSeen_95 : decode cX6_soulsSeen 95 = .ok (.iload_n 3, 1) := by decide +kernel
theorem dX6_soulsSeen_96 : decode cX6_soulsSeen 96 = .ok (.ifCond .eq 9, 3) := by decide +kernel
theorem dX6_soulsSeen_99 : decode cX6_soulsSeen 99 = .ok (.iload_n 1, 1) := by decide +kernel
theorem dX6_soulsSeen_100 : decode cX6_soulsSeen 100 = .ok (.iconst 1, 1) := by decide +kernel
theorem dX6_soulsSeen_101 : decode cX6_soulsSeen 101 = .ok (.iload_n 2, 1) := by decide +kernel
theorem dX6_soulsSeen_102 : decode cX6_soulsSeen 102 = .ok (.ishl, 1) := by decide +kernel
theorem dX6_soulsSeen_103 : decode cX6_soulsSeen 103 = .ok (.ior, 1) := by decide +kernel
theorem dX6_soulsSeen_104 : decode cX6_soulsSeen 104 = .ok (.istore_n 1, 1) := by decide +kernel
theorem dX6_soulsSeen_105 : decode cX6_soulsSeen 105 = .ok (.iinc 2 1, 3) := by decide +kernel
theorem dX6_soulsSeen_108 : decode cX6_soulsSeen 108 = .ok (.goto (-104), 3) := by decide +kernel
theorem dX6_soulsSeen_111 : decode cX6_soulsSeen 111 = .ok (.iload_n 1, 1) := by decide +kernel
theorem dX6_soulsSeen_112 : decode cX6_soulsSeen 112 = .ok (.ireturn, 1) := by decide +kernel
theorem dX6_soulKinds_0 : decode cX6_soulKinds 0 = .ok (.bipush 63, 2) := by decide +kernel
theorem dX6_soulKinds_2 : decode cX6_soulKinds 2 = .ok (.istore_n 2, 1) := by decide +kernel
theorem dX6_soulKinds_3 : decode cX6_soulKinds 3 = .ok (.iconst 0, 1) := by decide +kernel
theorem dX6_soulKinds_4 : decode cX6_soulKinds 4 = .ok (.istore_n 3, 1) := by decide +kernel
theorem dX6_soulKinds_5 : decode cX6_soulKinds 5 = .ok (.iload_n 3, 1) := by decide +kernel
theorem dX6_soulKinds_6 : decode cX6_soulKinds 6 = .ok (.aload_n 0, 1) := by decide +kernel
theorem dX6_soulKinds_7 : decode cX6_soulKinds 7 = .ok (.getfield 10, 3) := by decide +kernel
theorem dX6_soulKinds_10 : decode cX6_soulKinds 10 = .ok (.getfield 235, 3) := by decide +kernel
theorem dX6_soulKinds_13 : decode cX6_soulKinds 13 = .ok (.getfield 214, 3) := by decide +kernel
theorem dX6_soulKinds_16 : decode cX6_soulKinds 16 = .ok (.if_icmp .ge 67, 3) := by decide +kernel
theorem dX6_soulKinds_19 : decode cX6_soulKinds 19 = .ok (.aload_n 0, 1) := by decide +kernel
theorem dX6_soulKinds_20 : decode cX6_soulKinds 20 = .ok (.getfield 10, 3) := by decide +kernel
theorem dX6_soulKinds_23 : decode cX6_soulKinds 23 = .ok (.getfield 235, 3) := by decide +kernel
theorem dX6_soulKinds_26 : decode cX6_soulKinds 26 = .ok (.iload_n 3, 1) := by decide +kernel
theorem dX6_soulKinds_27 : decode cX6_soulKinds 27 = .ok (.iconst 0, 1) := by decide +kernel
theorem dX6_soulKinds_28 : decode cX6_soulKinds 28 = .ok (.invokevirtual 320, 3) := by decide +kernel
theorem dX6_soulKinds_31 : decode cX6_soulKinds 31 = .ok (.iload_n 1, 1) := by decide +kernel
theorem dX6_soulKinds_32 : decode cX6_soulKinds 32 = .ok (.if_icmp .ne 45, 3) := by decide +kernel
theorem dX6_soulKinds_35 : decode cX6_soulKinds 35 = .ok (.iload_n 2, 1) := by decide +kernel
theorem dX6_soulKinds_36 : decode cX6_soulKinds 36 = .ok (.aload_n 0, 1) := by decide +kernel
theorem dX6_soulKinds_37 : decode cX6_soulKinds 37 = .ok (.getfield 10, 3) := by decide +kernel
theorem dX6_soulKinds_40 : decode cX6_soulKinds 40 = .ok (.getfield 235, 3) := by decide +kernel
theorem dX6_soulKinds_43 : decode cX6_soulKinds 43 = .ok (.iload_n 3, 1) := by decide +kernel
theorem dX6_soulKinds_44 : decode cX6_soulKinds 44 = .ok (.iconst 1, 1) := by decide +kernel
theorem dX6_soulKinds_45 : decode cX6_soulKinds 45 = .ok (.invokevirtual 320, 3) := by decide +kernel
theorem dX6_soulKinds_48 : decode cX6_soulKinds 48 = .ok (.aload_n 0, 1) := by decide +kernel
theorem dX6_soulKinds_49 : decode cX6_soulKinds 49 = .ok (.getfield 10, 3) := by decide +kernel
theorem dX6_soulKinds_52 : decode cX6_soulKinds 52 = .ok (.getfield 235, 3) := by decide +kernel
theorem dX6_soulKinds_55 : decode cX6_soulKinds 55 = .ok (.iload_n 3, 1) := by decide +kernel
theorem dX6_soulKinds_56 : decode cX6_soulKinds 56 = .ok (.iconst 2, 1) := by decide +kernel
theorem dX6_soulKinds_57 : decode cX6_soulKinds 57 = .ok (.invokevirtual 320, 3) := by decide +kernel
theorem dX6_soulKinds_60 : decode cX6_soulKinds 60 = .ok (.aload_n 0, 1) := by decide +kernel
theorem dX6_soulKinds_61 : decode cX6_soulKinds 61 = .ok (.getfield 10, 3) := by decide +kernel
theorem dX6_soulKinds_64 : decode cX6_soulKinds 64 = .ok (.getfield 235, 3) := by decide +kernel
theorem dX6_soulKinds_67 : decode cX6_soulKinds 67 = .ok (.iload_n 3, 1) := by decide +kernel
theorem dX6_soulKinds_68 : decode cX6_soulKinds 68 = .ok (.iconst 3, 1) := by decide +kernel
theorem dX6_soulKinds_69 : decode cX6_soulKinds 69 = .ok (.invokevirtual 320, 3) := by decide +kernel
theorem dX6_soulKinds_72 : decode cX6_soulKinds 72 = .ok (.invokestatic 323, 3) := by decide +kernel
theorem dX6_soulKinds_75 : decode cX6_soulKinds 75 = .ok (.iand, 1) := by decide +kernel
theorem dX6_soulKinds_76 : decode cX6_soulKinds 76 = .ok (.istore_n 2, 1) := by decide +kernel
theorem dX6_soulKinds_77 : decode cX6_soulKinds 77 = .ok (.iinc 3 1, 3) := by decide +kernel
theorem dX6_soulKinds_80 : decode cX6_soulKinds 80 = .ok (.goto (-75), 3) := by decide +kernel
theorem dX6_soulKinds_83 : decode cX6_soulKinds 83 = .ok (.iload_n 2, 1) := by decide +kernel
theorem dX6_soulKinds_84 : decode cX6_soulKinds 84 = .ok (.ireturn, 1) := by decide +kernel
theorem dX6_kindsWeighing_0 : decode cX6_kindsWeighing 0 = .ok (.iconst 0, 1) := by decide +kernel
theorem dX6_kindsWeighing_1 : decode cX6_kindsWeighing 1 = .ok (.istore_n 3, 1) := by decide +kernel
theorem dX6_kindsWeighing_2 : decode cX6_kindsWeighing 2 = .ok (.iconst 0, 1) := by decide +kernel
theorem dX6_kindsWeighing_3 : decode cX6_kindsWeighing 3 = .ok (.istore 4, 2) := by decide +kernel
theorem dX6_kindsWeighing_5 : decode cX6_kindsWeighing 5 = .ok (.iload 4, 2) := by decide +kernel
theorem dX6_kindsWeighing_7 : decode cX6_kindsWeighing 7 = .ok (.bipush 6, 2) := by decide +kernel
theorem dX6_kindsWeighing_9 : decode cX6_kindsWeighing 9 = .ok (.if_icmp .ge 27, 3) := by decide +kernel
theorem dX6_kindsWeighing_12 : decode cX6_kindsWeighing 12 = .ok (.iload 4, 2) := by decide +kernel
theorem dX6_kindsWeighing_14 : decode cX6_kindsWeighing 14 = .ok (.iload_n 0, 1) := by decide +kernel
theorem dX6_kindsWeighing_15 : decode cX6_kindsWeighing 15 = .ok (.iload_n 1, 1) := by decide +kernel
theorem dX6_kindsWeighing_16 : decode cX6_kindsWeighing 16 = .ok (.invokestatic 250, 3) := by decide +kernel
theorem dX6_kindsWeighing_19 : decode cX6_kindsWeighing 19 = .ok (.iload_n 2, 1) := by decide +kernel
theorem dX6_kindsWeighing_20 : decode cX6_kindsWeighing 20 = .ok (.if_icmp .ne 10, 3) := by decide +kernel
theorem dX6_kindsWeighing_23 : decode cX6_kindsWeighing 23 = .ok (.iload_n 3, 1) := by decide +kernel
theorem dX6_kindsWeighing_24 : decode cX6_kindsWeighing 24 = .ok (.iconst 1, 1) := by decide +kernel
theorem dX6_kindsWeighing_25 : decode cX6_kindsWeighing 25 = .ok (.iload 4, 2) := by decide +kernel
theorem dX6_kindsWeighing_27 : decode cX6_kindsWeighing 27 = .ok (.ishl, 1) := by decide +kernel
theorem dX6_kindsWeighing_28 : decode cX6_kindsWeighing 28 = .ok (.ior, 1) := by decide +kernel
theorem dX6_kindsWeighing_29 : decode cX6_kindsWeighing 29 = .ok (.istore_n 3, 1) := by decide +kernel
theorem dX6_kindsWeighing_30 : decode cX6_kindsWeighing 30 = .ok (.iinc 4 1, 3) := by decide +kernel
theorem dX6_kindsWeighing_33 : decode cX6_kindsWeighing 33 = .ok (.goto (-28), 3) := by decide +kernel
theorem dX6_kindsWeighing_36 : decode cX6_kindsWeighing 36 = .ok (.iload_n 3, 1) := by decide +kernel
theorem dX6_kindsWeighing_37 : decode cX6_kindsWeighing 37 = .ok (.ireturn, 1) := by decide +kernel
theorem dX6_callerKinds_0 : decode cX6_callerKinds 0 = .ok (.bipush 63, 2) := by decide +kernel
theorem dX6_callerKinds_2 : decode cX6_callerKinds 2 = .ok (.istore_n 2, 1) := by decide +kernel
theorem dX6_callerKinds_3 : decode cX6_callerKinds 3 = .ok (.iconst 0, 1) := by decide +kernel
theorem dX6_callerKinds_4 : decode cX6_callerKinds 4 = .ok (.istore_n 3, 1) := by decide +kernel
theorem dX6_callerKinds_5 : decode cX6_callerKinds 5 = .ok (.iload_n 3, 1) := by decide +kernel
theorem dX6_callerKinds_6 : decode cX6_callerKinds 6 = .ok (.aload_n 0, 1) := by decide +kernel
theorem dX6_callerKinds_7 : decode cX6_callerKinds 7 = .ok (.getfield 10, 3) := by decide +kernel
theorem dX6_callerKinds_10 : decode cX6_callerKinds 10 = .ok (.getfield 238, 3) := by decide +kernel
theorem dX6_callerKinds_13 : decode cX6_callerKinds 13 = .ok (.getfield 214, 3) := by decide +kernel
theorem dX6_callerKinds_16 : decode cX6_callerKinds 16 = .ok (.if_icmp .ge 55, 3) := by decide +kernel
theorem dX6_callerKinds_19 : decode cX6_callerKinds 19 = .ok (.aload_n 0, 1) := by decide +kernel
theorem dX6_callerKinds_20 : decode cX6_callerKinds 20 = .ok (.getfield 10, 3) := by decide +kernel
theorem dX6_callerKinds_23 : decode cX6_callerKinds 23 = .ok (.getfield 238, 3) := by decide +kernel
theorem dX6_callerKinds_26 : decode cX6_callerKinds 26 = .ok (.iload_n 3, 1) := by decide +kernel
theorem dX6_callerKinds_27 : decode cX6_callerKinds 27 = .ok (.iconst 0, 1) := by decide +kernel
theorem dX6_callerKinds_28 : decode cX6_callerKinds 28 = .ok (.invokevirtual 320, 3) := by decide +kernel
theorem dX6_callerKinds_31 : decode cX6_callerKinds 31 = .ok (.iload_n 1, 1) := by decide +kernel
theorem dX6_callerKinds_32 : decode cX6_callerKinds 32 = .ok (.if_icmp .ne 33, 3) := by decide +kernel
theorem dX6_callerKinds_35 : decode cX6_callerKinds 35 = .ok (.iload_n 2, 1) := by decide +kernel
theorem dX6_callerKinds_36 : decode cX6_callerKinds 36 = .ok (.aload_n 0, 1) := by decide +kernel
theorem dX6_callerKinds_37 : decode cX6_callerKinds 37 = .ok (.getfield 10, 3) := by decide +kernel
theorem dX6_callerKinds_40 : decode cX6_callerKinds 40 = .ok (.getfield 238, 3) := by decide +kernel
theorem dX6_callerKinds_43 : decode cX6_callerKinds 43 = .ok (.iload_n 3, 1) := by decide +kernel
theorem dX6_callerKinds_44 : decode cX6_callerKinds 44 = .ok (.iconst 1, 1) := by decide +kernel
theorem dX6_callerKinds_45 : decode cX6_callerKinds 45 = .ok (.invokevirtual 320, 3) := by decide +kernel
theorem dX6_callerKinds_48 : decode cX6_callerKinds 48 = .ok (.aload_n 0, 1) := by decide +kernel
theorem dX6_callerKinds_49 : decode cX6_callerKinds 49 = .ok (.getfield 10, 3) := by decide +kernel
theorem dX6_callerKinds_52 : decode cX6_callerKinds 52 = .ok (.getfield 238, 3) := by decide +kernel
theorem dX6_callerKinds_55 : decode cX6_callerKinds 55 = .ok (.iload_n 3, 1) := by decide +kernel
theorem dX6_callerKinds_56 : decode cX6_callerKinds 56 = .ok (.iconst 2, 1) := by decide +kernel
theorem dX6_callerKinds_57 : decode cX6_callerKinds 57 = .ok (.invokevirtual 320, 3) := by decide +kernel
theorem dX6_callerKinds_60 : decode cX6_callerKinds 60 = .ok (.invokestatic 326, 3) := by decide +kernel
theorem dX6_callerKinds_63 : decode cX6_callerKinds 63 = .ok (.iand, 1) := by decide +kernel
theorem dX6_callerKinds_64 : decode cX6_callerKinds 64 = .ok (.istore_n 2, 1) := by decide +kernel
theorem dX6_callerKinds_65 : decode cX6_callerKinds 65 = .ok (.iinc 3 1, 3) := by decide +kernel
theorem dX6_callerKinds_68 : decode cX6_callerKinds 68 = .ok (.goto (-63), 3) := by decide +kernel
theorem dX6_callerKinds_71 : decode cX6_callerKinds 71 = .ok (.iload_n 2, 1) := by decide +kernel
theorem dX6_callerKinds_72 : decode cX6_callerKinds 72 = .ok (.ireturn, 1) := by decide +kernel
theorem dX6_kindsFeeling_0 : decode cX6_kindsFeeling 0 = .ok (.iconst 0, 1) := by decide +kernel
theorem dX6_kindsFeeling_1 : decode cX6_kindsFeeling 1 = .ok (.istore_n 2, 1) := by decide +kernel
theorem dX6_kindsFeeling_2 : decode cX6_kindsFeeling 2 = .ok (.iconst 0, 1) := by decide +kernel
theorem dX6_kindsFeeling_3 : decode cX6_kindsFeeling 3 = .ok (.istore_n 3, 1) := by decide +kernel
theorem dX6_kindsFeeling_4 : decode cX6_kindsFeeling 4 = .ok (.iload_n 3, 1) := by decide +kernel
theorem dX6_kindsFeeling_5 : decode cX6_kindsFeeling 5 = .ok (.bipush 6, 2) := by decide +kernel
theorem dX6_kindsFeeling_7 : decode cX6_kindsFeeling 7 = .ok (.if_icmp .ge 24, 3) := by decide +kernel
theorem dX6_kindsFeeling_10 : decode cX6_kindsFeeling 10 = .ok (.iload_n 3, 1) := by decide +kernel
theorem dX6_kindsFeeling_11 : decode cX6_kindsFeeling 11 = .ok (.iload_n 0, 1) := by decide +kernel
theorem dX6_kindsFeeling_12 : decode cX6_kindsFeeling 12 = .ok (.invokestatic 256, 3) := by decide +kernel
theorem dX6_kindsFeeling_15 : decode cX6_kindsFeeling 15 = .ok (.iload_n 1, 1) := by decide +kernel
theorem dX6_kindsFeeling_16 : decode cX6_kindsFeeling 16 = .ok (.if_icmp .ne 9, 3) := by decide +kernel
theorem dX6_kindsFeeling_19 : decode cX6_kindsFeeling 19 = .ok (.iload_n 2, 1) := by decide +kernel
theorem dX6_kindsFeeling_20 : decode cX6_kindsFeeling 20 = .ok (.iconst 1, 1) := by decide +kernel
theorem dX6_kindsFeeling_21 : decode cX6_kindsFeeling 21 = .ok (.iload_n 3, 1) := by decide +kernel
theorem dX6_kindsFeeling_22 : decode cX6_kindsFeeling 22 = .ok (.ishl, 1) := by decide +kernel
theorem dX6_kindsFeeling_23 : decode cX6_kindsFeeling 23 = .ok (.ior, 1) := by decide +kernel
theorem dX6_kindsFeeling_24 : decode cX6_kindsFeeling 24 = .ok (.istore_n 2, 1) := by decide +kernel
theorem dX6_kindsFeeling_25 : decode cX6_kindsFeeling 25 = .ok (.iinc 3 1, 3) := by decide +kernel
theorem dX6_kindsFeeling_28 : decode cX6_kindsFeeling 28 = .ok (.goto (-24), 3) := by decide +kernel
theorem dX6_kindsFeeling_31 : decode cX6_kindsFeeling 31 = .ok (.iload_n 2, 1) := by decide +kernel
theorem dX6_kindsFeeling_32 : decode cX6_kindsFeeling 32 = .ok (.ireturn, 1) := by decide +kernel
theorem dX6_mostAlike_0 : decode cX6_mostAlike 0 = .ok (.iconst 0, 1) := by decide +kernel
theorem dX6_mostAlike_1 : decode cX6_mostAlike 1 = .ok (.istore_n 2, 1) := by decide +kernel
theorem dX6_mostAlike_2 : decode cX6_mostAlike 2 = .ok (.iconst 0, 1) := by decide +kernel
theorem dX6_mostAlike_3 : decode cX6_mostAlike 3 = .ok (.istore_n 3, 1) := by decide +kernel
theorem dX6_mostAlike_4 : decode cX6_mostAlike 4 = .ok (.iload_n 3, 1) := by decide +kernel
theorem dX6_mostAlike_5 : decode cX6_mostAlike 5 = .ok (.aload_n 1, 1) := by decide +kernel
theorem dX6_mostAlike_6 : decode cX6_mostAlike 6 = .ok (.arraylength, 1) := by decide +kernel
theorem dX6_mostAlike_7 : decode cX6_mostAlike 7 = .ok (.if_icmp .ge 65, 3) := by decide +kernel
theorem dX6_mostAlike_10 : decode cX6_mostAlike 10 = .ok (.iconst 0, 1) := by decide +kernel
theorem dX6_mostAlike_11 : decode cX6_mostAlike 11 = .ok (.istore 4, 2) := by decide +kernel
theorem dX6_mostAlike_13 : decode cX6_mostAlike 13 = .ok (.iconst 0, 1) := by decide +kernel
theorem dX6_mostAlike_14 : decode cX6_mostAlike 14 = .ok (.istore 5, 2) := by decide +kernel
theorem dX6_mostAlike_16 : decode cX6_mostAlike 16 = .ok (.iload 5, 2) := by decide +kernel
theorem dX6_mostAlike_18 : decode cX6_mostAlike 18 = .ok (.aload_n 1, 1) := by decide +kernel
theorem dX6_mostAlike_19 : decode cX6_mostAlike 19 = .ok (.arraylength, 1) := by decide +kernel
theorem dX6_mostAlike_20 : decode cX6_mostAlike 20 = .ok (.if_icmp .ge 39, 3) := by decide +kernel
theorem dX6_mostAlike_23 : decode cX6_mostAlike 23 = .ok (.iload_n 0, 1) := by decide +kernel
theorem dX6_mostAlike_24 : decode cX6_mostAlike 24 = .ok (.iload_n 3, 1) := by decide +kernel
theorem dX6_mostAlike_25 : decode cX6_mostAlike 25 = .ok (.invokestatic 231, 3) := by decide +kernel
theorem dX6_mostAlike_28 : decode cX6_mostAlike 28 = .ok (.ifCond .eq 25, 3) := by decide +kernel
theorem dX6_mostAlike_31 : decode cX6_mostAlike 31 = .ok (.iload_n 0, 1) := by decide +kernel
theorem dX6_mostAlike_32 : decode cX6_mostAlike 32 = .ok (.iload 5, 2) := by decide +kernel
theorem dX6_mostAlike_34 : decode cX6_mostAlike 34 = .ok (.invokestatic 231, 3) := by decide +kernel
theorem dX6_mostAlike_37 : decode cX6_mostAlike 37 = .ok (.ifCond .eq 16, 3) := by decide +kernel
theorem dX6_mostAlike_40 : decode cX6_mostAlike 40 = .ok (.aload_n 1, 1) := by decide +kernel
theorem dX6_mostAlike_41 : decode cX6_mostAlike 41 = .ok (.iload_n 3, 1) := by decide +kernel
theorem dX6_mostAlike_42 : decode cX6_mostAlike 42 = .ok (.iaload, 1) := by decide +kernel
theorem dX6_mostAlike_43 : decode cX6_mostAlike 43 = .ok (.aload_n 1, 1) := by decide +kernel
theorem dX6_mostAlike_44 : decode cX6_mostAlike 44 = .ok (.iload 5, 2) := by decide +kernel
theorem dX6_mostAlike_46 : decode cX6_mostAlike 46 = .ok (.iaload, 1) := by decide +kernel
theorem dX6_mostAlike_47 : decode cX6_mostAlike 47 = .ok (.if_icmp .ne 6, 3) := by decide +kernel
theorem dX6_mostAlike_50 : decode cX6_mostAlike 50 = .ok (.iinc 4 1, 3) := by decide +kernel
theorem dX6_mostAlike_53 : decode cX6_mostAlike 53 = .ok (.iinc 5 1, 3) := by decide +kernel
theorem dX6_mostAlike_56 : decode cX6_mostAlike 56 = .ok (.goto (-40), 3) := by decide +kernel
theorem dX6_mostAlike_59 : decode cX6_mostAlike 59 = .ok (.iload_n 2, 1) := by decide +kernel
theorem dX6_mostAlike_60 : decode cX6_mostAlike 60 = .ok (.iload 4, 2) := by decide +kernel
theorem dX6_mostAlike_62 : decode cX6_mostAlike 62 = .ok (.invokestatic 329, 3) := by decide +kernel
theorem dX6_mostAlike_65 : decode cX6_mostAlike 65 = .ok (.istore_n 2, 1) := by decide +kernel
theorem dX6_mostAlike_66 : decode cX6_mostAlike 66 = .ok (.iinc 3 1, 3) := by decide +kernel
theorem dX6_mostAlike_69 : decode cX6_mostAlike 69 = .ok (.goto (-65), 3) := by decide +kernel
theorem dX6_mostAlike_72 : decode cX6_mostAlike 72 = .ok (.iload_n 2, 1) := by decide +kernel
theorem dX6_mostAlike_73 : decode cX6_mostAlike 73 = .ok (.ireturn, 1) := by decide +kernel
theorem dX6_rests_0 : decode cX6_rests 0 = .ok (.iconst 0, 1) := by decide +kernel
theorem dX6_rests_1 : decode cX6_rests 1 = .ok (.istore 4, 2) := by decide +kernel
theorem dX6_rests_3 : decode cX6_rests 3 = .ok (.iload 4, 2) := by decide +kernel
theorem dX6_rests_5 : decode cX6_rests 5 = .ok (.bipush 10, 2) := by decide +kernel
theorem dX6_rests_7 : decode cX6_rests 7 = .ok (.if_icmp .ge 43, 3) := by decide +kernel
theorem dX6_rests_10 : decode cX6_rests 10 = .ok (.iload 4, 2) := by decide +kernel
theorem dX6_rests_12 : decode cX6_rests 12 = .ok (.iload_n 1, 1) := by decide +kernel
theorem dX6_rests_13 : decode cX6_rests 13 = .ok (.iload_n 2, 1) := by decide +kernel
theorem dX6_rests_14 : decode cX6_rests 14 = .ok (.invokestatic 332, 3) := by decide +kernel
theorem dX6_rests_17 : decode cX6_rests 17 = .ok (.iload_n 0, 1) := by decide +kernel
theorem dX6_rests_18 : decode cX6_rests 18 = .ok (.iload_n 1, 1) := by decide +kernel
theorem dX6_rests_19 : decode cX6_rests 19 = .ok (.iload_n 2, 1) := by decide +kernel
theorem dX6_rests_20 : decode cX6_rests 20 = .ok (.invokestatic 332, 3) := by decide +kernel
theorem dX6_rests_23 : decode cX6_rests 23 = .ok (.if_icmp .gt 19, 3) := by decide +kernel
theorem dX6_rests_26 : decode cX6_rests 26 = .ok (.iload_n 0, 1) := by decide +kernel
theorem dX6_rests_27 : decode cX6_rests 27 = .ok (.iload 4, 2) := by decide +kernel
theorem dX6_rests_29 : decode cX6_rests 29 = .ok (.iload_n 3, 1) := by decide +kernel
theorem dX6_rests_30 : decode cX6_rests 30 = .ok (.invokestatic 335, 3) := by decide +kernel
theorem dX6_rests_33 : decode cX6_rests 33 = .ok (.iload_n 0, 1) := by decide +kernel
theorem dX6_rests_34 : decode cX6_rests 34 = .ok (.iload_n 1, 1) := by decide +kernel
theorem dX6_rests_35 : decode cX6_rests 35 = .ok (.iload_n 3, 1) := by decide +kernel
theorem dX6_rests_36 : decode cX6_rests 36 = .ok (.invokestatic 335, 3) := by decide +kernel
theorem dX6_rests_39 : decode cX6_rests 39 = .ok (.if_icmp .le 5, 3) := by decide +kernel
theorem dX6_rests_42 : decode cX6_rests 42 = .ok (.iconst 0, 1) := by decide +kernel
theorem dX6_rests_43 : decode cX6_rests 43 = .ok (.ireturn, 1) := by decide +kernel
theorem dX6_rests_44 : decode cX6_rests 44 = .ok (.iinc 4 1, 3) := by decide +kernel
theorem dX6_rests_47 : decode cX6_rests 47 = .ok (.goto (-44), 3) := by decide +kernel
theorem dX6_rests_50 : decode cX6_rests 50 = .ok (.iconst 1, 1) := by decide +kernel
theorem dX6_rests_51 : decode cX6_rests 51 = .ok (.ireturn, 1) := by decide +kernel
theorem dX6_gainOfFirst_0 : decode cX6_gainOfFirst 0 = .ok (.iload_n 0, 1) := by decide +kernel
theorem dX6_gainOfFirst_1 : decode cX6_gainOfFirst 1 = .ok (.iload_n 1, 1) := by decide +kernel
theorem dX6_gainOfFirst_2 : decode cX6_gainOfFirst 2 = .ok (.if_icmp .gt 11, 3) := by decide +kernel
theorem dX6_gainOfFirst_5 : decode cX6_gainOfFirst 5 = .ok (.iload_n 2, 1) := by decide +kernel
theorem dX6_gainOfFirst_6 : decode cX6_gainOfFirst 6 = .ok (.iload_n 0, 1) := by decide +kernel
theorem dX6_gainOfFirst_7 : decode cX6_gainOfFirst 7 = .ok (.iconst 2, 1) := by decide +kernel
theorem dX6_gainOfFirst_8 : decode cX6_gainOfFirst 8 = .ok (.idiv, 1) := by decide +kernel
theorem dX6_gainOfFirst_9 : decode cX6_gainOfFirst 9 = .ok (.iadd, 1) := by decide +kernel
theorem dX6_gainOfFirst_10 : decode cX6_gainOfFirst 10 = .ok (.goto 4, 3) := by decide +kernel
theorem dX6_gainOfFirst_13 : decode cX6_gainOfFirst 13 = .ok (.iconst 0, 1) := by decide +kernel
theorem dX6_gainOfFirst_14 : decode cX6_gainOfFirst 14 = .ok (.ireturn, 1) := by decide +kernel
theorem dX6_gainOfSecond_0 : decode cX6_gainOfSecond 0 = .ok (.iload_n 1, 1) := by decide +kernel
theorem dX6_gainOfSecond_1 : decode cX6_gainOfSecond 1 = .ok (.iload_n 0, 1) := by decide +kernel
theorem dX6_gainOfSecond_2 : decode cX6_gainOfSecond 2 = .ok (.if_icmp .ge 11, 3) := by decide +kernel
theorem dX6_gainOfSecond_5 : decode cX6_gainOfSecond 5 = .ok (.iload_n 2, 1) := by decide +kernel
theorem dX6_gainOfSecond_6 : decode cX6_gainOfSecond 6 = .ok (.iload_n 1, 1) := by decide +kernel
theorem dX6_gainOfSecond_7 : decode cX6_gainOfSecond 7 = .ok (.iconst 2, 1) := by decide +kernel
theorem dX6_gainOfSecond_8 : decode cX6_gainOfSecond 8 = .ok (.idiv, 1) := by decide +kernel
theorem dX6_gainOfSecond_9 : decode cX6_gainOfSecond 9 = .ok (.iadd, 1) := by decide +kernel
theorem dX6_gainOfSecond_10 : decode cX6_gainOfSecond 10 = .ok (.goto 4, 3) := by decide +kernel
theorem dX6_gainOfSecond_13 : decode cX6_gainOfSecond 13 = .ok (.iconst 0, 1) := by decide +kernel
theorem dX6_gainOfSecond_14 : decode cX6_gainOfSecond 14 = .ok (.ireturn, 1) := by decide +kernel
theorem dX6_weighed_0 : decode cX6_weighed 0 = .ok (.iload_n 1, 1) := by decide +kernel
theorem dX6_weighed_1 : decode cX6_weighed 1 = .ok (.iconst 2, 1) := by decide +kernel
theorem dX6_weighed_2 : decode cX6_weighed 2 = .ok (.iadd, 1) := by decide +kernel
theorem dX6_weighed_3 : decode cX6_weighed 3 = .ok (.istore_n 3, 1) := by decide +kernel
theorem dX6_weighed_4 : decode cX6_weighed 4 = .ok (.iload_n 1, 1) := by decide +kernel
theorem dX6_weighed_5 : decode cX6_weighed 5 = .ok (.iconst 1, 1) := by decide +kernel
theorem dX6_weighed_6 : decode cX6_weighed 6 = .ok (.iadd, 1) := by decide +kernel
theorem dX6_weighed_7 : decode cX6_weighed 7 = .ok (.iconst 2, 1) := by decide +kernel
theorem dX6_weighed_8 : decode cX6_weighed 8 = .ok (.idiv, 1) := by decide +kernel
theorem dX6_weighed_9 : decode cX6_weighed 9 = .ok (.istore 4, 2) := by decide +kernel
theorem dX6_weighed_11 : decode cX6_weighed 11 = .ok (.iload_n 0, 1) := by decide +kernel
theorem dX6_weighed_12 : decode cX6_weighed 12 = .ok (.tableswitch 81 1 5 #[36, 38, 41, 54, 66], 36) := by decide +kernel
theorem dX6_weighed_48 : decode cX6_weighed 48 = .ok (.iload_n 3, 1) := by decide +kernel
theorem dX6_weighed_49 : decode cX6_weighed 49 = .ok (.ireturn, 1) := by decide +kernel
theorem dX6_weighed_50 : decode cX6_weighed 50 = .ok (.iload 4, 2) := by decide +kernel
theorem dX6_weighed_52 : decode cX6_weighed 52 = .ok (.ireturn, 1) := by decide +kernel
theorem dX6_weighed_53 : decode cX6_weighed 53 = .ok (.iload_n 2, 1) := by decide +kernel
theorem dX6_weighed_54 : decode cX6_weighed 54 = .ok (.iconst 3, 1) := by decide +kernel
theorem dX6_weighed_55 : decode cX6_weighed 55 = .ok (.if_icmp .lt 9, 3) := by decide +kernel
theorem dX6_weighed_58 : decode cX6_weighed 58 = .ok (.iconst 2, 1) := by decide +kernel
theorem dX6_weighed_59 : decode cX6_weighed 59 = .ok (.iload_n 3, 1) := by decide +kernel
theorem dX6_weighed_60 : decode cX6_weighed 60 = .ok (.imul, 1) := by decide +kernel
theorem dX6_weighed_61 : decode cX6_weighed 61 = .ok (.goto 4, 3) := by decide +kernel
theorem dX6_weighed_64 : decode cX6_weighed 64 = .ok (.iload_n 3, 1) := by decide +kernel
theorem dX6_weighed_65 : decode cX6_weighed 65 = .ok (.ireturn, 1) := by decide +kernel
theorem dX6_weighed_66 : decode cX6_weighed 66 = .ok (.iload_n 2, 1) := by decide +kernel
theorem dX6_weighed_67 : decode cX6_weighed 67 = .ok (.iconst 5, 1) := by decide +kernel
theorem dX6_weighed_68 : decode cX6_weighed 68 = .ok (.if_icmp .lt 7, 3) := by decide +kernel
theorem dX6_weighed_71 : decode cX6_weighed 71 = .ok (.iconst 0, 1) := by decide +kernel
theorem dX6_weighed_72 : decode cX6_weighed 72 = .ok (.goto 5, 3) := by decide +kernel
theorem dX6_weighed_75 : decode cX6_weighed 75 = .ok (.iload 4, 2) := by decide +kernel
theorem dX6_weighed_77 : decode cX6_weighed 77 = .ok (.ireturn, 1) := by decide +kernel
theorem dX6_weighed_78 : decode cX6_weighed 78 = .ok (.iload_n 2, 1) := by decide +kernel
theorem dX6_weighed_79 : decode cX6_weighed 79 = .ok (.iconst 3, 1) := by decide +kernel
theorem dX6_weighed_80 : decode cX6_weighed 80 = .ok (.if_icmp .lt 7, 3) := by decide +kernel
theorem dX6_weighed_83 : decode cX6_weighed 83 = .ok (.iload_n 1, 1) := by decide +kernel
theorem dX6_weighed_84 : decode cX6_weighed 84 = .ok (.goto 8, 3) := by decide +kernel
theorem dX6_weighed_87 : decode cX6_weighed 87 = .ok (.iload_n 1, 1) := by decide +kernel
theorem dX6_weighed_88 : decode cX6_weighed 88 = .ok (.iconst 3, 1) := by decide +kernel
theorem dX6_weighed_89 : decode cX6_weighed 89 = .ok (.iadd, 1) := by decide +kernel
theorem dX6_weighed_90 : decode cX6_weighed 90 = .ok (.iload_n 2, 1) := by decide +kernel
theorem dX6_weighed_91 : decode cX6_weighed 91 = .ok (.isub, 1) := by decide +kernel
theorem dX6_weighed_92 : decode cX6_weighed 92 = .ok (.ireturn, 1) := by decide +kernel
theorem dX6_weighed_93 : decode cX6_weighed 93 = .ok (.iload_n 1, 1) := by decide +kernel
theorem dX6_weighed_94 : decode cX6_weighed 94 = .ok (.ireturn, 1) := by decide +kernel
theorem dX6_heaviness_0 : decode cX6_heaviness 0 = .ok (.iload_n 1, 1) := by decide +kernel
theorem dX6_heaviness_1 : decode cX6_heaviness 1 = .ok (.iload_n 1, 1) := by decide +kernel
theorem dX6_heaviness_2 : decode cX6_heaviness 2 = .ok (.iconst 2, 1) := by decide +kernel
theorem dX6_heaviness_3 : decode cX6_heaviness 3 = .ok (.irem, 1) := by decide +kernel
theorem dX6_heaviness_4 : decode cX6_heaviness 4 = .ok (.isub, 1) := by decide +kernel
theorem dX6_heaviness_5 : decode cX6_heaviness 5 = .ok (.istore_n 2, 1) := by decide +kernel
theorem dX6_heaviness_6 : decode cX6_heaviness 6 = .ok (.iload_n 1, 1) := by decide +kernel
theorem dX6_heaviness_7 : decode cX6_heaviness 7 = .ok (.iconst 5, 1) := by decide +kernel
theorem dX6_heaviness_8 : decode cX6_heaviness 8 = .ok (.if_icmp .le 7, 3) := by decide +kernel
theorem dX6_heaviness_11 : decode cX6_heaviness 11 = .ok (.iconst 5, 1) := by decide +kernel
theorem dX6_heaviness_12 : decode cX6_heaviness 12 = .ok (.goto 4, 3) := by decide +kernel
theorem dX6_heaviness_15 : decode cX6_heaviness 15 = .ok (.iload_n 1, 1) := by decide +kernel
theorem dX6_heaviness_16 : decode cX6_heaviness 16 = .ok (.istore_n 3, 1) := by decide +kernel
theorem dX6_heaviness_17 : decode cX6_heaviness 17 = .ok (.iload_n 0, 1) := by decide +kernel
theorem dX6_heaviness_18 : decode cX6_heaviness 18 = .ok (.tableswitch 58 1 5 #[34, 36, 38, 42, 46], 34) := by decide +kernel
theorem dX6_heaviness_52 : decode cX6_heaviness 52 = .ok (.iload_n 2, 1) := by decide +kernel
theorem dX6_heaviness_53 : decode cX6_heaviness 53 = .ok (.ireturn, 1) := by decide +kernel
theorem dX6_heaviness_54 : decode cX6_heaviness 54 = .ok (.iload_n 3, 1) := by decide +kernel
theorem dX6_heaviness_55 : decode cX6_heaviness 55 = .ok (.ireturn, 1) := by decide +kernel
theorem dX6_heaviness_56 : decode cX6_heaviness 56 = .ok (.iload_n 2, 1) := by decide +kernel
theorem dX6_heaviness_57 : decode cX6_heaviness 57 = .ok (.iconst 1, 1) := by decide +kernel
theorem dX6_heaviness_58 : decode cX6_heaviness 58 = .ok (.iadd, 1) := by decide +kernel
theorem dX6_heaviness_59 : decode cX6_heaviness 59 = .ok (.ireturn, 1) := by decide +kernel
theorem dX6_heaviness_60 : decode cX6_heaviness 60 = .ok (.iconst 2, 1) := by decide +kernel
theorem dX6_heaviness_61 : decode cX6_heaviness 61 = .ok (.iload_n 1, 1) := by decide +kernel
theorem dX6_heaviness_62 : decode cX6_heaviness 62 = .ok (.imul, 1) := by decide +kernel
theorem dX6_heaviness_63 : decode cX6_heaviness 63 = .ok (.ireturn, 1) := by decide +kernel
theorem dX6_heaviness_64 : decode cX6_heaviness 64 = .ok (.iload_n 3, 1) := by decide +kernel
theorem dX6_heaviness_65 : decode cX6_heaviness 65 = .ok (.ifCond .le 9, 3) := by decide +kernel
theorem dX6_heaviness_68 : decode cX6_heaviness 68 = .ok (.iload_n 3, 1) := by decide +kernel
theorem dX6_heaviness_69 : decode cX6_heaviness 69 = .ok (.iconst 1, 1) := by decide +kernel
theorem dX6_heaviness_70 : decode cX6_heaviness 70 = .ok (.isub, 1) := by decide +kernel
theorem dX6_heaviness_71 : decode cX6_heaviness 71 = .ok (.goto 4, 3) := by decide +kernel
theorem dX6_heaviness_74 : decode cX6_heaviness 74 = .ok (.iconst 0, 1) := by decide +kernel
theorem dX6_heaviness_75 : decode cX6_heaviness 75 = .ok (.ireturn, 1) := by decide +kernel
theorem dX6_heaviness_76 : decode cX6_heaviness 76 = .ok (.iload_n 1, 1) := by decide +kernel
theorem dX6_heaviness_77 : decode cX6_heaviness 77 = .ok (.ireturn, 1) := by decide +kernel
