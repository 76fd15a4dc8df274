theorem dX7_lays_0 : decode cX7_lays 0 = .ok (.aload_n 1, 1) := by decide +kernel
theorem dX7_lays_1 : decode cX7_lays 1 = .ok (.iload_n 2, 1) := by decide +kernel
theorem dX7_lays_2 : decode cX7_lays 2 = .ok (.aload_n 0, 1) := by decide +kernel
theorem dX7_lays_3 : decode cX7_lays 3 = .ok (.getfield 88, 3) := by decide +kernel
theorem dX7_lays_6 : decode cX7_lays 6 = .ok (.iastore, 1) := by decide +kernel
theorem dX7_lays_7 : decode cX7_lays 7 = .ok (.aload_n 1, 1) := by decide +kernel
theorem dX7_lays_8 : decode cX7_lays 8 = .ok (.iload_n 2, 1) := by decide +kernel
theorem dX7_lays_9 : decode cX7_lays 9 = .ok (.iconst 1, 1) := by decide +kernel
theorem dX7_lays_10 : decode cX7_lays 10 = .ok (.iadd, 1) := by decide +kernel
theorem dX7_lays_11 : decode cX7_lays 11 = .ok (.aload_n 0, 1) := by decide +kernel
theorem dX7_lays_12 : decode cX7_lays 12 = .ok (.getfield 91, 3) := by decide +kernel
theorem dX7_lays_15 : decode cX7_lays 15 = .ok (.iastore, 1) := by decide +kernel
theorem dX7_lays_16 : decode cX7_lays 16 = .ok (.iconst 0, 1) := by decide +kernel
theorem dX7_lays_17 : decode cX7_lays 17 = .ok (.istore_n 3, 1) := by decide +kernel
theorem dX7_lays_18 : decode cX7_lays 18 = .ok (.iload_n 3, 1) := by decide +kernel
theorem dX7_lays_19 : decode cX7_lays 19 = .ok (.bipush 6, 2) := by decide +kernel
theorem dX7_lays_21 : decode cX7_lays 21 = .ok (.if_icmp .ge 50, 3) := by decide +kernel
theorem dX7_lays_24 : decode cX7_lays 24 = .ok (.aload_n 1, 1) := by decide +kernel
theorem dX7_lays_25 : decode cX7_lays 25 = .ok (.iload_n 2, 1) := by decide +kernel
theorem dX7_lays_26 : decode cX7_lays 26 = .ok (.iconst 2, 1) := by decide +kernel
theorem dX7_lays_27 : decode cX7_lays 27 = .ok (.iadd, 1) := by decide +kernel
theorem dX7_lays_28 : decode cX7_lays 28 = .ok (.iload_n 3, 1) := by decide +kernel
theorem dX7_lays_29 : decode cX7_lays 29 = .ok (.iadd, 1) := by decide +kernel
theorem dX7_lays_30 : decode cX7_lays 30 = .ok (.aload_n 0, 1) := by decide +kernel
theorem dX7_lays_31 : decode cX7_lays 31 = .ok (.getfield 22, 3) := by decide +kernel
theorem dX7_lays_34 : decode cX7_lays 34 = .ok (.iload_n 3, 1) := by decide +kernel
theorem dX7_lays_35 : decode cX7_lays 35 = .ok (.iaload, 1) := by decide +kernel
theorem dX7_lays_36 : decode cX7_lays 36 = .ok (.iastore, 1) := by decide +kernel
theorem dX7_lays_37 : decode cX7_lays 37 = .ok (.aload_n 1, 1) := by decide +kernel
theorem dX7_lays_38 : decode cX7_lays 38 = .ok (.iload_n 2, 1) := by decide +kernel
theorem dX7_lays_39 : decode cX7_lays 39 = .ok (.bipush 8, 2) := by decide +kernel
theorem dX7_lays_41 : decode cX7_lays 41 = .ok (.iadd, 1) := by decide +kernel
theorem dX7_lays_42 : decode cX7_lays 42 = .ok (.iload_n 3, 1) := by decide +kernel
theorem dX7_lays_43 : decode cX7_lays 43 = .ok (.iadd, 1) := by decide +kernel
theorem dX7_lays_44 : decode cX7_lays 44 = .ok (.aload_n 0, 1) := by decide +kernel
theorem dX7_lays_45 : decode cX7_lays 45 = .ok (.getfield 25, 3) := by decide +kernel
theorem dX7_lays_48 : decode cX7_lays 48 = .ok (.iload_n 3, 1) := by decide +kernel
theorem dX7_lays_49 : decode cX7_lays 49 = .ok (.iaload, 1) := by decide +kernel
theorem dX7_lays_50 : decode cX7_lays 50 = .ok (.iastore, 1) := by decide +kernel
theorem dX7_lays_51 : decode cX7_lays 51 = .ok (.aload_n 1, 1) := by decide +kernel
theorem dX7_lays_52 : decode cX7_lays 52 = .ok (.iload_n 2, 1) := by decide +kernel
theorem dX7_lays_53 : decode cX7_lays 53 = .ok (.bipush 14, 2) := by decide +kernel
theorem dX7_lays_55 : decode cX7_lays 55 = .ok (.iadd, 1) := by decide +kernel
theorem dX7_lays_56 : decode cX7_lays 56 = .ok (.iload_n 3, 1) := by decide +kernel
theorem dX7_lays_57 : decode cX7_lays 57 = .ok (.iadd, 1) := by decide +kernel
theorem dX7_lays_58 : decode cX7_lays 58 = .ok (.aload_n 0, 1) := by decide +kernel
theorem dX7_lays_59 : decode cX7_lays 59 = .ok (.getfield 28, 3) := by decide +kernel
theorem dX7_lays_62 : decode cX7_lays 62 = .ok (.iload_n 3, 1) := by decide +kernel
theorem dX7_lays_63 : decode cX7_lays 63 = .ok (.iaload, 1) := by decide +kernel
theorem dX7_lays_64 : decode cX7_lays 64 = .ok (.iastore, 1) := by decide +kernel
theorem dX7_lays_65 : decode cX7_lays 65 = .ok (.iinc 3 1, 3) := by decide +kernel
theorem dX7_lays_68 : decode cX7_lays 68 = .ok (.goto (-50), 3) := by decide +kernel
theorem dX7_lays_71 : decode cX7_lays 71 = .ok (.return_, 1) := by decide +kernel
theorem dX7_takes_0 : decode cX7_takes 0 = .ok (.aload_n 0, 1) := by decide +kernel
theorem dX7_takes_1 : decode cX7_takes 1 = .ok (.aload_n 1, 1) := by decide +kernel
theorem dX7_takes_2 : decode cX7_takes 2 = .ok (.iload_n 2, 1) := by decide +kernel
theorem dX7_takes_3 : decode cX7_takes 3 = .ok (.iaload, 1) := by decide +kernel
theorem dX7_takes_4 : decode cX7_takes 4 = .ok (.putfield 88, 3) := by decide +kernel
theorem dX7_takes_7 : decode cX7_takes 7 = .ok (.aload_n 0, 1) := by decide +kernel
theorem dX7_takes_8 : decode cX7_takes 8 = .ok (.aload_n 1, 1) := by decide +kernel
theorem dX7_takes_9 : decode cX7_takes 9 = .ok (.iload_n 2, 1) := by decide +kernel
theorem dX7_takes_10 : decode cX7_takes 10 = .ok (.iconst 1, 1) := by decide +kernel
theorem dX7_takes_11 : decode cX7_takes 11 = .ok (.iadd, 1) := by decide +kernel
theorem dX7_takes_12 : decode cX7_takes 12 = .ok (.iaload, 1) := by decide +kernel
theorem dX7_takes_13 : decode cX7_takes 13 = .ok (.putfield 91, 3) := by decide +kernel
theorem dX7_takes_16 : decode cX7_takes 16 = .ok (.iconst 0, 1) := by decide +kernel
theorem dX7_takes_17 : decode cX7_takes 17 = .ok (.istore_n 3, 1) := by decide +kernel
theorem dX7_takes_18 : decode cX7_takes 18 = .ok (.iload_n 3, 1) := by decide +kernel
theorem dX7_takes_19 : decode cX7_takes 19 = .ok (.bipush 6, 2) := by decide +kernel
theorem dX7_takes_21 : decode cX7_takes 21 = .ok (.if_icmp .ge 50, 3) := by decide +kernel
theorem dX7_takes_24 : decode cX7_takes 24 = .ok (.aload_n 0, 1) := by decide +kernel
theorem dX7_takes_25 : decode cX7_takes 25 = .ok (.getfield 22, 3) := by decide +kernel
theorem dX7_takes_28 : decode cX7_takes 28 = .ok (.iload_n 3, 1) := by decide +kernel
theorem dX7_takes_29 : decode cX7_takes 29 = .ok (.aload_n 1, 1) := by decide +kernel
theorem dX7_takes_30 : decode cX7_takes 30 = .ok (.iload_n 2, 1) := by decide +kernel
theorem dX7_takes_31 : decode cX7_takes 31 = .ok (.iconst 2, 1) := by decide +kernel
theorem dX7_takes_32 : decode cX7_takes 32 = .ok (.iadd, 1) := by decide +kernel
theorem dX7_takes_33 : decode cX7_takes 33 = .ok (.iload_n 3, 1) := by decide +kernel
theorem dX7_takes_34 : decode cX7_takes 34 = .ok (.iadd, 1) := by decide +kernel
theorem dX7_takes_35 : decode cX7_takes 35 = .ok (.iaload, 1) := by decide +kernel
theorem dX7_takes_36 : decode cX7_takes 36 = .ok (.iastore, 1) := by decide +kernel
theorem dX7_takes_37 : decode cX7_takes 37 = .ok (.aload_n 0, 1) := by decide +kernel
theorem dX7_takes_38 : decode cX7_takes 38 = .ok (.getfield 25, 3) := by decide +kernel
theorem dX7_takes_41 : decode cX7_takes 41 = .ok (.iload_n 3, 1) := by decide +kernel
theorem dX7_takes_42 : decode cX7_takes 42 = .ok (.aload_n 1, 1) := by decide +kernel
theorem dX7_takes_43 : decode cX7_takes 43 = .ok (.iload_n 2, 1) := by decide +kernel
theorem dX7_takes_44 : decode cX7_takes 44 = .ok (.bipush 8, 2) := by decide +kernel
theorem dX7_takes_46 : decode cX7_takes 46 = .ok (.iadd, 1) := by decide +kernel
theorem dX7_takes_47 : decode cX7_takes 47 = .ok (.iload_n 3, 1) := by decide +kernel
theorem dX7_takes_48 : decode cX7_takes 48 = .ok (.iadd, 1) := by decide +kernel
theorem dX7_takes_49 : decode cX7_takes 49 = .ok (.iaload, 1) := by decide +kernel
theorem dX7_takes_50 : decode cX7_takes 50 = .ok (.iastore, 1) := by decide +kernel
theorem dX7_takes_51 : decode cX7_takes 51 = .ok (.aload_n 0, 1) := by decide +kernel
theorem dX7_takes_52 : decode cX7_takes 52 = .ok (.getfield 28, 3) := by decide +kernel
theorem dX7_takes_55 : decode cX7_takes 55 = .ok (.iload_n 3, 1) := by decide +kernel
theorem dX7_takes_56 : decode cX7_takes 56 = .ok (.aload_n 1, 1) := by decide +kernel
theorem dX7_takes_57 : decode cX7_takes 57 = .ok (.iload_n 2, 1) := by decide +kernel
theorem dX7_takes_58 : decode cX7_takes 58 = .ok (.bipush 14, 2) := by decide +kernel
theorem dX7_takes_60 : decode cX7_takes 60 = .ok (.iadd, 1) := by decide +kernel
theorem dX7_takes_61 : decode cX7_takes 61 = .ok (.iload_n 3, 1) := by decide +kernel
theorem dX7_takes_62 : decode cX7_takes 62 = .ok (.iadd, 1) := by decide +kernel
theorem dX7_takes_63 : decode cX7_takes 63 = .ok (.iaload, 1) := by decide +kernel
theorem dX7_takes_64 : decode cX7_takes 64 = .ok (.iastore, 1) := by decide +kernel
theorem dX7_takes_65 : decode cX7_takes 65 = .ok (.iinc 3 1, 3) := by decide +kernel
theorem dX7_takes_68 : decode cX7_takes 68 = .ok (.goto (-50), 3) := by decide +kernel
theorem dX7_takes_71 : decode cX7_takes 71 = .ok (.return_, 1) := by decide +kernel
theorem dX7_notes_0 : decode cX7_notes 0 = .ok (.aload_n 0, 1) := by decide +kernel
theorem dX7_notes_1 : decode cX7_notes 1 = .ok (.getfield 103, 3) := by decide +kernel
theorem dX7_notes_4 : decode cX7_notes 4 = .ok (.bipush 8, 2) := by decide +kernel
theorem dX7_notes_6 : decode cX7_notes 6 = .ok (.if_icmp .ne 43, 3) := by decide +kernel
theorem dX7_notes_9 : decode cX7_notes 9 = .ok (.iconst 0, 1) := by decide +kernel
theorem dX7_notes_10 : decode cX7_notes 10 = .ok (.istore_n 1, 1) := by decide +kernel
theorem dX7_notes_11 : decode cX7_notes 11 = .ok (.iload_n 1, 1) := by decide +kernel
theorem dX7_notes_12 : decode cX7_notes 12 = .ok (.sipush 140, 3) := by decide +kernel
theorem dX7_notes_15 : decode cX7_notes 15 = .ok (.if_icmp .ge 24, 3) := by decide +kernel
theorem dX7_notes_18 : decode cX7_notes 18 = .ok (.aload_n 0, 1) := by decide +kernel
theorem dX7_notes_19 : decode cX7_notes 19 = .ok (.getfield 49, 3) := by decide +kernel
theorem dX7_notes_22 : decode cX7_notes 22 = .ok (.iload_n 1, 1) := by decide +kernel
theorem dX7_notes_23 : decode cX7_notes 23 = .ok (.aload_n 0, 1) := by decide +kernel
theorem dX7_notes_24 : decode cX7_notes 24 = .ok (.getfield 49, 3) := by decide +kernel
theorem dX7_notes_27 : decode cX7_notes 27 = .ok (.iload_n 1, 1) := by decide +kernel
theorem dX7_notes_28 : decode cX7_notes 28 = .ok (.bipush 20, 2) := by decide +kernel
theorem dX7_notes_30 : decode cX7_notes 30 = .ok (.iadd, 1) := by decide +kernel
theorem dX7_notes_31 : decode cX7_notes 31 = .ok (.iaload, 1) := by decide +kernel
theorem dX7_notes_32 : decode cX7_notes 32 = .ok (.iastore, 1) := by decide +kernel
theorem dX7_notes_33 : decode cX7_notes 33 = .ok (.iinc 1 1, 3) := by decide +kernel
theorem dX7_notes_36 : decode cX7_notes 36 = .ok (.goto (-25), 3) := by decide +kernel
theorem dX7_notes_39 : decode cX7_notes 39 = .ok (.aload_n 0, 1) := by decide +kernel
theorem dX7_notes_40 : decode cX7_notes 40 = .ok (.dup, 1) := by decide +kernel
theorem dX7_notes_41 : decode cX7_notes 41 = .ok (.getfield 103, 3) := by decide +kernel
theorem dX7_notes_44 : decode cX7_notes 44 = .ok (.iconst 1, 1) := by decide +kernel
theorem dX7_notes_45 : decode cX7_notes 45 = .ok (.isub, 1) := by decide +kernel
theorem dX7_notes_46 : decode cX7_notes 46 = .ok (.putfield 103, 3) := by decide +kernel
theorem dX7_notes_49 : decode cX7_notes 49 = .ok (.aload_n 0, 1) := by decide +kernel
theorem dX7_notes_50 : decode cX7_notes 50 = .ok (.aload_n 0, 1) := by decide +kernel
theorem dX7_notes_51 : decode cX7_notes 51 = .ok (.getfield 49, 3) := by decide +kernel
theorem dX7_notes_54 : decode cX7_notes 54 = .ok (.bipush 20, 2) := by decide +kernel
theorem dX7_notes_56 : decode cX7_notes 56 = .ok (.aload_n 0, 1) := by decide +kernel
theorem dX7_notes_57 : decode cX7_notes 57 = .ok (.getfield 103, 3) := by decide +kernel
theorem dX7_notes_60 : decode cX7_notes 60 = .ok (.imul, 1) := by decide +kernel
theorem dX7_notes_61 : decode cX7_notes 61 = .ok (.invokevirtual 264, 3) := by decide +kernel
theorem dX7_notes_64 : decode cX7_notes 64 = .ok (.aload_n 0, 1) := by decide +kernel
theorem dX7_notes_65 : decode cX7_notes 65 = .ok (.dup, 1) := by decide +kernel
theorem dX7_notes_66 : decode cX7_notes 66 = .ok (.getfield 103, 3) := by decide +kernel
theorem dX7_notes_69 : decode cX7_notes 69 = .ok (.iconst 1, 1) := by decide +kernel
theorem dX7_notes_70 : decode cX7_notes 70 = .ok (.iadd, 1) := by decide +kernel
theorem dX7_notes_71 : decode cX7_notes 71 = .ok (.putfield 103, 3) := by decide +kernel
theorem dX7_notes_74 : decode cX7_notes 74 = .ok (.return_, 1) := by decide +kernel
theorem dX7_tides_0 : decode cX7_tides 0 = .ok (.iload_n 1, 1) := by decide +kernel
theorem dX7_tides_1 : decode cX7_tides 1 = .ok (.iconst 1, 1) := by decide +kernel
theorem dX7_tides_2 : decode cX7_tides 2 = .ok (.bipush 60, 2) := by decide +kernel
theorem dX7_tides_4 : decode cX7_tides 4 = .ok (.invokestatic 106, 3) := by decide +kernel
theorem dX7_tides_7 : decode cX7_tides 7 = .ok (.ifCond .ne 8, 3) := by decide +kernel
theorem dX7_tides_10 : decode cX7_tides 10 = .ok (.aload_n 0, 1) := by decide +kernel
theorem dX7_tides_11 : decode cX7_tides 11 = .ok (.invokevirtual 110, 3) := by decide +kernel
theorem dX7_tides_14 : decode cX7_tides 14 = .ok (.ireturn, 1) := by decide +kernel
theorem dX7_tides_15 : decode cX7_tides 15 = .ok (.aload_n 0, 1) := by decide +kernel
theorem dX7_tides_16 : decode cX7_tides 16 = .ok (.invokevirtual 267, 3) := by decide +kernel
theorem dX7_tides_19 : decode cX7_tides 19 = .ok (.iconst 0, 1) := by decide +kernel
theorem dX7_tides_20 : decode cX7_tides 20 = .ok (.istore_n 2, 1) := by decide +kernel
theorem dX7_tides_21 : decode cX7_tides 21 = .ok (.iload_n 2, 1) := by decide +kernel
theorem dX7_tides_22 : decode cX7_tides 22 = .ok (.iload_n 1, 1) := by decide +kernel
theorem dX7_tides_23 : decode cX7_tides 23 = .ok (.if_icmp .ge 23, 3) := by decide +kernel
theorem dX7_tides_26 : decode cX7_tides 26 = .ok (.aload_n 0, 1) := by decide +kernel
theorem dX7_tides_27 : decode cX7_tides 27 = .ok (.getfield 88, 3) := by decide +kernel
theorem dX7_tides_30 : decode cX7_tides 30 = .ok (.sipush 999, 3) := by decide +kernel
theorem dX7_tides_33 : decode cX7_tides 33 = .ok (.if_icmp .ge 13, 3) := by decide +kernel
theorem dX7_tides_36 : decode cX7_tides 36 = .ok (.aload_n 0, 1) := by decide +kernel
theorem dX7_tides_37 : decode cX7_tides 37 = .ok (.invokevirtual 177, 3) := by decide +kernel
theorem dX7_tides_40 : decode cX7_tides 40 = .ok (.iinc 2 1, 3) := by decide +kernel
theorem dX7_tides_43 : decode cX7_tides 43 = .ok (.goto (-22), 3) := by decide +kernel
theorem dX7_tides_46 : decode cX7_tides 46 = .ok (.aload_n 0, 1) := by decide +kernel
theorem dX7_tides_47 : decode cX7_tides 47 = .ok (.invokevirtual 270, 3) := by decide +kernel
theorem dX7_tides_50 : decode cX7_tides 50 = .ok (.ireturn, 1) := by decide +kernel
theorem dX7_walks_0 : decode cX7_walks 0 = .ok (.iload_n 1, 1) := by decide +kernel
theorem dX7_walks_1 : decode cX7_walks 1 = .ok (.iconst (-1), 1) := by decide +kernel
theorem dX7_walks_2 : decode cX7_walks 2 = .ok (.iconst 1, 1) := by decide +kernel
theorem dX7_walks_3 : decode cX7_walks 3 = .ok (.invokestatic 106, 3) := by decide +kernel
theorem dX7_walks_6 : decode cX7_walks 6 = .ok (.ifCond .ne 8, 3) := by decide +kernel
theorem dX7_walks_9 : decode cX7_walks 9 = .ok (.aload_n 0, 1) := by decide +kernel
theorem dX7_walks_10 : decode cX7_walks 10 = .ok (.invokevirtual 110, 3) := by decide +kernel
theorem dX7_walks_13 : decode cX7_walks 13 = .ok (.ireturn, 1) := by decide +kernel
theorem dX7_walks_14 : decode cX7_walks 14 = .ok (.aload_n 0, 1) := by decide +kernel
theorem dX7_walks_15 : decode cX7_walks 15 = .ok (.getfield 88, 3) := by decide +kernel
theorem dX7_walks_18 : decode cX7_walks 18 = .ok (.sipush 999, 3) := by decide +kernel
theorem dX7_walks_21 : decode cX7_walks 21 = .ok (.if_icmp .ne 8, 3) := by decide +kernel
theorem dX7_walks_24 : decode cX7_walks 24 = .ok (.aload_n 0, 1) := by decide +kernel
theorem dX7_walks_25 : decode cX7_walks 25 = .ok (.invokevirtual 273, 3) := by decide +kernel
theorem dX7_walks_28 : decode cX7_walks 28 = .ok (.ireturn, 1) := by decide +kernel
theorem dX7_walks_29 : decode cX7_walks 29 = .ok (.aload_n 0, 1) := by decide +kernel
theorem dX7_walks_30 : decode cX7_walks 30 = .ok (.invokevirtual 267, 3) := by decide +kernel
theorem dX7_walks_33 : decode cX7_walks 33 = .ok (.aload_n 0, 1) := by decide +kernel
theorem dX7_walks_34 : decode cX7_walks 34 = .ok (.iload_n 1, 1) := by decide +kernel
theorem dX7_walks_35 : decode cX7_walks 35 = .ok (.invokevirtual 167, 3) := by decide +kernel
theorem dX7_walks_38 : decode cX7_walks 38 = .ok (.ireturn, 1) := by decide +kernel
theorem dX7_calls_0 : decode cX7_calls 0 = .ok (.aload_n 0, 1) := by decide +kernel
theorem dX7_calls_1 : decode cX7_calls 1 = .ok (.iload_n 1, 1) := by decide +kernel
theorem dX7_calls_2 : decode cX7_calls 2 = .ok (.invokevirtual 276, 3) := by decide +kernel
theorem dX7_calls_5 : decode cX7_calls 5 = .ok (.ifCond .ne 8, 3) := by decide +kernel
theorem dX7_calls_8 : decode cX7_calls 8 = .ok (.aload_n 0, 1) := by decide +kernel
theorem dX7_calls_9 : decode cX7_calls 9 = .ok (.invokevirtual 110, 3) := by decide +kernel
theorem dX7_calls_12 : decode cX7_calls 12 = .ok (.ireturn, 1) := by decide +kernel
theorem dX7_calls_13 : decode cX7_calls 13 = .ok (.aload_n 0, 1) := by decide +kernel
theorem dX7_calls_14 : decode cX7_calls 14 = .ok (.iload_n 1, 1) := by decide +kernel
theorem dX7_calls_15 : decode cX7_calls 15 = .ok (.invokevirtual 170, 3) := by decide +kernel
theorem dX7_calls_18 : decode cX7_calls 18 = .ok (.istore_n 2, 1) := by decide +kernel
theorem dX7_calls_19 : decode cX7_calls 19 = .ok (.iload_n 2, 1) := by decide +kernel
theorem dX7_calls_20 : decode cX7_calls 20 = .ok (.iconst (-1), 1) := by decide +kernel
theorem dX7_calls_21 : decode cX7_calls 21 = .ok (.if_icmp .ne 8, 3) := by decide +kernel
theorem dX7_calls_24 : decode cX7_calls 24 = .ok (.aload_n 0, 1) := by decide +kernel
theorem dX7_calls_25 : decode cX7_calls 25 = .ok (.invokevirtual 273, 3) := by decide +kernel
theorem dX7_calls_28 : decode cX7_calls 28 = .ok (.ireturn, 1) := by decide +kernel
theorem dX7_calls_29 : decode cX7_calls 29 = .ok (.aload_n 0, 1) := by decide +kernel
theorem dX7_calls_30 : decode cX7_calls 30 = .ok (.invokevirtual 267, 3) := by decide +kernel
theorem dX7_calls_33 : decode cX7_calls 33 = .ok (.aload_n 0, 1) := by decide +kernel
theorem dX7_calls_34 : decode cX7_calls 34 = .ok (.iload_n 1, 1) := by decide +kernel
theorem dX7_calls_35 : decode cX7_calls 35 = .ok (.iload_n 2, 1) := by decide +kernel
theorem dX7_calls_36 : decode cX7_calls 36 = .ok (.invokevirtual 173, 3) := by decide +kernel
theorem dX7_calls_39 : decode cX7_calls 39 = .ok (.iload_n 2, 1) := by decide +kernel
theorem dX7_calls_40 : decode cX7_calls 40 = .ok (.ireturn, 1) := by decide +kernel
theorem dX7_returns_0 : decode cX7_returns 0 = .ok (.aload_n 0, 1) := by decide +kernel
theorem dX7_returns_1 : decode cX7_returns 1 = .ok (.iload_n 1, 1) := by decide +kernel
theorem dX7_returns_2 : decode cX7_returns 2 = .ok (.invokevirtual 276, 3) := by decide +kernel
theorem dX7_returns_5 : decode cX7_returns 5 = .ok (.ifCond .ne 8, 3) := by decide +kernel
theorem dX7_returns_8 : decode cX7_returns 8 = .ok (.aload_n 0, 1) := by decide +kernel
theorem dX7_returns_9 : decode cX7_returns 9 = .ok (.invokevirtual 110, 3) := by decide +kernel
theorem dX7_returns_12 : decode cX7_returns 12 = .ok (.ireturn, 1) := by decide +kernel
theorem dX7_returns_13 : decode cX7_returns 13 = .ok (.aload_n 0, 1) := by decide +kernel
theorem dX7_returns_14 : decode cX7_returns 14 = .ok (.iload_n 1, 1) := by decide +kernel
theorem dX7_returns_15 : decode cX7_returns 15 = .ok (.invokevirtual 245, 3) := by decide +kernel
theorem dX7_returns_18 : decode cX7_returns 18 = .ok (.istore_n 2, 1) := by decide +kernel
theorem dX7_returns_19 : decode cX7_returns 19 = .ok (.iload_n 2, 1) := by decide +kernel
theorem dX7_returns_20 : decode cX7_returns 20 = .ok (.iconst (-1), 1) := by decide +kernel
theorem dX7_returns_21 : decode cX7_returns 21 = .ok (.if_icmp .ne 8, 3) := by decide +kernel
theorem dX7_returns_24 : decode cX7_returns 24 = .ok (.aload_n 0, 1) := by decide +kernel
theorem dX7_returns_25 : decode cX7_returns 25 = .ok (.invokevirtual 273, 3) := by decide +kernel
theorem dX7_returns_28 : decode cX7_returns 28 = .ok (.ireturn, 1) := by decide +kernel
theorem dX7_returns_29 : decode cX7_returns 29 = .ok (.aload_n 0, 1) := by decide +kernel
theorem dX7_returns_30 : decode cX7_returns 30 = .ok (.invokevirtual 267, 3) := by decide +kernel
theorem dX7_returns_33 : decode cX7_returns 33 = .ok (.aload_n 0, 1) := by decide +kernel
theorem dX7_returns_34 : decode cX7_returns 34 = .ok (.getfield 22, 3) := by decide +kernel
theorem dX7_returns_37 : decode cX7_returns 37 = .ok (.iload_n 2, 1) := by decide +kernel
theorem dX7_returns_38 : decode cX7_returns 38 = .ok (.iconst (-1), 1) := by decide +kernel
theorem dX7_returns_39 : decode cX7_returns 39 = .ok (.iastore, 1) := by decide +kernel
theorem dX7_returns_40 : decode cX7_returns 40 = .ok (.aload_n 0, 1) := by decide +kernel
theorem dX7_returns_41 : decode cX7_returns 41 = .ok (.getfield 25, 3) := by decide +kernel
theorem dX7_returns_44 : decode cX7_returns 44 = .ok (.iload_n 2, 1) := by decide +kernel
theorem dX7_returns_45 : decode cX7_returns 45 = .ok (.iconst (-1), 1) := by decide +kernel
theorem dX7_returns_46 : decode cX7_returns 46 = .ok (.iastore, 1) := by decide +kernel
theorem dX7_returns_47 : decode cX7_returns 47 = .ok (.iload_n 2, 1) := by decide +kernel
theorem dX7_returns_48 : decode cX7_returns 48 = .ok (.ireturn, 1) := by decide +kernel
theorem dX7_undo_0 : decode cX7_undo 0 = .ok (.aload_n 0, 1) := by decide +kernel
theorem dX7_undo_1 : decode cX7_undo 1 = .ok (.getfield 103, 3) := by decide +kernel
theorem dX7_undo_4 : decode cX7_undo 4 = .ok (.ifCond .ne 8, 3) := by decide +kernel
theorem dX7_undo_7 : decode cX7_undo 7 = .ok (.aload_n 0, 1) := by decide +kernel
theorem dX7_undo_8 : decode cX7_undo 8 = .ok (.invokevirtual 273, 3) := by decide +kernel
theorem dX7_undo_11 : decode cX7_undo 11 = .ok (.ireturn, 1) := by decide +kernel
theorem dX7_undo_12 : decode cX7_undo 12 = .ok (.aload_n 0, 1) := by decide +kernel
theorem dX7_undo_13 : decode cX7_undo 13 = .ok (.dup, 1) := by decide +kernel
theorem dX7_undo_14 : decode cX7_undo 14 = .ok (.getfield 103, 3) := by decide +kernel
theorem dX7_undo_17 : decode cX7_undo 17 = .ok (.iconst 1, 1) := by decide +kernel
theorem dX7_undo_18 : decode cX7_undo 18 = .ok (.isub, 1) := by decide +kernel
theorem dX7_undo_19 : decode cX7_undo 19 = .ok (.putfield 103, 3) := by decide +kernel
theorem dX7_undo_22 : decode cX7_undo 22 = .ok (.aload_n 0, 1) := by decide +kernel
theorem dX7_undo_23 : decode cX7_undo 23 = .ok (.aload_n 0, 1) := by decide +kernel
theorem dX7_undo_24 : decode cX7_undo 24 = .ok (.getfield 49, 3) := by decide +kernel
theorem dX7_undo_27 : decode cX7_undo 27 = .ok (.bipush 20, 2) := by decide +kernel
theorem dX7_undo_29 : decode cX7_undo 29 = .ok (.aload_n 0, 1) := by decide +kernel
theorem dX7_undo_30 : decode cX7_undo 30 = .ok (.getfield 103, 3) := by decide +kernel
theorem dX7_undo_33 : decode cX7_undo 33 = .ok (.imul, 1) := by decide +kernel
theorem dX7_undo_34 : decode cX7_undo 34 = .ok (.invokevirtual 279, 3) := by decide +kernel
theorem dX7_undo_37 : decode cX7_undo 37 = .ok (.aload_n 0, 1) := by decide +kernel
theorem dX7_undo_38 : decode cX7_undo 38 = .ok (.getfield 88, 3) := by decide +kernel
theorem dX7_undo_41 : decode cX7_undo 41 = .ok (.ireturn, 1) := by decide +kernel
theorem dX7_soulTells_0 : decode cX7_soulTells 0 = .ok (.iload_n 2, 1) := by decide +kernel
theorem dX7_soulTells_1 : decode cX7_soulTells 1 = .ok (.tableswitch 83 0 4 #[35, 42, 49, 69, 76], 35) := by decide +kernel
theorem dX7_soulTells_36 : decode cX7_soulTells 36 = .ok (.aload_n 0, 1) := by decide +kernel
theorem dX7_soulTells_37 : decode cX7_soulTells 37 = .ok (.getfield 16, 3) := by decide +kernel
theorem dX7_soulTells_40 : decode cX7_soulTells 40 = .ok (.iload_n 1, 1) := by decide +kernel
theorem dX7_soulTells_41 : decode cX7_soulTells 41 = .ok (.iaload, 1) := by decide +kernel
theorem dX7_soulTells_42 : decode cX7_soulTells 42 = .ok (.ireturn, 1) := by decide +kernel
theorem dX7_soulTells_43 : decode cX7_soulTells 43 = .ok (.aload_n 0, 1) := by decide +kernel
theorem dX7_soulTells_44 : decode cX7_soulTells 44 = .ok (.getfield 19, 3) := by decide +kernel
theorem dX7_soulTells_47 : decode cX7_soulTells 47 = .ok (.iload_n 1, 1) := by decide +kernel
theorem dX7_soulTells_48 : decode cX7_soulTells 48 = .ok (.iaload, 1) := by decide +kernel
theorem dX7_soulTells_49 : decode cX7_soulTells 49 = .ok (.ireturn, 1) := by decide +kernel
theorem dX7_soulTells_50 : decode cX7_soulTells 50 = .ok (.aload_n 0, 1) := by decide +kernel
theorem dX7_soulTells_51 : decode cX7_soulTells 51 = .ok (.getfield 22, 3) := by decide +kernel
theorem dX7_soulTells_54 : decode cX7_soulTells 54 = .ok (.iload_n 1, 1) := by decide +kernel
theorem dX7_soulTells_55 : decode cX7_soulTells 55 = .ok (.iaload, 1) := by decide +kernel
theorem dX7_soulTells_56 : decode cX7_soulTells 56 = .ok (.ifCond .lt 12, 3) := by decide +kernel
theorem dX7_soulTells_59 : decode cX7_soulTells 59 = .ok (.aload_n 0, 1) := by decide +kernel
theorem dX7_soulTells_60 : decode cX7_soulTells 60 = .ok (.getfield 22, 3) := by decide +kernel
theorem dX7_soulTells_63 : decode cX7_soulTells 63 = .ok (.iload_n 1, 1) := by decide +kernel
theorem dX7_soulTells_64 : decode cX7_soulTells 64 = .ok (.iaload, 1) := by decide +kernel
theorem dX7_soulTells_65 : decode cX7_soulTells 65 = .ok (.goto 4, 3) := by decide +kernel
theorem dX7_soulTells_68 : decode cX7_soulTells 68 = .ok (.iconst (-1), 1) := by decide +kernel
theorem dX7_soulTells_69 : decode cX7_soulTells 69 = .ok (.ireturn, 1) := by decide +kernel
theorem dX7_soulTells_70 : decode cX7_soulTells 70 = .ok (.aload_n 0, 1) := by decide +kernel
theorem dX7_soulTells_71 : decode cX7_soulTells 71 = .ok (.getfield 25, 3) := by decide +kernel
theorem dX7_soulTells_74 : decode cX7_soulTells 74 = .ok (.iload_n 1, 1) := by decide +kernel
theorem dX7_soulTells_75 : decode cX7_soulTells 75 = .ok (.iaload, 1) := by decide +kernel
theorem dX7_soulTells_76 : decode cX7_soulTells 76 = .ok (.ireturn, 1) := by decide +kernel
theorem dX7_soulTells_77 : decode cX7_soulTells 77 = .ok (.aload_n 0, 1) := by decide +kernel
theorem dX7_soulTells_78 : decode cX7_soulTells 78 = .ok (.getfield 28, 3) := by decide +kernel
theorem dX7_soulTells_81 : decode cX7_soulTells 81 = .ok (.iload_n 1, 1) := by decide +kernel
theorem dX7_soulTells_82 : decode cX7_soulTells 82 = .ok (.iaload, 1) := by decide +kernel
theorem dX7_soulTells_83 : decode cX7_soulTells 83 = .ok (.ireturn, 1) := by decide +kernel
theorem dX7_soulTells_84 : decode cX7_soulTells 84 = .ok (.aload_n 0, 1) := by decide +kernel
theorem dX7_soulTells_85 : decode cX7_soulTells 85 = .ok (.iload_n 1, 1) := by decide +kernel
theorem dX7_soulTells_86 : decode cX7_soulTells 86 = .ok (.invokevirtual 224, 3) := by decide +kernel
theorem dX7_soulTells_89 : decode cX7_soulTells 89 = .ok (.ireturn, 1) := by decide +kernel
theorem dX7_of_0 : decode cX7_of 0 = .ok (.aload_n 0, 1) := by decide +kernel
theorem dX7_of_1 : decode cX7_of 1 = .ok (.iload_n 1, 1) := by decide +kernel
theorem dX7_of_2 : decode cX7_of 2 = .ok (.invokevirtual 230, 3) := by decide +kernel
theorem dX7_of_5 : decode cX7_of 5 = .ok (.ifCond .eq 21, 3) := by decide +kernel
theorem dX7_of_8 : decode cX7_of 8 = .ok (.iload_n 2, 1) := by decide +kernel
theorem dX7_of_9 : decode cX7_of 9 = .ok (.iconst 0, 1) := by decide +kernel
theorem dX7_of_10 : decode cX7_of 10 = .ok (.iconst 5, 1) := by decide +kernel
theorem dX7_of_11 : decode cX7_of 11 = .ok (.invokestatic 106, 3) := by decide +kernel
theorem dX7_of_14 : decode cX7_of 14 = .ok (.ifCond .eq 12, 3) := by decide +kernel
theorem dX7_of_17 : decode cX7_of 17 = .ok (.aload_n 0, 1) := by decide +kernel
theorem dX7_of_18 : decode cX7_of 18 = .ok (.iload_n 1, 1) := by decide +kernel
theorem dX7_of_19 : decode cX7_of 19 = .ok (.iload_n 2, 1) := by decide +kernel
theorem dX7_of_20 : decode cX7_of 20 = .ok (.invokevirtual 282, 3) := by decide +kernel
theorem dX7_of_23 : decode cX7_of 23 = .ok (.goto 7, 3) := by decide +kernel
theorem dX7_of_26 : decode cX7_of 26 = .ok (.aload_n 0, 1) := by decide +kernel
theorem dX7_of_27 : decode cX7_of 27 = .ok (.invokevirtual 110, 3) := by decide +kernel
theorem dX7_of_30 : decode cX7_of 30 = .ok (.ireturn, 1) := by decide +kernel
theorem dX7_about_0 : decode cX7_about 0 = .ok (.aload_n 0, 1) := by decide +kernel
theorem dX7_about_1 : decode cX7_about 1 = .ok (.iload_n 1, 1) := by decide +kernel
theorem dX7_about_2 : decode cX7_about 2 = .ok (.invokevirtual 276, 3) := by decide +kernel
theorem dX7_about_5 : decode cX7_about 5 = .ok (.ifCond .eq 12, 3) := by decide +kernel
theorem dX7_about_8 : decode cX7_about 8 = .ok (.iload_n 2, 1) := by decide +kernel
theorem dX7_about_9 : decode cX7_about 9 = .ok (.iconst 0, 1) := by decide +kernel
theorem dX7_about_10 : decode cX7_about 10 = .ok (.iconst 3, 1) := by decide +kernel
theorem dX7_about_11 : decode cX7_about 11 = .ok (.invokestatic 106, 3) := by decide +kernel
theorem dX7_about_14 : decode cX7_about 14 = .ok (.ifCond .ne 8, 3) := by decide +kernel
theorem dX7_about_17 : decode cX7_about 17 = .ok (.aload_n 0, 1) := by decide +kernel
theorem dX7_about_18 : decode cX7_about 18 = .ok (.invokevirtual 110, 3) := by decide +kernel
theorem dX7_about_21 : decode cX7_about 21 = .ok (.ireturn, 1) := by decide +kernel
theorem dX7_about_22 : decode cX7_about 22 = .ok (.iload_n 2, 1) := by decide +kernel
theorem dX7_about_23 : decode cX7_about 23 = .ok (.ifCond .ne 12, 3) := by decide +kernel
theorem dX7_about_26 : decode cX7_about 26 = .ok (.aload_n 0, 1) := by decide +kernel
theorem dX7_about_27 : decode cX7_about 27 = .ok (.getfield 31, 3) := by decide +kernel
theorem dX7_about_30 : decode cX7_about 30 = .ok (.iload_n 1, 1) := by decide +kernel
theorem dX7_about_31 : decode cX7_about 31 = .ok (.iaload, 1) := by decide +kernel
theorem dX7_about_32 : decode cX7_about 32 = .ok (.goto 34, 3) := by decide +kernel
theorem dX7_about_35 : decode cX7_about 35 = .ok (.iload_n 2, 1) := by decide +kernel
theorem dX7_about_36 : decode cX7_about 36 = .ok (.iconst 1, 1) := by decide +kernel
theorem dX7_about_37 : decode cX7_about 37 = .ok (.if_icmp .ne 11, 3) := by decide +kernel
theorem dX7_about_40 : decode cX7_about 40 = .ok (.aload_n 0, 1) := by decide +kernel
theorem dX7_about_41 : decode cX7_about 41 = .ok (.iload_n 1, 1) := by decide +kernel
theorem dX7_about_42 : decode cX7_about 42 = .ok (.invokevirtual 245, 3) := by decide +kernel
theorem dX7_about_45 : decode cX7_about 45 = .ok (.goto 21, 3) := by decide +kernel
theorem dX7_about_48 : decode cX7_about 48 = .ok (.iload_n 2, 1) := by decide +kernel
theorem dX7_about_49 : decode cX7_about 49 = .ok (.iconst 2, 1) := by decide +kernel
theorem dX7_about_50 : decode cX7_about 50 = .ok (.if_icmp .ne 11, 3) := by decide +kernel
theorem dX7_about_53 : decode cX7_about 53 = .ok (.aload_n 0, 1) := by decide +kernel
theorem dX7_about_54 : decode cX7_about 54 = .ok (.iload_n 1, 1) := by decide +kernel
theorem dX7_about_55 : decode cX7_about 55 = .ok (.invokevirtual 236, 3) := by decide +kernel
theorem dX7_about_58 : decode cX7_about 58 = .ok (.goto 8, 3) := by decide +kernel
theorem dX7_about_61 : decode cX7_about 61 = .ok (.aload_n 0, 1) := by decide +kernel
theorem dX7_about_62 : decode cX7_about 62 = .ok (.iload_n 1, 1) := by decide +kernel
theorem dX7_about_63 : decode cX7_about 63 = .ok (.invokevirtual 170, 3) := by decide +kernel
theorem dX7_about_66 : decode cX7_about 66 = .ok (.ireturn, 1) := by decide +kernel
theorem dX7_feels_0 : decode cX7_feels 0 = .ok (.aload_n 0, 1) := by decide +kernel
theorem dX7_feels_1 : decode cX7_feels 1 = .ok (.iload_n 1, 1) := by decide +kernel
theorem dX7_feels_2 : decode cX7_feels 2 = .ok (.invokevirtual 230, 3) := by decide +kernel
theorem dX7_feels_5 : decode cX7_feels 5 = .ok (.ifCond .eq 20, 3) := by decide +kernel
theorem dX7_feels_8 : decode cX7_feels 8 = .ok (.aload_n 0, 1) := by decide +kernel
theorem dX7_feels_9 : decode cX7_feels 9 = .ok (.iload_n 2, 1) := by decide +kernel
theorem dX7_feels_10 : decode cX7_feels 10 = .ok (.invokevirtual 276, 3) := by decide +kernel
theorem dX7_feels_13 : decode cX7_feels 13 = .ok (.ifCond .eq 12, 3) := by decide +kernel
theorem dX7_feels_16 : decode cX7_feels 16 = .ok (.aload_n 0, 1) := by decide +kernel
theorem dX7_feels_17 : decode cX7_feels 17 = .ok (.iload_n 1, 1) := by decide +kernel
theorem dX7_feels_18 : decode cX7_feels 18 = .ok (.iload_n 2, 1) := by decide +kernel
theorem dX7_feels_19 : decode cX7_feels 19 = .ok (.invokevirtual 233, 3) := by decide +kernel
theorem dX7_feels_22 : decode cX7_feels 22 = .ok (.goto 7, 3) := by decide +kernel
theorem dX7_feels_25 : decode cX7_feels 25 = .ok (.aload_n 0, 1) := by decide +kernel
theorem dX7_feels_26 : decode cX7_feels 26 = .ok (.invokevirtual 110, 3) := by decide +kernel
theorem dX7_feels_29 : decode cX7_feels 29 = .ok (.ireturn, 1) := by decide +kernel
theorem dX7_driftBehind_0 : decode cX7_driftBehind 0 = .ok (.iload_n 1, 1) := by decide +kernel
theorem dX7_driftBehind_1 : decode cX7_driftBehind 1 = .ok (.istore_n 3, 1) := by decide +kernel
theorem dX7_driftBehind_2 : decode cX7_driftBehind 2 = .ok (.iconst 0, 1) := by decide +kernel
theorem dX7_driftBehind_3 : decode cX7_driftBehind 3 = .ok (.istore 4, 2) := by decide +kernel
theorem dX7_driftBehind_5 : decode cX7_driftBehind 5 = .ok (.iload 4, 2) := by decide +kernel
theorem dX7_driftBehind_7 : decode cX7_driftBehind 7 = .ok (.iload_n 2, 1) := by decide +kernel
theorem dX7_driftBehind_8 : decode cX7_driftBehind 8 = .ok (.if_icmp .ge 15, 3) := by decide +kernel
theorem dX7_driftBehind_11 : decode cX7_driftBehind 11 = .ok (.aload_n 0, 1) := by decide +kernel
theorem dX7_driftBehind_12 : decode cX7_driftBehind 12 = .ok (.iload_n 3, 1) := by decide +kernel
theorem dX7_driftBehind_13 : decode cX7_driftBehind 13 = .ok (.invokevirtual 257, 3) := by decide +kernel
theorem dX7_driftBehind_16 : decode cX7_driftBehind 16 = .ok (.istore_n 3, 1) := by decide +kernel
theorem dX7_driftBehind_17 : decode cX7_driftBehind 17 = .ok (.iinc 4 1, 3) := by decide +kernel
theorem dX7_driftBehind_20 : decode cX7_driftBehind 20 = .ok (.goto (-15), 3) := by decide +kernel
theorem dX7_driftBehind_23 : decode cX7_driftBehind 23 = .ok (.iload_n 3, 1) := by decide +kernel
theorem dX7_driftBehind_24 : decode cX7_driftBehind 24 = .ok (.ireturn, 1) := by decide +kernel
theorem dX7_where_0 : decode cX7_where 0 = .ok (.aload_n 0, 1) := by decide +kernel
theorem dX7_where_1 : decode cX7_where 1 = .ok (.iload_n 1, 1) := by decide +kernel
theorem dX7_where_2 : decode cX7_where 2 = .ok (.invokevirtual 230, 3) := by decide +kernel
theorem dX7_where_5 : decode cX7_where 5 = .ok (.ifCond .eq 13, 3) := by decide +kernel
theorem dX7_where_8 : decode cX7_where 8 = .ok (.iload_n 2, 1) := by decide +kernel
theorem dX7_where_9 : decode cX7_where 9 = .ok (.iconst 0, 1) := by decide +kernel
theorem dX7_where_10 : decode cX7_where 10 = .ok (.bipush 60, 2) := by decide +kernel
theorem dX7_where_12 : decode cX7_where 12 = .ok (.invokestatic 106, 3) := by decide +kernel
theorem dX7_where_15 : decode cX7_where 15 = .ok (.ifCond .ne 8, 3) := by decide +kernel
theorem dX7_where_18 : decode cX7_where 18 = .ok (.aload_n 0, 1) := by decide +kernel
theorem dX7_where_19 : decode cX7_where 19 = .ok (.invokevirtual 110, 3) := by decide +kernel
theorem dX7_where_22 : decode cX7_where 22 = .ok (.ireturn, 1) := by decide +kernel
theorem dX7_where_23 : decode cX7_where 23 = .ok (.aload_n 0, 1) := by decide +kernel
theorem dX7_where_24 : decode cX7_where 24 = .ok (.getfield 22, 3) := by decide +kernel
theorem dX7_where_27 : decode cX7_where 27 = .ok (.iload_n 1, 1) := by decide +kernel
theorem dX7_where_28 : decode cX7_where 28 = .ok (.iaload, 1) := by decide +kernel
theorem dX7_where_29 : decode cX7_where 29 = .ok (.ifCond .lt 17, 3) := by decide +kernel
theorem dX7_where_32 : decode cX7_where 32 = .ok (.aload_n 0, 1) := by decide +kernel
theorem dX7_where_33 : decode cX7_where 33 = .ok (.aload_n 0, 1) := by decide +kernel
theorem dX7_where_34 : decode cX7_where 34 = .ok (.getfield 22, 3) := by decide +kernel
theorem dX7_where_37 : decode cX7_where 37 = .ok (.iload_n 1, 1) := by decide +kernel
theorem dX7_where_38 : decode cX7_where 38 = .ok (.iaload, 1) := by decide +kernel
theorem dX7_where_39 : decode cX7_where 39 = .ok (.iload_n 2, 1) := by decide +kernel
theorem dX7_where_40 : decode cX7_where 40 = .ok (.invokevirtual 285, 3) := by decide +kernel
theorem dX7_where_43 : decode cX7_where 43 = .ok (.goto 4, 3) := by decide +kernel
theorem dX7_where_46 : decode cX7_where 46 = .ok (.iconst (-1), 1) := by decide +kernel
theorem dX7_where_47 : decode cX7_where 47 = .ok (.ireturn, 1) := by decide +kernel
theorem dX7_comes_0 : decode cX7_comes 0 = .ok (.iload_n 1, 1) := by decide +kernel
theorem dX7_comes_1 : decode cX7_comes 1 = .ok (.invokestatic 114, 3) := by decide +kernel
theorem dX7_comes_4 : decode cX7_comes 4 = .ok (.ifCond .eq 13, 3) := by decide +kernel
theorem dX7_comes_7 : decode cX7_comes 7 = .ok (.iload_n 2, 1) := by decide +kernel
theorem dX7_comes_8 : decode cX7_comes 8 = .ok (.iconst 0, 1) := by decide +kernel
theorem dX7_comes_9 : decode cX7_comes 9 = .ok (.bipush 60, 2) := by decide +kernel
theorem dX7_comes_11 : decode cX7_comes 11 = .ok (.invokestatic 106, 3) := by decide +kernel
theorem dX7_comes_14 : decode cX7_comes 14 = .ok (.ifCond .ne 8, 3) := by decide +kernel
theorem dX7_comes_17 : decode cX7_comes 17 = .ok (.aload_n 0, 1) := by decide +kernel
theorem dX7_comes_18 : decode cX7_comes 18 = .ok (.invokevirtual 110, 3) := by decide +kernel
theorem dX7_comes_21 : decode cX7_comes 21 = .ok (.ireturn, 1) := by decide +kernel
theorem dX7_comes_22 : decode cX7_comes 22 = .ok (.iconst 0, 1) := by decide +kernel
theorem dX7_comes_23 : decode cX7_comes 23 = .ok (.istore_n 3, 1) := by decide +kernel
theorem dX7_comes_24 : decode cX7_comes 24 = .ok (.iconst 0, 1) := by decide +kernel
theorem dX7_comes_25 : decode cX7_comes 25 = .ok (.istore 4, 2) := by decide +kernel
theorem dX7_comes_27 : decode cX7_comes 27 = .ok (.iload 4, 2) := by decide +kernel
theorem dX7_comes_29 : decode cX7_comes 29 = .ok (.bipush 12, 2) := by decide +kernel
theorem dX7_comes_31 : decode cX7_comes 31 = .ok (.if_icmp .ge 31, 3) := by decide +kernel
theorem dX7_comes_34 : decode cX7_comes 34 = .ok (.iload_n 3, 1) := by decide +kernel
theorem dX7_comes_35 : decode cX7_comes 35 = .ok (.aload_n 0, 1) := by decide +kernel
theorem dX7_comes_36 : decode cX7_comes 36 = .ok (.iload 4, 2) := by decide +kernel
theorem dX7_comes_38 : decode cX7_comes 38 = .ok (.iload_n 2, 1) := by decide +kernel
theorem dX7_comes_39 : decode cX7_comes 39 = .ok (.invokevirtual 285, 3) := by decide +kernel
theorem dX7_comes_42 : decode cX7_comes 42 = .ok (.iload_n 1, 1) := by decide +kernel
theorem dX7_comes_43 : decode cX7_comes 43 = .ok (.if_icmp .ne 10, 3) := by decide +kernel
theorem dX7_comes_46 : decode cX7_comes 46 = .ok (.iconst 1, 1) := by decide +kernel
theorem dX7_comes_47 : decode cX7_comes 47 = .ok (.iload 4, 2) := by decide +kernel
theorem dX7_comes_49 : decode cX7_comes 49 = .ok (.ishl, 1) := by decide +kernel
theorem dX7_comes_50 : decode cX7_comes 50 = .ok (.goto 4, 3) := by decide +kernel
theorem dX7_comes_53 : decode cX7_comes 53 = .ok (.iconst 0, 1) := by decide +kernel
theorem dX7_comes_54 : decode cX7_comes 54 = .ok (.ior, 1) := by decide +kernel
theorem dX7_comes_55 : decode cX7_comes 55 = .ok (.istore_n 3, 1) := by decide +kernel
theorem dX7_comes_56 : decode cX7_comes 56 = .ok (.iinc 4 1, 3) := by decide +kernel
theorem dX7_comes_59 : decode cX7_comes 59 = .ok (.goto (-32), 3) := by decide +kernel
theorem dX7_comes_62 : decode cX7_comes 62 = .ok (.iload_n 3, 1) := by decide +kernel
theorem dX7_comes_63 : decode cX7_comes 63 = .ok (.ireturn, 1) := by decide +kernel
theorem dX7_soulsAt_0 : decode cX7_soulsAt 0 = .ok (.iconst 0, 1) := by decide +kernel
theorem dX7_soulsAt_1 : decode cX7_soulsAt 1 = .ok (.istore_n 3, 1) := by decide +kernel
theorem dX7_soulsAt_2 : decode cX7_soulsAt 2 = .ok (.iconst 0, 1) := by decide +kernel
theorem dX7_soulsAt_3 : decode cX7_soulsAt 3 = .ok (.istore 4, 2) := by decide +kernel
theorem dX7_soulsAt_5 : decode cX7_soulsAt 5 = .ok (.iload 4, 2) := by decide +kernel
theorem dX7_soulsAt_7 : decode cX7_soulsAt 7 = .ok (.aload_n 0, 1) := by decide +kernel
theorem dX7_soulsAt_8 : decode cX7_soulsAt 8 = .ok (.getfield 81, 3) := by decide +kernel
theorem dX7_soulsAt_11 : decode cX7_soulsAt 11 = .ok (.if_icmp .ge 46, 3) := by decide +kernel
theorem dX7_soulsAt_14 : decode cX7_soulsAt 14 = .ok (.iload_n 3, 1) := by decide +kernel
theorem dX7_soulsAt_15 : decode cX7_soulsAt 15 = .ok (.aload_n 0, 1) := by decide +kernel
theorem dX7_soulsAt_16 : decode cX7_soulsAt 16 = .ok (.getfield 22, 3) := by decide +kernel
theorem dX7_soulsAt_19 : decode cX7_soulsAt 19 = .ok (.iload 4, 2) := by decide +kernel
theorem dX7_soulsAt_21 : decode cX7_soulsAt 21 = .ok (.iaload, 1) := by decide +kernel
theorem dX7_soulsAt_22 : decode cX7_soulsAt 22 = .ok (.ifCond .lt 26, 3) := by decide +kernel
theorem dX7_soulsAt_25 : decode cX7_soulsAt 25 = .ok (.aload_n 0, 1) := by decide +kernel
theorem dX7_soulsAt_26 : decode cX7_soulsAt 26 = .ok (.aload_n 0, 1) := by decide +kernel
theorem dX7_soulsAt_27 : decode cX7_soulsAt 27 = .ok (.getfield 22, 3) := by decide +kernel
theorem dX7_soulsAt_30 : decode cX7_soulsAt 30 = .ok (.iload 4, 2) := by decide +kernel
theorem dX7_soulsAt_32 : decode cX7_soulsAt 32 = .ok (.iaload, 1) := by decide +kernel
theorem dX7_soulsAt_33 : decode cX7_soulsAt 33 = .ok (.iload_n 2, 1) := by decide +kernel
theorem dX7_soulsAt_34 : decode cX7_soulsAt 34 = .ok (.invokevirtual 285, 3) := by decide +kernel
theorem dX7_soulsAt_37 : decode cX7_soulsAt 37 = .ok (.iload_n 1, 1) := by decide +kernel
theorem dX7_soulsAt_38 : decode cX7_soulsAt 38 = .ok (.if_icmp .ne 10, 3) := by decide +kernel
theorem dX7_soulsAt_41 : decode cX7_soulsAt 41 = .ok (.iconst 1, 1) := by decide +kernel
theorem dX7_soulsAt_42 : decode cX7_soulsAt 42 = .ok (.iload 4, 2) := by decide +kernel
theorem dX7_soulsAt_44 : decode cX7_soulsAt 44 = .ok (.ishl, 1) := by decide +kernel
theorem dX7_soulsAt_45 : decode cX7_soulsAt 45 = .ok (.goto 4, 3) := by decide +kernel
theorem dX7_soulsAt_48 : decode cX7_soulsAt 48 = .ok (.iconst 0, 1) := by decide +kernel
theorem dX7_soulsAt_49 : decode cX7_soulsAt 49 = .ok (.ior, 1) := by decide +kernel
theorem dX7_soulsAt_50 : decode cX7_soulsAt 50 = .ok (.istore_n 3, 1) := by decide +kernel
theorem dX7_soulsAt_51 : decode cX7_soulsAt 51 = .ok (.iinc 4 1, 3) := by decide +kernel
theorem dX7_soulsAt_54 : decode cX7_soulsAt 54 = .ok (.goto (-49), 3) := by decide +kernel
theorem dX7_soulsAt_57 : decode cX7_soulsAt 57 = .ok (.iload_n 3, 1) := by decide +kernel
theorem dX7_soulsAt_58 : decode cX7_soulsAt 58 = .ok (.ireturn, 1) := by decide +kernel
theorem dX7_setFound_0 : decode cX7_setFound 0 = .ok (.iconst 0, 1) := by decide +kernel
theorem dX7_setFound_1 : decode cX7_setFound 1 = .ok (.istore_n 1, 1) := by decide +kernel
theorem dX7_setFound_2 : decode cX7_setFound 2 = .ok (.iload_n 1, 1) := by decide +kernel
theorem dX7_setFound_3 : decode cX7_setFound 3 = .ok (.bipush 20, 2) := by decide +kernel
theorem dX7_setFound_5 : decode cX7_setFound 5 = .ok (.if_icmp .ge 40, 3) := by decide +kernel
theorem dX7_setFound_8 : decode cX7_setFound 8 = .ok (.iconst 0, 1) := by decide +kernel
theorem dX7_setFound_9 : decode cX7_setFound 9 = .ok (.istore_n 2, 1) := by decide +kernel
theorem dX7_setFound_10 : decode cX7_setFound 10 = .ok (.iload_n 2, 1) := by decide +kernel
theorem dX7_setFound_11 : decode cX7_setFound 11 = .ok (.bipush 12, 2) := by decide +kernel
theorem dX7_setFound_13 : decode cX7_setFound 13 = .ok (.if_icmp .ge 26, 3) := by decide +kernel
theorem dX7_setFound_16 : decode cX7_setFound 16 = .ok (.aload_n 0, 1) := by decide +kernel
theorem dX7_setFound_17 : decode cX7_setFound 17 = .ok (.getfield 59, 3) := by decide +kernel
theorem dX7_setFound_20 : decode cX7_setFound 20 = .ok (.bipush 12, 2) := by decide +kernel
theorem dX7_setFound_22 : decode cX7_setFound 22 = .ok (.iload_n 1, 1) := by decide +kernel
theorem dX7_setFound_23 : decode cX7_setFound 23 = .ok (.imul, 1) := by decide +kernel
theorem dX7_setFound_24 : decode cX7_setFound 24 = .ok (.iload_n 2, 1) := by decide +kernel
theorem dX7_setFound_25 : decode cX7_setFound 25 = .ok (.iadd, 1) := by decide +kernel
theorem dX7_setFound_26 : decode cX7_setFound 26 = .ok (.aload_n 0, 1) := by decide +kernel
theorem dX7_setFound_27 : decode cX7_setFound 27 = .ok (.iload_n 2, 1) := by decide +kernel
theorem dX7_setFound_28 : decode cX7_setFound 28 = .ok (.iload_n 1, 1) := by decide +kernel
theorem dX7_setFound_29 : decode cX7_setFound 29 = .ok (.invokevirtual 288, 3) := by decide +kernel
theorem dX7_setFound_32 : decode cX7_setFound 32 = .ok (.iastore, 1) := by decide +kernel
theorem dX7_setFound_33 : decode cX7_setFound 33 = .ok (.iinc 2 1, 3) := by decide +kernel
theorem dX7_setFound_36 : decode cX7_setFound 36 = .ok (.goto (-26), 3) := by decide +kernel
theorem dX7_setFound_39 : decode cX7_setFound 39 = .ok (.iinc 1 1, 3) := by decide +kernel
theorem dX7_setFound_42 : decode cX7_setFound 42 = .ok (.goto (-40), 3) := by decide +kernel
theorem dX7_setFound_45 : decode cX7_setFound 45 = .ok (.return_, 1) := by decide +kernel
theorem dX7_mayStep_0 : decode cX7_mayStep 0 = .ok (.iload_n 2, 1) := by decide +kernel
theorem dX7_mayStep_1 : decode cX7_mayStep 1 = .ok (.iload_n 3, 1) := by decide +kernel
theorem dX7_mayStep_2 : decode cX7_mayStep 2 = .ok (.iadd, 1) := by decide +kernel
theorem dX7_mayStep_3 : decode cX7_mayStep 3 = .ok (.invokestatic 254, 3) := by decide +kernel
theorem dX7_mayStep_6 : decode cX7_mayStep 6 = .ok (.istore 5, 2) := by decide +kernel
theorem dX7_mayStep_8 : decode cX7_mayStep 8 = .ok (.aload_n 0, 1) := by decide +kernel
theorem dX7_mayStep_9 : decode cX7_mayStep 9 = .ok (.getfield 55, 3) := by decide +kernel
theorem dX7_mayStep_12 : decode cX7_mayStep 12 = .ok (.bipush 12, 2) := by decide +kernel
theorem dX7_mayStep_14 : decode cX7_mayStep 14 = .ok (.iload_n 1, 1) := by decide +kernel
theorem dX7_mayStep_15 : decode cX7_mayStep 15 = .ok (.iconst 1, 1) := by decide +kernel
theorem dX7_mayStep_16 : decode cX7_mayStep 16 = .ok (.iadd, 1) := by decide +kernel
theorem dX7_mayStep_17 : decode cX7_mayStep 17 = .ok (.imul, 1) := by decide +kernel
theorem dX7_mayStep_18 : decode cX7_mayStep 18 = .ok (.iload 5, 2) := by decide +kernel
theorem dX7_mayStep_20 : decode cX7_mayStep 20 = .ok (.iadd, 1) := by decide +kernel
theorem dX7_mayStep_21 : decode cX7_mayStep 21 = .ok (.laload, 1) := by decide +kernel
theorem dX7_mayStep_22 : decode cX7_mayStep 22 = .ok (.iload 4, 2) := by decide +kernel
theorem dX7_mayStep_24 : decode cX7_mayStep 24 = .ok (.aload_n 0, 1) := by decide +kernel
theorem dX7_mayStep_25 : decode cX7_mayStep 25 = .ok (.getfield 59, 3) := by decide +kernel
theorem dX7_mayStep_28 : decode cX7_mayStep 28 = .ok (.bipush 12, 2) := by decide +kernel
theorem dX7_mayStep_30 : decode cX7_mayStep 30 = .ok (.iload_n 1, 1) := by decide +kernel
theorem dX7_mayStep_31 : decode cX7_mayStep 31 = .ok (.imul, 1) := by decide +kernel
theorem dX7_mayStep_32 : decode cX7_mayStep 32 = .ok (.iload 5, 2) := by decide +kernel
theorem dX7_mayStep_34 : decode cX7_mayStep 34 = .ok (.iadd, 1) := by decide +kernel
theorem dX7_mayStep_35 : decode cX7_mayStep 35 = .ok (.iaload, 1) := by decide +kernel
theorem dX7_mayStep_36 : decode cX7_mayStep 36 = .ok (.iconst (-1), 1) := by decide +kernel
theorem dX7_mayStep_37 : decode cX7_mayStep 37 = .ok (.ixor, 1) := by decide +kernel
theorem dX7_mayStep_38 : decode cX7_mayStep 38 = .ok (.iand, 1) := by decide +kernel
theorem dX7_mayStep_39 : decode cX7_mayStep 39 = .ok (.lshr, 1) := by decide +kernel
theorem dX7_mayStep_40 : decode cX7_mayStep 40 = .ok (.lconst 1, 1) := by decide +kernel
theorem dX7_mayStep_41 : decode cX7_mayStep 41 = .ok (.land, 1) := by decide +kernel
theorem dX7_mayStep_42 : decode cX7_mayStep 42 = .ok (.lconst 1, 1) := by decide +kernel
theorem dX7_mayStep_43 : decode cX7_mayStep 43 = .ok (.lcmp, 1) := by decide +kernel
theorem dX7_mayStep_44 : decode cX7_mayStep 44 = .ok (.ifCond .ne 7, 3) := by decide +kernel
theorem dX7_mayStep_47 : decode cX7_mayStep 47 = .ok (.iconst 1, 1) := by decide +kernel
theorem dX7_mayStep_48 : decode cX7_mayStep 48 = .ok (.goto 4, 3) := by decide +kernel
theorem dX7_mayStep_51 : decode cX7_mayStep 51 = .ok (.iconst 0, 1) := by decide +kernel
theorem dX7_mayStep_52 : decode cX7_mayStep 52 = .ok (.ireturn, 1) := by decide +kernel
theorem dX7_setCan_0 : decode cX7_setCan 0 = .ok (.iconst 0, 1) := by decide +kernel
theorem dX7_setCan_1 : decode cX7_setCan 1 = .ok (.istore_n 2, 1) := by decide +kernel
theorem dX7_setCan_2 : decode cX7_setCan 2 = .ok (.iload_n 2, 1) := by decide +kernel
theorem dX7_setCan_3 : decode cX7_setCan 3 = .ok (.bipush 12, 2) := by decide +kernel
theorem dX7_setCan_5 : decode cX7_setCan 5 = .ok (.if_icmp .ge 21, 3) := by decide +kernel
theorem dX7_setCan_8 : decode cX7_setCan 8 = .ok (.aload_n 0, 1) := by decide +kernel
theorem dX7_setCan_9 : decode cX7_setCan 9 = .ok (.getfield 55, 3) := by decide +kernel
theorem dX7_setCan_12 : decode cX7_setCan 12 = .ok (.bipush 12, 2) := by decide +kernel
theorem dX7_setCan_14 : decode cX7_setCan 14 = .ok (.iload_n 1, 1) := by decide +kernel
theorem dX7_setCan_15 : decode cX7_setCan 15 = .ok (.imul, 1) := by decide +kernel
theorem dX7_setCan_16 : decode cX7_setCan 16 = .ok (.iload_n 2, 1) := by decide +kernel
theorem dX7_setCan_17 : decode cX7_setCan 17 = .ok (.iadd, 1) := by decide +kernel
theorem dX7_setCan_18 : decode cX7_setCan 18 = .ok (.lconst 1, 1) := by decide +kernel
theorem dX7_setCan_19 : decode cX7_setCan 19 = .ok (.lastore, 1) := by decide +kernel
theorem dX7_setCan_20 : decode cX7_setCan 20 = .ok (.iinc 2 1, 3) := by decide +kernel
theorem dX7_setCan_23 : decode cX7_setCan 23 = .ok (.goto (-21), 3) := by decide +kernel
theorem dX7_setCan_26 : decode cX7_setCan 26 = .ok (.iload_n 1, 1) := by decide +kernel
theorem dX7_setCan_27 : decode cX7_setCan 27 = .ok (.iconst 1, 1) := by decide +kernel
theorem dX7_setCan_28 : decode cX7_setCan 28 = .ok (.isub, 1) := by decide +kernel
theorem dX7_setCan_29 : decode cX7_setCan 29 = .ok (.istore_n 2, 1) := by decide +kernel
theorem dX7_setCan_30 : decode cX7_setCan 30 = .ok (.iload_n 2, 1) := by decide +kernel
theorem dX7_setCan_31 : decode cX7_setCan 31 = .ok (.ifCond .lt 120, 3) := by decide +kernel
theorem dX7_setCan_34 : decode cX7_setCan 34 = .ok (.iconst 0, 1) := by decide +kernel
theorem dX7_setCan_35 : decode cX7_setCan 35 = .ok (.istore_n 3, 1) := by decide +kernel
theorem dX7_setCan_36 : decode cX7_setCan 36 = .ok (.iload_n 3, 1) := by decide +kernel
theorem dX7_setCan_37 : decode cX7_setCan 37 = .ok (.bipush 12, 2) := by decide +kernel
theorem dX7_setCan_39 : decode cX7_setCan 39 = .ok (.if_icmp .ge 106, 3) := by decide +kernel
theorem dX7_setCan_42 : decode cX7_setCan 42 = .ok (.lconst 0, 1) := by decide +kernel
theorem dX7_setCan_43 : decode cX7_setCan 43 = .ok (.lstore 4, 2) := by decide +kernel
theorem dX7_setCan_45 : decode cX7_setCan 45 = .ok (.iconst 0, 1) := by decide +kernel
theorem dX7_setCan_46 : decode cX7_setCan 46 = .ok (.istore 6, 2) := by decide +kernel
theorem dX7_setCan_48 : decode cX7_setCan 48 = .ok (.iload 6, 2) := by decide +kernel
theorem dX7_setCan_50 : decode cX7_setCan 50 = .ok (.iconst 1, 1) := by decide +kernel
theorem dX7_setCan_51 : decode cX7_setCan 51 = .ok (.aload_n 0, 1) := by decide +kernel
theorem dX7_setCan_52 : decode cX7_setCan 52 = .ok (.getfield 81, 3) := by decide +kernel
theorem dX7_setCan_55 : decode cX7_setCan 55 = .ok (.ishl, 1) := by decide +kernel
theorem dX7_setCan_56 : decode cX7_setCan 56 = .ok (.if_icmp .ge 70, 3) := by decide +kernel
theorem dX7_setCan_59 : decode cX7_setCan 59 = .ok (.aload_n 0, 1) := by decide +kernel
theorem dX7_setCan_60 : decode cX7_setCan 60 = .ok (.iload_n 2, 1) := by decide +kernel
theorem dX7_setCan_61 : decode cX7_setCan 61 = .ok (.iload_n 3, 1) := by decide +kernel
theorem dX7_setCan_62 : decode cX7_setCan 62 = .ok (.iconst (-1), 1) := by decide +kernel
theorem dX7_setCan_63 : decode cX7_setCan 63 = .ok (.iload 6, 2) := by decide +kernel
theorem dX7_setCan_65 : decode cX7_setCan 65 = .ok (.invokevirtual 291, 3) := by decide +kernel
theorem dX7_setCan_68 : decode cX7_setCan 68 = .ok (.ifCond .ne 27, 3) := by decide +kernel
theorem dX7_setCan_71 : decode cX7_setCan 71 = .ok (.aload_n 0, 1) := by decide +kernel
theorem dX7_setCan_72 : decode cX7_setCan 72 = .ok (.iload_n 2, 1) := by decide +kernel
theorem dX7_setCan_73 : decode cX7_setCan 73 = .ok (.iload_n 3, 1) := by decide +kernel
theorem dX7_setCan_74 : decode cX7_setCan 74 = .ok (.iconst 0, 1) := by decide +kernel
theorem dX7_setCan_75 : decode cX7_setCan 75 = .ok (.iload 6, 2) := by decide +kernel
theorem dX7_setCan_77 : decode cX7_setCan 77 = .ok (.invokevirtual 291, 3) := by decide +kernel
theorem dX7_setCan_80 : decode cX7_setCan 80 = .ok (.ifCond .ne 15, 3) := by decide +kernel
theorem dX7_setCan_83 : decode cX7_setCan 83 = .ok (.aload_n 0, 1) := by decide +kernel
theorem dX7_setCan_84 : decode cX7_setCan 84 = .ok (.iload_n 2, 1) := by decide +kernel
theorem dX7_setCan_85 : decode cX7_setCan 85 = .ok (.iload_n 3, 1) := by decide +kernel
theorem dX7_setCan_86 : decode cX7_setCan 86 = .ok (.iconst 1, 1) := by decide +kernel
theorem dX7_setCan_87 : decode cX7_setCan 87 = .ok (.iload 6, 2) := by decide +kernel
theorem dX7_setCan_89 : decode cX7_setCan 89 = .ok (.invokevirtual 291, 3) := by decide +kernel
theorem dX7_setCan_92 : decode cX7_setCan 92 = .ok (.ifCond .eq 7, 3) := by decide +kernel
theorem dX7_setCan_95 : decode cX7_setCan 95 = .ok (.iconst 1, 1) := by decide +kernel
theorem dX7_setCan_96 : decode cX7_setCan 96 = .ok (.goto 4, 3) := by decide +kernel
theorem dX7_setCan_99 : decode cX7_setCan 99 = .ok (.iconst 0, 1) := by decide +kernel
theorem dX7_setCan_100 : decode cX7_setCan 100 = .ok (.istore 7, 2) := by decide +kernel
theorem dX7_setCan_102 : decode cX7_setCan 102 = .ok (.lload 4, 2) := by decide +kernel
theorem dX7_setCan_104 : decode cX7_setCan 104 = .ok (.iload 7, 2) := by decide +kernel
theorem dX7_setCan_106 : decode cX7_setCan 106 = .ok (.ifCond .eq 10, 3) := by decide +kernel
theorem dX7_setCan_109 : decode cX7_setCan 109 = .ok (.lconst 1, 1) := by decide +kernel
theorem dX7_setCan_110 : decode cX7_setCan 110 = .ok (.iload 6, 2) := by decide +kernel
theorem dX7_setCan_112 : decode cX7_setCan 112 = .ok (.lshl, 1) := by decide +kernel
theorem dX7_setCan_113 : decode cX7_setCan 113 = .ok (.goto 4, 3) := by decide +kernel
theorem dX7_setCan_116 : decode cX7_setCan 116 = .ok (.lconst 0, 1) := by decide +kernel
theorem dX7_setCan_117 : decode cX7_setCan 117 = .ok (.lor, 1) := by decide +kernel
theorem dX7_setCan_118 : decode cX7_setCan 118 = .ok (.lstore 4, 2) := by decide +kernel
theorem dX7_setCan_120 : decode cX7_setCan 120 = .ok (.iinc 6 1, 3) := by decide +kernel
theorem dX7_setCan_123 : decode cX7_setCan 123 = .ok (.goto (-75), 3) := by decide +kernel
theorem dX7_setCan_126 : decode cX7_setCan 126 = .ok (.aload_n 0, 1) := by decide +kernel
theorem dX7_setCan_127 : decode cX7_setCan 127 = .ok (.getfield 55, 3) := by decide +kernel
theorem dX7_setCan_130 : decode cX7_setCan 130 = .ok (.bipush 12, 2) := by decide +kernel
theorem dX7_setCan_132 : decode cX7_setCan 132 = .ok (.iload_n 2, 1) := by decide +kernel
theorem dX7_setCan_133 : decode cX7_setCan 133 = .ok (.imul, 1) := by decide +kernel
theorem dX7_setCan_134 : decode cX7_setCan 134 = .ok (.iload_n 3, 1) := by decide +kernel
theorem dX7_setCan_135 : decode cX7_setCan 135 = .ok (.iadd, 1) := by decide +kernel
theorem dX7_setCan_136 : decode cX7_setCan 136 = .ok (.lload 4, 2) := by decide +kernel
theorem dX7_setCan_138 : decode cX7_setCan 138 = .ok (.lastore, 1) := by decide +kernel
theorem dX7_setCan_139 : decode cX7_setCan 139 = .ok (.iinc 3 1, 3) := by decide +kernel
theorem dX7_setCan_142 : decode cX7_setCan 142 = .ok (.goto (-106), 3) := by decide +kernel
theorem dX7_setCan_145 : decode cX7_setCan 145 = .ok (.iinc 2 (-1), 3) := by decide +kernel
theorem dX7_setCan_148 : decode cX7_setCan 148 = .ok (.goto (-118), 3) := by decide +kernel
theorem dX7_setCan_151 : decode cX7_setCan 151 = .ok (.return_, 1) := by decide +kernel
theorem dX7_walk_0 : decode cX7_walk 0 = .ok (.iload_n 1, 1) := by decide +kernel
theorem dX7_walk_1 : decode cX7_walk 1 = .ok (.iconst 0, 1) := by decide +kernel
theorem dX7_walk_2 : decode cX7_walk 2 = .ok (.iconst 1, 1) := by decide +kernel
theorem dX7_walk_3 : decode cX7_walk 3 = .ok (.aload_n 0, 1) := by decide +kernel
theorem dX7_walk_4 : decode cX7_walk 4 = .ok (.getfield 81, 3) := by decide +kernel
theorem dX7_walk_7 : decode cX7_walk 7 = .ok (.ishl, 1) := by decide +kernel
theorem dX7_walk_8 : decode cX7_walk 8 = .ok (.iconst 1, 1) := by decide +kernel
theorem dX7_walk_9 : decode cX7_walk 9 = .ok (.isub, 1) := by decide +kernel
theorem dX7_walk_10 : decode cX7_walk 10 = .ok (.invokestatic 106, 3) := by decide +kernel
theorem dX7_walk_13 : decode cX7_walk 13 = .ok (.ifCond .eq 14, 3) := by decide +kernel
theorem dX7_walk_16 : decode cX7_walk 16 = .ok (.iload_n 2, 1) := by decide +kernel
theorem dX7_walk_17 : decode cX7_walk 17 = .ok (.iconst (-1), 1) := by decide +kernel
theorem dX7_walk_18 : decode cX7_walk 18 = .ok (.if_icmp .eq 9, 3) := by decide +kernel
theorem dX7_walk_21 : decode cX7_walk 21 = .ok (.iload_n 2, 1) := by decide +kernel
theorem dX7_walk_22 : decode cX7_walk 22 = .ok (.bipush (-2), 2) := by decide +kernel
theorem dX7_walk_24 : decode cX7_walk 24 = .ok (.if_icmp .ge 8, 3) := by decide +kernel
theorem dX7_walk_27 : decode cX7_walk 27 = .ok (.aload_n 0, 1) := by decide +kernel
theorem dX7_walk_28 : decode cX7_walk 28 = .ok (.invokevirtual 118, 3) := by decide +kernel
theorem dX7_walk_31 : decode cX7_walk 31 = .ok (.ireturn, 1) := by decide +kernel
theorem dX7_walk_32 : decode cX7_walk 32 = .ok (.iconst 0, 1) := by decide +kernel
theorem dX7_walk_33 : decode cX7_walk 33 = .ok (.istore_n 3, 1) := by decide +kernel
theorem dX7_walk_34 : decode cX7_walk 34 = .ok (.iconst 0, 1) := by decide +kernel
theorem dX7_walk_35 : decode cX7_walk 35 = .ok (.istore 4, 2) := by decide +kernel
theorem dX7_walk_37 : decode cX7_walk 37 = .ok (.iload 4, 2) := by decide +kernel
theorem dX7_walk_39 : decode cX7_walk 39 = .ok (.aload_n 0, 1) := by decide +kernel
theorem dX7_walk_40 : decode cX7_walk 40 = .ok (.getfield 81, 3) := by decide +kernel
theorem dX7_walk_43 : decode cX7_walk 43 = .ok (.if_icmp .ge 39, 3) := by decide +kernel
theorem dX7_walk_46 : decode cX7_walk 46 = .ok (.iload_n 3, 1) := by decide +kernel
theorem dX7_walk_47 : decode cX7_walk 47 = .ok (.iload_n 1, 1) := by decide +kernel
theorem dX7_walk_48 : decode cX7_walk 48 = .ok (.iload 4, 2) := by decide +kernel
theorem dX7_walk_50 : decode cX7_walk 50 = .ok (.invokestatic 295, 3) := by decide +kernel
theorem dX7_walk_53 : decode cX7_walk 53 = .ok (.ifCond .eq 20, 3) := by decide +kernel
theorem dX7_walk_56 : decode cX7_walk 56 = .ok (.aload_n 0, 1) := by decide +kernel
theorem dX7_walk_57 : decode cX7_walk 57 = .ok (.getfield 22, 3) := by decide +kernel
theorem dX7_walk_60 : decode cX7_walk 60 = .ok (.iload 4, 2) := by decide +kernel
theorem dX7_walk_62 : decode cX7_walk 62 = .ok (.iaload, 1) := by decide +kernel
theorem dX7_walk_63 : decode cX7_walk 63 = .ok (.ifCond .lt 10, 3) := by decide +kernel
theorem dX7_walk_66 : decode cX7_walk 66 = .ok (.iconst 1, 1) := by decide +kernel
theorem dX7_walk_67 : decode cX7_walk 67 = .ok (.iload 4, 2) := by decide +kernel
theorem dX7_walk_69 : decode cX7_walk 69 = .ok (.ishl, 1) := by decide +kernel
theorem dX7_walk_70 : decode cX7_walk 70 = .ok (.goto 4, 3) := by decide +kernel
theorem dX7_walk_73 : decode cX7_walk 73 = .ok (.iconst 0, 1) := by decide +kernel
theorem dX7_walk_74 : decode cX7_walk 74 = .ok (.ior, 1) := by decide +kernel
theorem dX7_walk_75 : decode cX7_walk 75 = .ok (.istore_n 3, 1) := by decide +kernel
theorem dX7_walk_76 : decode cX7_walk 76 = .ok (.iinc 4 1, 3) := by decide +kernel
theorem dX7_walk_79 : decode cX7_walk 79 = .ok (.goto (-42), 3) := by decide +kernel
theorem dX7_walk_82 : decode cX7_walk 82 = .ok (.aload_n 0, 1) := by decide +kernel
theorem dX7_walk_83 : decode cX7_walk 83 = .ok (.invokevirtual 298, 3) := by decide +kernel
theorem dX7_walk_86 : decode cX7_walk 86 = .ok (.iconst 0, 1) := by decide +kernel
theorem dX7_walk_87 : decode cX7_walk 87 = .ok (.istore 4, 2) := by decide +kernel
theorem dX7_walk_89 : decode cX7_walk 89 = .ok (.aload_n 0, 1) := by decide +kernel
theorem dX7_walk_90 : decode cX7_walk 90 = .ok (.iconst 0, 1) := by decide +kernel
theorem dX7_walk_91 : decode cX7_walk 91 = .ok (.invokevirtual 301, 3) := by decide +kernel
theorem dX7_walk_94 : decode cX7_walk 94 = .ok (.iload 4, 2) := by decide +kernel
theorem dX7_walk_96 : decode cX7_walk 96 = .ok (.bipush 20, 2) := by decide +kernel
theorem dX7_walk_98 : decode cX7_walk 98 = .ok (.if_icmp .ge 33, 3) := by decide +kernel
theorem dX7_walk_101 : decode cX7_walk 101 = .ok (.aload_n 0, 1) := by decide +kernel
theorem dX7_walk_102 : decode cX7_walk 102 = .ok (.getfield 55, 3) := by decide +kernel
theorem dX7_walk_105 : decode cX7_walk 105 = .ok (.aload_n 0, 1) := by decide +kernel
theorem dX7_walk_106 : decode cX7_walk 106 = .ok (.getfield 91, 3) := by decide +kernel
theorem dX7_walk_109 : decode cX7_walk 109 = .ok (.laload, 1) := by decide +kernel
theorem dX7_walk_110 : decode cX7_walk 110 = .ok (.iload_n 3, 1) := by decide +kernel
theorem dX7_walk_111 : decode cX7_walk 111 = .ok (.lshr, 1) := by decide +kernel
theorem dX7_walk_112 : decode cX7_walk 112 = .ok (.lconst 1, 1) := by decide +kernel
theorem dX7_walk_113 : decode cX7_walk 113 = .ok (.land, 1) := by decide +kernel
theorem dX7_walk_114 : decode cX7_walk 114 = .ok (.lconst 0, 1) := by decide +kernel
theorem dX7_walk_115 : decode cX7_walk 115 = .ok (.lcmp, 1) := by decide +kernel
theorem dX7_walk_116 : decode cX7_walk 116 = .ok (.ifCond .ne 15, 3) := by decide +kernel
theorem dX7_walk_119 : decode cX7_walk 119 = .ok (.iinc 4 1, 3) := by decide +kernel
theorem dX7_walk_122 : decode cX7_walk 122 = .ok (.aload_n 0, 1) := by decide +kernel
theorem dX7_walk_123 : decode cX7_walk 123 = .ok (.iload 4, 2) := by decide +kernel
theorem dX7_walk_125 : decode cX7_walk 125 = .ok (.invokevirtual 301, 3) := by decide +kernel
theorem dX7_walk_128 : decode cX7_walk 128 = .ok (.goto (-34), 3) := by decide +kernel
theorem dX7_walk_131 : decode cX7_walk 131 = .ok (.aload_n 0, 1) := by decide +kernel
theorem dX7_walk_132 : decode cX7_walk 132 = .ok (.getfield 55, 3) := by decide +kernel
theorem dX7_walk_135 : decode cX7_walk 135 = .ok (.aload_n 0, 1) := by decide +kernel
theorem dX7_walk_136 : decode cX7_walk 136 = .ok (.getfield 91, 3) := by decide +kernel
theorem dX7_walk_139 : decode cX7_walk 139 = .ok (.laload, 1) := by decide +kernel
theorem dX7_walk_140 : decode cX7_walk 140 = .ok (.iload_n 3, 1) := by decide +kernel
theorem dX7_walk_141 : decode cX7_walk 141 = .ok (.lshr, 1) := by decide +kernel
theorem dX7_walk_142 : decode cX7_walk 142 = .ok (.lconst 1, 1) := by decide +kernel
theorem dX7_walk_143 : decode cX7_walk 143 = .ok (.land, 1) := by decide +kernel
theorem dX7_walk_144 : decode cX7_walk 144 = .ok (.lconst 0, 1) := by decide +kernel
theorem dX7_walk_145 : decode cX7_walk 145 = .ok (.lcmp, 1) := by decide +kernel
theorem dX7_walk_146 : decode cX7_walk 146 = .ok (.ifCond .ne 6, 3) := by decide +kernel
theorem dX7_walk_149 : decode cX7_walk 149 = .ok (.bipush (-6), 2) := by decide +kernel
theorem dX7_walk_151 : decode cX7_walk 151 = .ok (.ireturn, 1) := by decide +kernel
theorem dX7_walk_152 : decode cX7_walk 152 = .ok (.iload_n 2, 1) := by decide +kernel
theorem dX7_walk_153 : decode cX7_walk 153 = .ok (.ifCond .lt 9, 3) := by decide +kernel
theorem dX7_walk_156 : decode cX7_walk 156 = .ok (.iload_n 2, 1) := by decide +kernel
theorem dX7_walk_157 : decode cX7_walk 157 = .ok (.iload 4, 2) := by decide +kernel
theorem dX7_walk_159 : decode cX7_walk 159 = .ok (.if_icmp .lt 15, 3) := by decide +kernel
theorem dX7_walk_162 : decode cX7_walk 162 = .ok (.iload_n 2, 1) := by decide +kernel
theorem dX7_walk_163 : decode cX7_walk 163 = .ok (.ifCond .ge 8, 3) := by decide +kernel
theorem dX7_walk_166 : decode cX7_walk 166 = .ok (.iload 4, 2) := by decide +kernel
theorem dX7_walk_168 : decode cX7_walk 168 = .ok (.goto 5, 3) := by decide +kernel
theorem dX7_walk_171 : decode cX7_walk 171 = .ok (.bipush (-5), 2) := by decide +kernel
theorem dX7_walk_173 : decode cX7_walk 173 = .ok (.ireturn, 1) := by decide +kernel
theorem dX7_walk_174 : decode cX7_walk 174 = .ok (.aload_n 0, 1) := by decide +kernel
theorem dX7_walk_175 : decode cX7_walk 175 = .ok (.getfield 91, 3) := by decide +kernel
theorem dX7_walk_178 : decode cX7_walk 178 = .ok (.istore 5, 2) := by decide +kernel
theorem dX7_walk_180 : decode cX7_walk 180 = .ok (.iconst 0, 1) := by decide +kernel
theorem dX7_walk_181 : decode cX7_walk 181 = .ok (.istore 6, 2) := by decide +kernel
theorem dX7_walk_183 : decode cX7_walk 183 = .ok (.iconst 0, 1) := by decide +kernel
theorem dX7_walk_184 : decode cX7_walk 184 = .ok (.istore 7, 2) := by decide +kernel
theorem dX7_walk_186 : decode cX7_walk 186 = .ok (.iload 7, 2) := by decide +kernel
theorem dX7_walk_188 : decode cX7_walk 188 = .ok (.iload_n 2, 1) := by decide +kernel
theorem dX7_walk_189 : decode cX7_walk 189 = .ok (.if_icmp .gt 74, 3) := by decide +kernel
theorem dX7_walk_192 : decode cX7_walk 192 = .ok (.aload_n 0, 1) := by decide +kernel
theorem dX7_walk_193 : decode cX7_walk 193 = .ok (.iload 7, 2) := by decide +kernel
theorem dX7_walk_195 : decode cX7_walk 195 = .ok (.iload 5, 2) := by decide +kernel
theorem dX7_walk_197 : decode cX7_walk 197 = .ok (.iconst (-1), 1) := by decide +kernel
theorem dX7_walk_198 : decode cX7_walk 198 = .ok (.iload_n 3, 1) := by decide +kernel
theorem dX7_walk_199 : decode cX7_walk 199 = .ok (.invokevirtual 291, 3) := by decide +kernel
theorem dX7_walk_202 : decode cX7_walk 202 = .ok (.ifCond .eq 7, 3) := by decide +kernel
theorem dX7_walk_205 : decode cX7_walk 205 = .ok (.iconst (-1), 1) := by decide +kernel
theorem dX7_walk_206 : decode cX7_walk 206 = .ok (.goto 21, 3) := by decide +kernel
theorem dX7_walk_209 : decode cX7_walk 209 = .ok (.aload_n 0, 1) := by decide +kernel
theorem dX7_walk_210 : decode cX7_walk 210 = .ok (.iload 7, 2) := by decide +kernel
theorem dX7_walk_212 : decode cX7_walk 212 = .ok (.iload 5, 2) := by decide +kernel
theorem dX7_walk_214 : decode cX7_walk 214 = .ok (.iconst 0, 1) := by decide +kernel
theorem dX7_walk_215 : decode cX7_walk 215 = .ok (.iload_n 3, 1) := by decide +kernel
theorem dX7_walk_216 : decode cX7_walk 216 = .ok (.invokevirtual 291, 3) := by decide +kernel
theorem dX7_walk_219 : decode cX7_walk 219 = .ok (.ifCond .eq 7, 3) := by decide +kernel
theorem dX7_walk_222 : decode cX7_walk 222 = .ok (.iconst 0, 1) := by decide +kernel
theorem dX7_walk_223 : decode cX7_walk 223 = .ok (.goto 4, 3) := by decide +kernel
theorem dX7_walk_226 : decode cX7_walk 226 = .ok (.iconst 1, 1) := by decide +kernel
theorem dX7_walk_227 : decode cX7_walk 227 = .ok (.istore 6, 2) := by decide +kernel
theorem dX7_walk_229 : decode cX7_walk 229 = .ok (.iload 5, 2) := by decide +kernel
theorem dX7_walk_231 : decode cX7_walk 231 = .ok (.iload 6, 2) := by decide +kernel
theorem dX7_walk_233 : decode cX7_walk 233 = .ok (.iadd, 1) := by decide +kernel
theorem dX7_walk_234 : decode cX7_walk 234 = .ok (.invokestatic 254, 3) := by decide +kernel
theorem dX7_walk_237 : decode cX7_walk 237 = .ok (.istore 5, 2) := by decide +kernel
theorem dX7_walk_239 : decode cX7_walk 239 = .ok (.iload_n 3, 1) := by decide +kernel
theorem dX7_walk_240 : decode cX7_walk 240 = .ok (.aload_n 0, 1) := by decide +kernel
theorem dX7_walk_241 : decode cX7_walk 241 = .ok (.getfield 59, 3) := by decide +kernel
theorem dX7_walk_244 : decode cX7_walk 244 = .ok (.bipush 12, 2) := by decide +kernel
theorem dX7_walk_246 : decode cX7_walk 246 = .ok (.iload 7, 2) := by decide +kernel
theorem dX7_walk_248 : decode cX7_walk 248 = .ok (.imul, 1) := by decide +kernel
theorem dX7_walk_249 : decode cX7_walk 249 = .ok (.iload 5, 2) := by decide +kernel
theorem dX7_walk_251 : decode cX7_walk 251 = .ok (.iadd, 1) := by decide +kernel
theorem dX7_walk_252 : decode cX7_walk 252 = .ok (.iaload, 1) := by decide +kernel
theorem dX7_walk_253 : decode cX7_walk 253 = .ok (.iconst (-1), 1) := by decide +kernel
theorem dX7_walk_254 : decode cX7_walk 254 = .ok (.ixor, 1) := by decide +kernel
theorem dX7_walk_255 : decode cX7_walk 255 = .ok (.iand, 1) := by decide +kernel
theorem dX7_walk_256 : decode cX7_walk 256 = .ok (.istore_n 3, 1) := by decide +kernel
theorem dX7_walk_257 : decode cX7_walk 257 = .ok (.iinc 7 1, 3) := by decide +kernel
theorem dX7_walk_260 : decode cX7_walk 260 = .ok (.goto (-74), 3) := by decide +kernel
theorem dX7_walk_263 : decode cX7_walk 263 = .ok (.iload 6, 2) := by decide +kernel
theorem dX7_walk_265 : decode cX7_walk 265 = .ok (.iconst 1, 1) := by decide +kernel
theorem dX7_walk_266 : decode cX7_walk 266 = .ok (.iadd, 1) := by decide +kernel
theorem dX7_walk_267 : decode cX7_walk 267 = .ok (.ireturn, 1) := by decide +kernel
theorem dX7_rightMany_0 : decode cX7_rightMany 0 = .ok (.iconst 0, 1) := by decide +kernel
theorem dX7_rightMany_1 : decode cX7_rightMany 1 = .ok (.istore_n 1, 1) := by decide +kernel
theorem dX7_rightMany_2 : decode cX7_rightMany 2 = .ok (.iconst 0, 1) := by decide +kernel
theorem dX7_rightMany_3 : decode cX7_rightMany 3 = .ok (.istore_n 2, 1) := by decide +kernel
theorem dX7_rightMany_4 : decode cX7_rightMany 4 = .ok (.iload_n 2, 1) := by decide +kernel
theorem dX7_rightMany_5 : decode cX7_rightMany 5 = .ok (.aload_n 0, 1) := by decide +kernel
theorem dX7_rightMany_6 : decode cX7_rightMany 6 = .ok (.getfield 85, 3) := by decide +kernel
theorem dX7_rightMany_9 : decode cX7_rightMany 9 = .ok (.if_icmp .ge 35, 3) := by decide +kernel
theorem dX7_rightMany_12 : decode cX7_rightMany 12 = .ok (.iload_n 1, 1) := by decide +kernel
theorem dX7_rightMany_13 : decode cX7_rightMany 13 = .ok (.aload_n 0, 1) := by decide +kernel
theorem dX7_rightMany_14 : decode cX7_rightMany 14 = .ok (.iload_n 2, 1) := by decide +kernel
theorem dX7_rightMany_15 : decode cX7_rightMany 15 = .ok (.invokevirtual 230, 3) := by decide +kernel
theorem dX7_rightMany_18 : decode cX7_rightMany 18 = .ok (.ifCond .eq 17, 3) := by decide +kernel
theorem dX7_rightMany_21 : decode cX7_rightMany 21 = .ok (.aload_n 0, 1) := by decide +kernel
theorem dX7_rightMany_22 : decode cX7_rightMany 22 = .ok (.getfield 25, 3) := by decide +kernel
theorem dX7_rightMany_25 : decode cX7_rightMany 25 = .ok (.iload_n 2, 1) := by decide +kernel
theorem dX7_rightMany_26 : decode cX7_rightMany 26 = .ok (.iaload, 1) := by decide +kernel
theorem dX7_rightMany_27 : decode cX7_rightMany 27 = .ok (.iload_n 2, 1) := by decide +kernel
theorem dX7_rightMany_28 : decode cX7_rightMany 28 = .ok (.if_icmp .ne 7, 3) := by decide +kernel
theorem dX7_rightMany_31 : decode cX7_rightMany 31 = .ok (.iconst 1, 1) := by decide +kernel
theorem dX7_rightMany_32 : decode cX7_rightMany 32 = .ok (.goto 4, 3) := by decide +kernel
theorem dX7_rightMany_35 : decode cX7_rightMany 35 = .ok (.iconst 0, 1) := by decide +kernel
theorem dX7_rightMany_36 : decode cX7_rightMany 36 = .ok (.iadd, 1) := by decide +kernel
theorem dX7_rightMany_37 : decode cX7_rightMany 37 = .ok (.istore_n 1, 1) := by decide +kernel
theorem dX7_rightMany_38 : decode cX7_rightMany 38 = .ok (.iinc 2 1, 3) := by decide +kernel
theorem dX7_rightMany_41 : decode cX7_rightMany 41 = .ok (.goto (-37), 3) := by decide +kernel
theorem dX7_rightMany_44 : decode cX7_rightMany 44 = .ok (.iload_n 1, 1) := by decide +kernel
theorem dX7_rightMany_45 : decode cX7_rightMany 45 = .ok (.ireturn, 1) := by decide +kernel
theorem dX7_right_0 : decode cX7_right 0 = .ok (.aload_n 0, 1) := by decide +kernel
theorem dX7_right_1 : decode cX7_right 1 = .ok (.invokevirtual 305, 3) := by decide +kernel
theorem dX7_right_4 : decode cX7_right 4 = .ok (.ireturn, 1) := by decide +kernel
theorem dX7_rightBy_0 : decode cX7_rightBy 0 = .ok (.aload_n 0, 1) := by decide +kernel
theorem dX7_rightBy_1 : decode cX7_rightBy 1 = .ok (.aload_n 0, 1) := by decide +kernel
theorem dX7_rightBy_2 : decode cX7_rightBy 2 = .ok (.getfield 52, 3) := by decide +kernel
theorem dX7_rightBy_5 : decode cX7_rightBy 5 = .ok (.iconst 0, 1) := by decide +kernel
theorem dX7_rightBy_6 : decode cX7_rightBy 6 = .ok (.invokevirtual 264, 3) := by decide +kernel
theorem dX7_rightBy_9 : decode cX7_rightBy 9 = .ok (.iconst 0, 1) := by decide +kernel
theorem dX7_rightBy_10 : decode cX7_rightBy 10 = .ok (.istore_n 2, 1) := by decide +kernel
theorem dX7_rightBy_11 : decode cX7_rightBy 11 = .ok (.iload_n 2, 1) := by decide +kernel
theorem dX7_rightBy_12 : decode cX7_rightBy 12 = .ok (.iload_n 1, 1) := by decide +kernel
theorem dX7_rightBy_13 : decode cX7_rightBy 13 = .ok (.if_icmp .ge 36, 3) := by decide +kernel
theorem dX7_rightBy_16 : decode cX7_rightBy 16 = .ok (.aload_n 0, 1) := by decide +kernel
theorem dX7_rightBy_17 : decode cX7_rightBy 17 = .ok (.aload_n 0, 1) := by decide +kernel
theorem dX7_rightBy_18 : decode cX7_rightBy 18 = .ok (.getfield 62, 3) := by decide +kernel
theorem dX7_rightBy_21 : decode cX7_rightBy 21 = .ok (.iload_n 2, 1) := by decide +kernel
theorem dX7_rightBy_22 : decode cX7_rightBy 22 = .ok (.iaload, 1) := by decide +kernel
theorem dX7_rightBy_23 : decode cX7_rightBy 23 = .ok (.invokevirtual 248, 3) := by decide +kernel
theorem dX7_rightBy_26 : decode cX7_rightBy 26 = .ok (.istore_n 3, 1) := by decide +kernel
theorem dX7_rightBy_27 : decode cX7_rightBy 27 = .ok (.iload_n 3, 1) := by decide +kernel
theorem dX7_rightBy_28 : decode cX7_rightBy 28 = .ok (.iconst (-1), 1) := by decide +kernel
theorem dX7_rightBy_29 : decode cX7_rightBy 29 = .ok (.if_icmp .eq 14, 3) := by decide +kernel
theorem dX7_rightBy_32 : decode cX7_rightBy 32 = .ok (.aload_n 0, 1) := by decide +kernel
theorem dX7_rightBy_33 : decode cX7_rightBy 33 = .ok (.aload_n 0, 1) := by decide +kernel
theorem dX7_rightBy_34 : decode cX7_rightBy 34 = .ok (.getfield 62, 3) := by decide +kernel
theorem dX7_rightBy_37 : decode cX7_rightBy 37 = .ok (.iload_n 2, 1) := by decide +kernel
theorem dX7_rightBy_38 : decode cX7_rightBy 38 = .ok (.iaload, 1) := by decide +kernel
theorem dX7_rightBy_39 : decode cX7_rightBy 39 = .ok (.iload_n 3, 1) := by decide +kernel
theorem dX7_rightBy_40 : decode cX7_rightBy 40 = .ok (.invokevirtual 173, 3) := by decide +kernel
theorem dX7_rightBy_43 : decode cX7_rightBy 43 = .ok (.iinc 2 1, 3) := by decide +kernel
theorem dX7_rightBy_46 : decode cX7_rightBy 46 = .ok (.goto (-35), 3) := by decide +kernel
theorem dX7_rightBy_49 : decode cX7_rightBy 49 = .ok (.aload_n 0, 1) := by decide +kernel
theorem dX7_rightBy_50 : decode cX7_rightBy 50 = .ok (.invokevirtual 305, 3) := by decide +kernel
theorem dX7_rightBy_53 : decode cX7_rightBy 53 = .ok (.istore_n 2, 1) := by decide +kernel
theorem dX7_rightBy_54 : decode cX7_rightBy 54 = .ok (.aload_n 0, 1) := by decide +kernel
theorem dX7_rightBy_55 : decode cX7_rightBy 55 = .ok (.aload_n 0, 1) := by decide +kernel
theorem dX7_rightBy_56 : decode cX7_rightBy 56 = .ok (.getfield 52, 3) := by decide +kernel
theorem dX7_rightBy_59 : decode cX7_rightBy 59 = .ok (.iconst 0, 1) := by decide +kernel
theorem dX7_rightBy_60 : decode cX7_rightBy 60 = .ok (.invokevirtual 279, 3) := by decide +kernel
theorem dX7_rightBy_63 : decode cX7_rightBy 63 = .ok (.iload_n 2, 1) := by decide +kernel
theorem dX7_rightBy_64 : decode cX7_rightBy 64 = .ok (.ireturn, 1) := by decide +kernel
theorem dX7_nextRow_0 : decode cX7_nextRow 0 = .ok (.iload_n 1, 1) := by decide +kernel
theorem dX7_nextRow_1 : decode cX7_nextRow 1 = .ok (.iconst 2, 1) := by decide +kernel
theorem dX7_nextRow_2 : decode cX7_nextRow 2 = .ok (.isub, 1) := by decide +kernel
theorem dX7_nextRow_3 : decode cX7_nextRow 3 = .ok (.istore_n 2, 1) := by decide +kernel
theorem dX7_nextRow_4 : decode cX7_nextRow 4 = .ok (.iload_n 2, 1) := by decide +kernel
theorem dX7_nextRow_5 : decode cX7_nextRow 5 = .ok (.ifCond .lt 26, 3) := by decide +kernel
theorem dX7_nextRow_8 : decode cX7_nextRow 8 = .ok (.aload_n 0, 1) := by decide +kernel
theorem dX7_nextRow_9 : decode cX7_nextRow 9 = .ok (.getfield 62, 3) := by decide +kernel
theorem dX7_nextRow_12 : decode cX7_nextRow 12 = .ok (.iload_n 2, 1) := by decide +kernel
theorem dX7_nextRow_13 : decode cX7_nextRow 13 = .ok (.iaload, 1) := by decide +kernel
theorem dX7_nextRow_14 : decode cX7_nextRow 14 = .ok (.aload_n 0, 1) := by decide +kernel
theorem dX7_nextRow_15 : decode cX7_nextRow 15 = .ok (.getfield 62, 3) := by decide +kernel
theorem dX7_nextRow_18 : decode cX7_nextRow 18 = .ok (.iload_n 2, 1) := by decide +kernel
theorem dX7_nextRow_19 : decode cX7_nextRow 19 = .ok (.iconst 1, 1) := by decide +kernel
theorem dX7_nextRow_20 : decode cX7_nextRow 20 = .ok (.iadd, 1) := by decide +kernel
theorem dX7_nextRow_21 : decode cX7_nextRow 21 = .ok (.iaload, 1) := by decide +kernel
theorem dX7_nextRow_22 : decode cX7_nextRow 22 = .ok (.if_icmp .le 9, 3) := by decide +kernel
theorem dX7_nextRow_25 : decode cX7_nextRow 25 = .ok (.iinc 2 (-1), 3) := by decide +kernel
theorem dX7_nextRow_28 : decode cX7_nextRow 28 = .ok (.goto (-24), 3) := by decide +kernel
theorem dX7_nextRow_31 : decode cX7_nextRow 31 = .ok (.iload_n 2, 1) := by decide +kernel
theorem dX7_nextRow_32 : decode cX7_nextRow 32 = .ok (.ifCond .ge 5, 3) := by decide +kernel
theorem dX7_nextRow_35 : decode cX7_nextRow 35 = .ok (.iconst 0, 1) := by decide +kernel
theorem dX7_nextRow_36 : decode cX7_nextRow 36 = .ok (.ireturn, 1) := by decide +kernel
theorem dX7_nextRow_37 : decode cX7_nextRow 37 = .ok (.iload_n 1, 1) := by decide +kernel
theorem dX7_nextRow_38 : decode cX7_nextRow 38 = .ok (.iconst 1, 1) := by decide +kernel
theorem dX7_nextRow_39 : decode cX7_nextRow 39 = .ok (.isub, 1) := by decide +kernel
theorem dX7_nextRow_40 : decode cX7_nextRow 40 = .ok (.istore_n 3, 1) := by decide +kernel
theorem dX7_nextRow_41 : decode cX7_nextRow 41 = .ok (.aload_n 0, 1) := by decide +kernel
theorem dX7_nextRow_42 : decode cX7_nextRow 42 = .ok (.getfield 62, 3) := by decide +kernel
theorem dX7_nextRow_45 : decode cX7_nextRow 45 = .ok (.iload_n 3, 1) := by decide +kernel
theorem dX7_nextRow_46 : decode cX7_nextRow 46 = .ok (.iaload, 1) := by decide +kernel
theorem dX7_nextRow_47 : decode cX7_nextRow 47 = .ok (.aload_n 0, 1) := by decide +kernel
theorem dX7_nextRow_48 : decode cX7_nextRow 48 = .ok (.getfield 62, 3) := by decide +kernel
theorem dX7_nextRow_51 : decode cX7_nextRow 51 = .ok (.iload_n 2, 1) := by decide +kernel
theorem dX7_nextRow_52 : decode cX7_nextRow 52 = .ok (.iaload, 1) := by decide +kernel
theorem dX7_nextRow_53 : decode cX7_nextRow 53 = .ok (.if_icmp .ge 9, 3) := by decide +kernel
theorem dX7_nextRow_56 : decode cX7_nextRow 56 = .ok (.iinc 3 (-1), 3) := by decide +kernel
theorem dX7_nextRow_59 : decode cX7_nextRow 59 = .ok (.goto (-18), 3) := by decide +kernel
theorem dX7_nextRow_62 : decode cX7_nextRow 62 = .ok (.aload_n 0, 1) := by decide +kernel
theorem dX7_nextRow_63 : decode cX7_nextRow 63 = .ok (.getfield 62, 3) := by decide +kernel
theorem dX7_nextRow_66 : decode cX7_nextRow 66 = .ok (.iload_n 2, 1) := by decide +kernel
theorem dX7_nextRow_67 : decode cX7_nextRow 67 = .ok (.iaload, 1) := by decide +kernel
theorem dX7_nextRow_68 : decode cX7_nextRow 68 = .ok (.istore 4, 2) := by decide +kernel
theorem dX7_nextRow_70 : decode cX7_nextRow 70 = .ok (.aload_n 0, 1) := by decide +kernel
theorem dX7_nextRow_71 : decode cX7_nextRow 71 = .ok (.getfield 62, 3) := by decide +kernel
theorem dX7_nextRow_74 : decode cX7_nextRow 74 = .ok (.iload_n 2, 1) := by decide +kernel
theorem dX7_nextRow_75 : decode cX7_nextRow 75 = .ok (.aload_n 0, 1) := by decide +kernel
theorem dX7_nextRow_76 : decode cX7_nextRow 76 = .ok (.getfield 62, 3) := by decide +kernel
theorem dX7_nextRow_79 : decode cX7_nextRow 79 = .ok (.iload_n 3, 1) := by decide +kernel
theorem dX7_nextRow_80 : decode cX7_nextRow 80 = .ok (.iaload, 1) := by decide +kernel
theorem dX7_nextRow_81 : decode cX7_nextRow 81 = .ok (.iastore, 1) := by decide +kernel
theorem dX7_nextRow_82 : decode cX7_nextRow 82 = .ok (.aload_n 0, 1) := by decide +kernel
theorem dX7_nextRow_83 : decode cX7_nextRow 83 = .ok (.getfield 62, 3) := by decide +kernel
theorem dX7_nextRow_86 : decode cX7_nextRow 86 = .ok (.iload_n 3, 1) := by decide +kernel
theorem dX7_nextRow_87 : decode cX7_nextRow 87 = .ok (.iload 4, 2) := by decide +kernel
theorem dX7_nextRow_89 : decode cX7_nextRow 89 = .ok (.iastore, 1) := by decide +kernel
theorem dX7_nextRow_90 : decode cX7_nextRow 90 = .ok (.iload_n 2, 1) := by decide +kernel
theorem dX7_nextRow_91 : decode cX7_nextRow 91 = .ok (.iconst 1, 1) := by decide +kernel
theorem dX7_nextRow_92 : decode cX7_nextRow 92 = .ok (.iadd, 1) := by decide +kernel
theorem dX7_nextRow_93 : decode cX7_nextRow 93 = .ok (.istore 5, 2) := by decide +kernel
theorem dX7_nextRow_95 : decode cX7_nextRow 95 = .ok (.iload_n 1, 1) := by decide +kernel
theorem dX7_nextRow_96 : decode cX7_nextRow 96 = .ok (.iconst 1, 1) := by decide +kernel
theorem dX7_nextRow_97 : decode cX7_nextRow 97 = .ok (.isub, 1) := by decide +kernel
theorem dX7_nextRow_98 : decode cX7_nextRow 98 = .ok (.istore 6, 2) := by decide +kernel
theorem dX7_nextRow_100 : decode cX7_nextRow 100 = .ok (.iload 5, 2) := by decide +kernel
theorem dX7_nextRow_102 : decode cX7_nextRow 102 = .ok (.iload 6, 2) := by decide +kernel
theorem dX7_nextRow_104 : decode cX7_nextRow 104 = .ok (.if_icmp .ge 44, 3) := by decide +kernel
theorem dX7_nextRow_107 : decode cX7_nextRow 107 = .ok (.aload_n 0, 1) := by decide +kernel
theorem dX7_nextRow_108 : decode cX7_nextRow 108 = .ok (.getfield 62, 3) := by decide +kernel
theorem dX7_nextRow_111 : decode cX7_nextRow 111 = .ok (.iload 5, 2) := by decide +kernel
theorem dX7_nextRow_113 : decode cX7_nextRow 113 = .ok (.iaload, 1) := by decide +kernel
theorem dX7_nextRow_114 : decode cX7_nextRow 114 = .ok (.istore 7, 2) := by decide +kernel
theorem dX7_nextRow_116 : decode cX7_nextRow 116 = .ok (.aload_n 0, 1) := by decide +kernel
theorem dX7_nextRow_117 : decode cX7_nextRow 117 = .ok (.getfield 62, 3) := by decide +kernel
theorem dX7_nextRow_120 : decode cX7_nextRow 120 = .ok (.iload 5, 2) := by decide +kernel
theorem dX7_nextRow_122 : decode cX7_nextRow 122 = .ok (.aload_n 0, 1) := by decide +kernel
theorem dX7_nextRow_123 : decode cX7_nextRow 123 = .ok (.getfield 62, 3) := by decide +kernel
theorem dX7_nextRow_126 : decode cX7_nextRow 126 = .ok (.iload 6, 2) := by decide +kernel
theorem dX7_nextRow_128 : decode cX7_nextRow 128 = .ok (.iaload, 1) := by decide +kernel
theorem dX7_nextRow_129 : decode cX7_nextRow 129 = .ok (.iastore, 1) := by decide +kernel
theorem dX7_nextRow_130 : decode cX7_nextRow 130 = .ok (.aload_n 0, 1) := by decide +kernel
theorem dX7_nextRow_131 : decode cX7_nextRow 131 = .ok (.getfield 62, 3) := by decide +kernel
theorem dX7_nextRow_134 : decode cX7_nextRow 134 = .ok (.iload 6, 2) := by decide +kernel
theorem dX7_nextRow_136 : decode cX7_nextRow 136 = .ok (.iload 7, 2) := by decide +kernel
theorem dX7_nextRow_138 : decode cX7_nextRow 138 = .ok (.iastore, 1) := by decide +kernel
theorem dX7_nextRow_139 : decode cX7_nextRow 139 = .ok (.iinc 5 1, 3) := by decide +kernel
theorem dX7_nextRow_142 : decode cX7_nextRow 142 = .ok (.iinc 6 (-1), 3) := by decide +kernel
theorem dX7_nextRow_145 : decode cX7_nextRow 145 = .ok (.goto (-45), 3) := by decide +kernel
theorem dX7_nextRow_148 : decode cX7_nextRow 148 = .ok (.iconst 1, 1) := by decide +kernel
theorem dX7_nextRow_149 : decode cX7_nextRow 149 = .ok (.ireturn, 1) := by decide +kernel
theorem dX7_order_0 : decode cX7_order 0 = .ok (.iload_n 1, 1) := by decide +kernel
theorem dX7_order_1 : decode cX7_order 1 = .ok (.iconst (-1), 1) := by decide +kernel
theorem dX7_order_2 : decode cX7_order 2 = .ok (.if_icmp .ge 8, 3) := by decide +kernel
theorem dX7_order_5 : decode cX7_order 5 = .ok (.aload_n 0, 1) := by decide +kernel
theorem dX7_order_6 : decode cX7_order 6 = .ok (.invokevirtual 118, 3) := by decide +kernel
theorem dX7_order_9 : decode cX7_order 9 = .ok (.ireturn, 1) := by decide +kernel
theorem dX7_order_10 : decode cX7_order 10 = .ok (.iconst 0, 1) := by decide +kernel
theorem dX7_order_11 : decode cX7_order 11 = .ok (.istore_n 2, 1) := by decide +kernel
theorem dX7_order_12 : decode cX7_order 12 = .ok (.iconst 0, 1) := by decide +kernel
theorem dX7_order_13 : decode cX7_order 13 = .ok (.istore_n 3, 1) := by decide +kernel
theorem dX7_order_14 : decode cX7_order 14 = .ok (.iload_n 3, 1) := by decide +kernel
theorem dX7_order_15 : decode cX7_order 15 = .ok (.aload_n 0, 1) := by decide +kernel
theorem dX7_order_16 : decode cX7_order 16 = .ok (.getfield 85, 3) := by decide +kernel
theorem dX7_order_19 : decode cX7_order 19 = .ok (.if_icmp .ge 28, 3) := by decide +kernel
theorem dX7_order_22 : decode cX7_order 22 = .ok (.aload_n 0, 1) := by decide +kernel
theorem dX7_order_23 : decode cX7_order 23 = .ok (.iload_n 3, 1) := by decide +kernel
theorem dX7_order_24 : decode cX7_order 24 = .ok (.invokevirtual 245, 3) := by decide +kernel
theorem dX7_order_27 : decode cX7_order 27 = .ok (.iconst (-1), 1) := by decide +kernel
theorem dX7_order_28 : decode cX7_order 28 = .ok (.if_icmp .ne 13, 3) := by decide +kernel
theorem dX7_order_31 : decode cX7_order 31 = .ok (.aload_n 0, 1) := by decide +kernel
theorem dX7_order_32 : decode cX7_order 32 = .ok (.getfield 62, 3) := by decide +kernel
theorem dX7_order_35 : decode cX7_order 35 = .ok (.iload_n 2, 1) := by decide +kernel
theorem dX7_order_36 : decode cX7_order 36 = .ok (.iload_n 3, 1) := by decide +kernel
theorem dX7_order_37 : decode cX7_order 37 = .ok (.iastore, 1) := by decide +kernel
theorem dX7_order_38 : decode cX7_order 38 = .ok (.iinc 2 1, 3) := by decide +kernel
theorem dX7_order_41 : decode cX7_order 41 = .ok (.iinc 3 1, 3) := by decide +kernel
theorem dX7_order_44 : decode cX7_order 44 = .ok (.goto (-30), 3) := by decide +kernel
theorem dX7_order_47 : decode cX7_order 47 = .ok (.iconst (-1), 1) := by decide +kernel
theorem dX7_order_48 : decode cX7_order 48 = .ok (.istore_n 3, 1) := by decide +kernel
theorem dX7_order_49 : decode cX7_order 49 = .ok (.iconst 1, 1) := by decide +kernel
theorem dX7_order_50 : decode cX7_order 50 = .ok (.istore 4, 2) := by decide +kernel
theorem dX7_order_52 : decode cX7_order 52 = .ok (.iload 4, 2) := by decide +kernel
theorem dX7_order_54 : decode cX7_order 54 = .ok (.ifCond .eq 58, 3) := by decide +kernel
theorem dX7_order_57 : decode cX7_order 57 = .ok (.aload_n 0, 1) := by decide +kernel
theorem dX7_order_58 : decode cX7_order 58 = .ok (.iload_n 2, 1) := by decide +kernel
theorem dX7_order_59 : decode cX7_order 59 = .ok (.invokevirtual 308, 3) := by decide +kernel
theorem dX7_order_62 : decode cX7_order 62 = .ok (.istore 5, 2) := by decide +kernel
theorem dX7_order_64 : decode cX7_order 64 = .ok (.iload 5, 2) := by decide +kernel
theorem dX7_order_66 : decode cX7_order 66 = .ok (.iload_n 3, 1) := by decide +kernel
theorem dX7_order_67 : decode cX7_order 67 = .ok (.if_icmp .le 35, 3) := by decide +kernel
theorem dX7_order_70 : decode cX7_order 70 = .ok (.iload 5, 2) := by decide +kernel
theorem dX7_order_72 : decode cX7_order 72 = .ok (.istore_n 3, 1) := by decide +kernel
theorem dX7_order_73 : decode cX7_order 73 = .ok (.iconst 0, 1) := by decide +kernel
theorem dX7_order_74 : decode cX7_order 74 = .ok (.istore 6, 2) := by decide +kernel
theorem dX7_order_76 : decode cX7_order 76 = .ok (.iload 6, 2) := by decide +kernel
theorem dX7_order_78 : decode cX7_order 78 = .ok (.iload_n 2, 1) := by decide +kernel
theorem dX7_order_79 : decode cX7_order 79 = .ok (.if_icmp .ge 23, 3) := by decide +kernel
theorem dX7_order_82 : decode cX7_order 82 = .ok (.aload_n 0, 1) := by decide +kernel
theorem dX7_order_83 : decode cX7_order 83 = .ok (.getfield 65, 3) := by decide +kernel
theorem dX7_order_86 : decode cX7_order 86 = .ok (.iload 6, 2) := by decide +kernel
theorem dX7_order_88 : decode cX7_order 88 = .ok (.aload_n 0, 1) := by decide +kernel
theorem dX7_order_89 : decode cX7_order 89 = .ok (.getfield 62, 3) := by decide +kernel
theorem dX7_order_92 : decode cX7_order 92 = .ok (.iload 6, 2) := by decide +kernel
theorem dX7_order_94 : decode cX7_order 94 = .ok (.iaload, 1) := by decide +kernel
theorem dX7_order_95 : decode cX7_order 95 = .ok (.iastore, 1) := by decide +kernel
theorem dX7_order_96 : decode cX7_order 96 = .ok (.iinc 6 1, 3) := by decide +kernel
theorem dX7_order_99 : decode cX7_order 99 = .ok (.goto (-23), 3) := by decide +kernel
theorem dX7_order_102 : decode cX7_order 102 = .ok (.aload_n 0, 1) := by decide +kernel
theorem dX7_order_103 : decode cX7_order 103 = .ok (.iload_n 2, 1) := by decide +kernel
theorem dX7_order_104 : decode cX7_order 104 = .ok (.invokevirtual 311, 3) := by decide +kernel
theorem dX7_order_107 : decode cX7_order 107 = .ok (.istore 4, 2) := by decide +kernel
theorem dX7_order_109 : decode cX7_order 109 = .ok (.goto (-57), 3) := by decide +kernel
theorem dX7_order_112 : decode cX7_order 112 = .ok (.iload_n 1, 1) := by decide +kernel
theorem dX7_order_113 : decode cX7_order 113 = .ok (.iconst (-1), 1) := by decide +kernel
theorem dX7_order_114 : decode cX7_order 114 = .ok (.if_icmp .ne 7, 3) := by decide +kernel
theorem dX7_order_117 : decode cX7_order 117 = .ok (.iload_n 3, 1) := by decide +kernel
theorem dX7_order_118 : decode cX7_order 118 = .ok (.goto 19, 3) := by decide +kernel
theorem dX7_order_121 : decode cX7_order 121 = .ok (.iload_n 1, 1) := by decide +kernel
theorem dX7_order_122 : decode cX7_order 122 = .ok (.iload_n 2, 1) := by decide +kernel
theorem dX7_order_123 : decode cX7_order 123 = .ok (.if_icmp .ge 12, 3) := by decide +kernel
theorem dX7_order_126 : decode cX7_order 126 = .ok (.aload_n 0, 1) := by decide +kernel
theorem dX7_order_127 : decode cX7_order 127 = .ok (.getfield 65, 3) := by decide +kernel
theorem dX7_order_130 : decode cX7_order 130 = .ok (.iload_n 1, 1) := by decide +kernel
theorem dX7_order_131 : decode cX7_order 131 = .ok (.iaload, 1) := by decide +kernel
theorem dX7_order_132 : decode cX7_order 132 = .ok (.goto 5, 3) := by decide +kernel
theorem dX7_order_135 : decode cX7_order 135 = .ok (.bipush (-5), 2) := by decide +kernel
theorem dX7_order_137 : decode cX7_order 137 = .ok (.ireturn, 1) := by decide +kernel
theorem dX7_goesTo_0 : decode cX7_goesTo 0 = .ok (.aload_n 0, 1) := by decide +kernel
theorem dX7_goesTo_1 : decode cX7_goesTo 1 = .ok (.iload_n 1, 1) := by decide +kernel
theorem dX7_goesTo_2 : decode cX7_goesTo 2 = .ok (.invokevirtual 245, 3) := by decide +kernel
theorem dX7_goesTo_5 : decode cX7_goesTo 5 = .ok (.istore_n 2, 1) := by decide +kernel
theorem dX7_goesTo_6 : decode cX7_goesTo 6 = .ok (.iload_n 2, 1) := by decide +kernel
theorem dX7_goesTo_7 : decode cX7_goesTo 7 = .ok (.iconst (-1), 1) := by decide +kernel
theorem dX7_goesTo_8 : decode cX7_goesTo 8 = .ok (.if_icmp .eq 20, 3) := by decide +kernel
theorem dX7_goesTo_11 : decode cX7_goesTo 11 = .ok (.aload_n 0, 1) := by decide +kernel
theorem dX7_goesTo_12 : decode cX7_goesTo 12 = .ok (.iload_n 2, 1) := by decide +kernel
theorem dX7_goesTo_13 : decode cX7_goesTo 13 = .ok (.invokevirtual 276, 3) := by decide +kernel
theorem dX7_goesTo_16 : decode cX7_goesTo 16 = .ok (.ifCond .eq 12, 3) := by decide +kernel
theorem dX7_goesTo_19 : decode cX7_goesTo 19 = .ok (.iload_n 2, 1) := by decide +kernel
theorem dX7_goesTo_20 : decode cX7_goesTo 20 = .ok (.iload_n 1, 1) := by decide +kernel
theorem dX7_goesTo_21 : decode cX7_goesTo 21 = .ok (.if_icmp .eq 7, 3) := by decide +kernel
theorem dX7_goesTo_24 : decode cX7_goesTo 24 = .ok (.iload_n 2, 1) := by decide +kernel
theorem dX7_goesTo_25 : decode cX7_goesTo 25 = .ok (.goto 4, 3) := by decide +kernel
theorem dX7_goesTo_28 : decode cX7_goesTo 28 = .ok (.iconst (-1), 1) := by decide +kernel
theorem dX7_goesTo_29 : decode cX7_goesTo 29 = .ok (.ireturn, 1) := by decide +kernel
theorem dX7_swaps_0 : decode cX7_swaps 0 = .ok (.iconst 0, 1) := by decide +kernel
theorem dX7_swaps_1 : decode cX7_swaps 1 = .ok (.istore_n 1, 1) := by decide +kernel
theorem dX7_swaps_2 : decode cX7_swaps 2 = .ok (.iconst 0, 1) := by decide +kernel
theorem dX7_swaps_3 : decode cX7_swaps 3 = .ok (.istore_n 2, 1) := by decide +kernel
theorem dX7_swaps_4 : decode cX7_swaps 4 = .ok (.iload_n 2, 1) := by decide +kernel
theorem dX7_swaps_5 : decode cX7_swaps 5 = .ok (.aload_n 0, 1) := by decide +kernel
theorem dX7_swaps_6 : decode cX7_swaps 6 = .ok (.getfield 85, 3) := by decide +kernel
theorem dX7_swaps_9 : decode cX7_swaps 9 = .ok (.if_icmp .ge 72, 3) := by decide +kernel
theorem dX7_swaps_12 : decode cX7_swaps 12 = .ok (.iload_n 1, 1) := by decide +kernel
theorem dX7_swaps_13 : decode cX7_swaps 13 = .ok (.aload_n 0, 1) := by decide +kernel
theorem dX7_swaps_14 : decode cX7_swaps 14 = .ok (.iload_n 2, 1) := by decide +kernel
theorem dX7_swaps_15 : decode cX7_swaps 15 = .ok (.invokevirtual 314, 3) := by decide +kernel
theorem dX7_swaps_18 : decode cX7_swaps 18 = .ok (.iconst (-1), 1) := by decide +kernel
theorem dX7_swaps_19 : decode cX7_swaps 19 = .ok (.if_icmp .eq 7, 3) := by decide +kernel
theorem dX7_swaps_22 : decode cX7_swaps 22 = .ok (.iconst 1, 1) := by decide +kernel
theorem dX7_swaps_23 : decode cX7_swaps 23 = .ok (.goto 4, 3) := by decide +kernel
theorem dX7_swaps_26 : decode cX7_swaps 26 = .ok (.iconst 0, 1) := by decide +kernel
theorem dX7_swaps_27 : decode cX7_swaps 27 = .ok (.iadd, 1) := by decide +kernel
theorem dX7_swaps_28 : decode cX7_swaps 28 = .ok (.istore_n 1, 1) := by decide +kernel
theorem dX7_swaps_29 : decode cX7_swaps 29 = .ok (.aload_n 0, 1) := by decide +kernel
theorem dX7_swaps_30 : decode cX7_swaps 30 = .ok (.iload_n 2, 1) := by decide +kernel
theorem dX7_swaps_31 : decode cX7_swaps 31 = .ok (.invokevirtual 314, 3) := by decide +kernel
theorem dX7_swaps_34 : decode cX7_swaps 34 = .ok (.istore_n 3, 1) := by decide +kernel
theorem dX7_swaps_35 : decode cX7_swaps 35 = .ok (.iconst 0, 1) := by decide +kernel
theorem dX7_swaps_36 : decode cX7_swaps 36 = .ok (.istore 4, 2) := by decide +kernel
theorem dX7_swaps_38 : decode cX7_swaps 38 = .ok (.iload_n 3, 1) := by decide +kernel
theorem dX7_swaps_39 : decode cX7_swaps 39 = .ok (.iload_n 2, 1) := by decide +kernel
theorem dX7_swaps_40 : decode cX7_swaps 40 = .ok (.if_icmp .le 22, 3) := by decide +kernel
theorem dX7_swaps_43 : decode cX7_swaps 43 = .ok (.iload 4, 2) := by decide +kernel
theorem dX7_swaps_45 : decode cX7_swaps 45 = .ok (.bipush 6, 2) := by decide +kernel
theorem dX7_swaps_47 : decode cX7_swaps 47 = .ok (.if_icmp .ge 15, 3) := by decide +kernel
theorem dX7_swaps_50 : decode cX7_swaps 50 = .ok (.aload_n 0, 1) := by decide +kernel
theorem dX7_swaps_51 : decode cX7_swaps 51 = .ok (.iload_n 3, 1) := by decide +kernel
theorem dX7_swaps_52 : decode cX7_swaps 52 = .ok (.invokevirtual 314, 3) := by decide +kernel
theorem dX7_swaps_55 : decode cX7_swaps 55 = .ok (.istore_n 3, 1) := by decide +kernel
theorem dX7_swaps_56 : decode cX7_swaps 56 = .ok (.iinc 4 1, 3) := by decide +kernel
theorem dX7_swaps_59 : decode cX7_swaps 59 = .ok (.goto (-21), 3) := by decide +kernel
theorem dX7_swaps_62 : decode cX7_swaps 62 = .ok (.iload_n 1, 1) := by decide +kernel
theorem dX7_swaps_63 : decode cX7_swaps 63 = .ok (.iload_n 3, 1) := by decide +kernel
theorem dX7_swaps_64 : decode cX7_swaps 64 = .ok (.iload_n 2, 1) := by decide +kernel
theorem dX7_swaps_65 : decode cX7_swaps 65 = .ok (.if_icmp .ne 7, 3) := by decide +kernel
theorem dX7_swaps_68 : decode cX7_swaps 68 = .ok (.iconst 1, 1) := by decide +kernel
theorem dX7_swaps_69 : decode cX7_swaps 69 = .ok (.goto 4, 3) := by decide +kernel
theorem dX7_swaps_72 : decode cX7_swaps 72 = .ok (.iconst 0, 1) := by decide +kernel
theorem dX7_swaps_73 : decode cX7_swaps 73 = .ok (.isub, 1) := by decide +kernel
theorem dX7_swaps_74 : decode cX7_swaps 74 = .ok (.istore_n 1, 1) := by decide +kernel
theorem dX7_swaps_75 : decode cX7_swaps 75 = .ok (.iinc 2 1, 3) := by decide +kernel
theorem dX7_swaps_78 : decode cX7_swaps 78 = .ok (.goto (-74), 3) := by decide +kernel
theorem dX7_swaps_81 : decode cX7_swaps 81 = .ok (.iload_n 1, 1) := by decide +kernel
theorem dX7_swaps_82 : decode cX7_swaps 82 = .ok (.ireturn, 1) := by decide +kernel
theorem dX7_seen_0 : decode cX7_seen 0 = .ok (.iload_n 1, 1) := by decide +kernel
theorem dX7_seen_1 : decode cX7_seen 1 = .ok (.iconst 0, 1) := by decide +kernel
theorem dX7_seen_2 : decode cX7_seen 2 = .ok (.bipush 60, 2) := by decide +kernel
theorem dX7_seen_4 : decode cX7_seen 4 = .ok (.invokestatic 106, 3) := by decide +kernel
theorem dX7_seen_7 : decode cX7_seen 7 = .ok (.ifCond .eq 10, 3) := by decide +kernel
theorem dX7_seen_10 : decode cX7_seen 10 = .ok (.iload_n 2, 1) := by decide +kernel
theorem dX7_seen_11 : decode cX7_seen 11 = .ok (.invokestatic 114, 3) := by decide +kernel
theorem dX7_seen_14 : decode cX7_seen 14 = .ok (.ifCond .ne 8, 3) := by decide +kernel
theorem dX7_seen_17 : decode cX7_seen 17 = .ok (.aload_n 0, 1) := by decide +kernel
theorem dX7_seen_18 : decode cX7_seen 18 = .ok (.invokevirtual 110, 3) := by decide +kernel
theorem dX7_seen_21 : decode cX7_seen 21 = .ok (.ireturn, 1) := by decide +kernel
theorem dX7_seen_22 : decode cX7_seen 22 = .ok (.aload_n 0, 1) := by decide +kernel
theorem dX7_seen_23 : decode cX7_seen 23 = .ok (.getfield 94, 3) := by decide +kernel
theorem dX7_seen_26 : decode cX7_seen 26 = .ok (.iconst 5, 1) := by decide +kernel
theorem dX7_seen_27 : decode cX7_seen 27 = .ok (.if_icmp .ne 8, 3) := by decide +kernel
theorem dX7_seen_30 : decode cX7_seen 30 = .ok (.aload_n 0, 1) := by decide +kernel
theorem dX7_seen_31 : decode cX7_seen 31 = .ok (.invokevirtual 121, 3) := by decide +kernel
theorem dX7_seen_34 : decode cX7_seen 34 = .ok (.ireturn, 1) := by decide +kernel
theorem dX7_seen_35 : decode cX7_seen 35 = .ok (.aload_n 0, 1) := by decide +kernel
theorem dX7_seen_36 : decode cX7_seen 36 = .ok (.getfield 34, 3) := by decide +kernel
theorem dX7_seen_39 : decode cX7_seen 39 = .ok (.iconst 2, 1) := by decide +kernel
theorem dX7_seen_40 : decode cX7_seen 40 = .ok (.aload_n 0, 1) := by decide +kernel
theorem dX7_seen_41 : decode cX7_seen 41 = .ok (.getfield 94, 3) := by decide +kernel
theorem dX7_seen_44 : decode cX7_seen 44 = .ok (.imul, 1) := by decide +kernel
theorem dX7_seen_45 : decode cX7_seen 45 = .ok (.iload_n 1, 1) := by decide +kernel
theorem dX7_seen_46 : decode cX7_seen 46 = .ok (.iastore, 1) := by decide +kernel
theorem dX7_seen_47 : decode cX7_seen 47 = .ok (.aload_n 0, 1) := by decide +kernel
theorem dX7_seen_48 : decode cX7_seen 48 = .ok (.getfield 34, 3) := by decide +kernel
theorem dX7_seen_51 : decode cX7_seen 51 = .ok (.iconst 2, 1) := by decide +kernel
theorem dX7_seen_52 : decode cX7_seen 52 = .ok (.aload_n 0, 1) := by decide +kernel
theorem dX7_seen_53 : decode cX7_seen 53 = .ok (.getfield 94, 3) := by decide +kernel
theorem dX7_seen_56 : decode cX7_seen 56 = .ok (.imul, 1) := by decide +kernel
theorem dX7_seen_57 : decode cX7_seen 57 = .ok (.iconst 1, 1) := by decide +kernel
theorem dX7_seen_58 : decode cX7_seen 58 = .ok (.iadd, 1) := by decide +kernel
theorem dX7_seen_59 : decode cX7_seen 59 = .ok (.iload_n 2, 1) := by decide +kernel
theorem dX7_seen_60 : decode cX7_seen 60 = .ok (.iastore, 1) := by decide +kernel
theorem dX7_seen_61 : decode cX7_seen 61 = .ok (.aload_n 0, 1) := by decide +kernel
theorem dX7_seen_62 : decode cX7_seen 62 = .ok (.dup, 1) := by decide +kernel
theorem dX7_seen_63 : decode cX7_seen 63 = .ok (.getfield 94, 3) := by decide +kernel
theorem dX7_seen_66 : decode cX7_seen 66 = .ok (.iconst 1, 1) := by decide +kernel
theorem dX7_seen_67 : decode cX7_seen 67 = .ok (.iadd, 1) := by decide +kernel
theorem dX7_seen_68 : decode cX7_seen 68 = .ok (.putfield 94, 3) := by decide +kernel
theorem dX7_seen_71 : decode cX7_seen 71 = .ok (.aload_n 0, 1) := by decide +kernel
theorem dX7_seen_72 : decode cX7_seen 72 = .ok (.getfield 94, 3) := by decide +kernel
theorem dX7_seen_75 : decode cX7_seen 75 = .ok (.ireturn, 1) := by decide +kernel
theorem dX7_thoseSeen_0 : decode cX7_thoseSeen 0 = .ok (.iconst 0, 1) := by decide +kernel
theorem dX7_thoseSeen_1 : decode cX7_thoseSeen 1 = .ok (.istore_n 1, 1) := by decide +kernel
theorem dX7_thoseSeen_2 : decode cX7_thoseSeen 2 = .ok (.iconst 0, 1) := by decide +kernel
theorem dX7_thoseSeen_3 : decode cX7_thoseSeen 3 = .ok (.istore_n 2, 1) := by decide +kernel
theorem dX7_thoseSeen_4 : decode cX7_thoseSeen 4 = .ok (.iload_n 2, 1) := by decide +kernel
theorem dX7_thoseSeen_5 : decode cX7_thoseSeen 5 = .ok (.aload_n 0, 1) := by decide +kernel
theorem dX7_thoseSeen_6 : decode cX7_thoseSeen 6 = .ok (.getfield 81, 3) := by decide +kernel
theorem dX7_thoseSeen_9 : decode cX7_thoseSeen 9 = .ok (.if_icmp .ge 97, 3) := by decide +kernel
theorem dX7_thoseSeen_12 : decode cX7_thoseSeen 12 = .ok (.aload_n 0, 1) := by decide +kernel
theorem dX7_thoseSeen_13 : decode cX7_thoseSeen 13 = .ok (.getfield 22, 3) := by decide +kernel
theorem dX7_thoseSeen_16 : decode cX7_thoseSeen 16 = .ok (.iload_n 2, 1) := by decide +kernel
theorem dX7_thoseSeen_17 : decode cX7_thoseSeen 17 = .ok (.iaload, 1) := by decide +kernel
theorem dX7_thoseSeen_18 : decode cX7_thoseSeen 18 = .ok (.ifCond .lt 7, 3) := by decide +kernel
theorem dX7_thoseSeen_21 : decode cX7_thoseSeen 21 = .ok (.iconst 1, 1) := by decide +kernel
theorem dX7_thoseSeen_22 : decode cX7_thoseSeen 22 = .ok (.goto 4, 3) := by decide +kernel
theorem dX7_thoseSeen_25 : decode cX7_thoseSeen 25 = .ok (.iconst 0, 1) := by decide +kernel
theorem dX7_thoseSeen_26 : decode cX7_thoseSeen 26 = .ok (.istore_n 3, 1) := by decide +kernel
theorem dX7_thoseSeen_27 : decode cX7_thoseSeen 27 = .ok (.iconst 0, 1) := by decide +kernel
theorem dX7_thoseSeen_28 : decode cX7_thoseSeen 28 = .ok (.istore 4, 2) := by decide +kernel
theorem dX7_thoseSeen_30 : decode cX7_thoseSeen 30 = .ok (.iload 4, 2) := by decide +kernel
theorem dX7_thoseSeen_32 : decode cX7_thoseSeen 32 = .ok (.iconst 2, 1) := by decide +kernel
theorem dX7_thoseSeen_33 : decode cX7_thoseSeen 33 = .ok (.aload_n 0, 1) := by decide +kernel
theorem dX7_thoseSeen_34 : decode cX7_thoseSeen 34 = .ok (.getfield 94, 3) := by decide +kernel
theorem dX7_thoseSeen_37 : decode cX7_thoseSeen 37 = .ok (.imul, 1) := by decide +kernel
theorem dX7_thoseSeen_38 : decode cX7_thoseSeen 38 = .ok (.if_icmp .ge 48, 3) := by decide +kernel
theorem dX7_thoseSeen_41 : decode cX7_thoseSeen 41 = .ok (.iload_n 3, 1) := by decide +kernel
theorem dX7_thoseSeen_42 : decode cX7_thoseSeen 42 = .ok (.ifCond .eq 44, 3) := by decide +kernel
theorem dX7_thoseSeen_45 : decode cX7_thoseSeen 45 = .ok (.aload_n 0, 1) := by decide +kernel
theorem dX7_thoseSeen_46 : decode cX7_thoseSeen 46 = .ok (.aload_n 0, 1) := by decide +kernel
theorem dX7_thoseSeen_47 : decode cX7_thoseSeen 47 = .ok (.getfield 22, 3) := by decide +kernel
theorem dX7_thoseSeen_50 : decode cX7_thoseSeen 50 = .ok (.iload_n 2, 1) := by decide +kernel
theorem dX7_thoseSeen_51 : decode cX7_thoseSeen 51 = .ok (.iaload, 1) := by decide +kernel
theorem dX7_thoseSeen_52 : decode cX7_thoseSeen 52 = .ok (.aload_n 0, 1) := by decide +kernel
theorem dX7_thoseSeen_53 : decode cX7_thoseSeen 53 = .ok (.getfield 34, 3) := by decide +kernel
theorem dX7_thoseSeen_56 : decode cX7_thoseSeen 56 = .ok (.iload 4, 2) := by decide +kernel
theorem dX7_thoseSeen_58 : decode cX7_thoseSeen 58 = .ok (.iaload, 1) := by decide +kernel
theorem dX7_thoseSeen_59 : decode cX7_thoseSeen 59 = .ok (.invokevirtual 285, 3) := by decide +kernel
theorem dX7_thoseSeen_62 : decode cX7_thoseSeen 62 = .ok (.aload_n 0, 1) := by decide +kernel
theorem dX7_thoseSeen_63 : decode cX7_thoseSeen 63 = .ok (.getfield 34, 3) := by decide +kernel
theorem dX7_thoseSeen_66 : decode cX7_thoseSeen 66 = .ok (.iload 4, 2) := by decide +kernel
theorem dX7_thoseSeen_68 : decode cX7_thoseSeen 68 = .ok (.iconst 1, 1) := by decide +kernel
theorem dX7_thoseSeen_69 : decode cX7_thoseSeen 69 = .ok (.iadd, 1) := by decide +kernel
theorem dX7_thoseSeen_70 : decode cX7_thoseSeen 70 = .ok (.iaload, 1) := by decide +kernel
theorem dX7_thoseSeen_71 : decode cX7_thoseSeen 71 = .ok (.if_icmp .ne 7, 3) := by decide +kernel
theorem dX7_thoseSeen_74 : decode cX7_thoseSeen 74 = .ok (.iconst 1, 1) := by decide +kernel
theorem dX7_thoseSeen_75 : decode cX7_thoseSeen 75 = .ok (.goto 4, 3) := by decide +kernel
theorem dX7_thoseSeen_78 : decode cX7_thoseSeen 78 = .ok (.iconst 0, 1) := by decide +kernel
theorem dX7_thoseSeen_79 : decode cX7_thoseSeen 79 = .ok (.istore_n 3, 1) := by decide +kernel
theorem dX7_thoseSeen_80 : decode cX7_thoseSeen 80 = .ok (.iinc 4 2, 3) := by decide +kernel
theorem dX7_thoseSeen_83 : decode cX7_thoseSeen 83 = .ok (.goto (-53), 3) := by decide +kernel
theorem dX7_thoseSeen_86 : decode cX7_thoseSeen 86 = .ok (.iload_n 1, 1) := by decide +kernel
theorem dX7_thoseSeen_87 : decode cX7_thoseSeen 87 = .ok (.iload_n 3, 1) := by decide +kernel
theorem dX7_thoseSeen_88 : decode cX7_thoseSeen 88 = .ok (.ifCond .eq 9, 3) := by decide +kernel
theorem dX7_thoseSeen_91 : decode cX7_thoseSeen 91 = .ok (.iconst 1, 1) := by decide +kernel
theorem dX7_thoseSeen_92 : decode cX7_thoseSeen 92 = .ok (.iload_n 2, 1) := by decide +kernel
theorem dX7_thoseSeen_93 : decode cX7_thoseSeen 93 = .ok (.ishl, 1) := by decide +kernel
theorem dX7_thoseSeen_94 : decode cX7_thoseSeen 94 = .ok (.goto 4, 3) := by decide +kernel
theorem dX7_thoseSeen_97 : decode cX7_thoseSeen 97 = .ok (.iconst 0, 1) := by decide +kernel
theorem dX7_thoseSeen_98 : decode cX7_thoseSeen 98 = .ok (.ior, 1) := by decide +kernel
theorem dX7_thoseSeen_99 : decode cX7_thoseSeen 99 = .ok (.istore_n 1, 1) := by decide +kernel
theorem dX7_thoseSeen_100 : decode cX7_thoseSeen 100 = .ok (.iinc 2 1, 3) := by decide +kernel
theorem dX7_thoseSeen_103 : decode cX7_thoseSeen 103 = .ok (.goto (-99), 3) := by decide +kernel
theorem dX7_thoseSeen_106 : decode cX7_thoseSeen 106 = .ok (.iload_n 1, 1) := by decide +kernel
theorem dX7_thoseSeen_107 : decode cX7_thoseSeen 107 = .ok (.ireturn, 1) := by decide +kernel
theorem dX7_which_0 : decode cX7_which 0 = .ok (.aload_n 0, 1) := by decide +kernel
theorem dX7_which_1 : decode cX7_which 1 = .ok (.invokevirtual 317, 3) := by decide +kernel
theorem dX7_which_4 : decode cX7_which 4 = .ok (.ireturn, 1) := by decide +kernel
theorem dX7_tell_0 : decode cX7_tell 0 = .ok (.aload_n 0, 1) := by decide +kernel
theorem dX7_tell_1 : decode cX7_tell 1 = .ok (.invokevirtual 317, 3) := by decide +kernel
theorem dX7_tell_4 : decode cX7_tell 4 = .ok (.istore_n 1, 1) := by decide +kernel
theorem dX7_tell_5 : decode cX7_tell 5 = .ok (.iconst (-1), 1) := by decide +kernel
theorem dX7_tell_6 : decode cX7_tell 6 = .ok (.istore_n 2, 1) := by decide +kernel
theorem dX7_tell_7 : decode cX7_tell 7 = .ok (.ldc_w 320, 3) := by decide +kernel
theorem dX7_tell_10 : decode cX7_tell 10 = .ok (.istore_n 3, 1) := by decide +kernel
theorem dX7_tell_11 : decode cX7_tell 11 = .ok (.iconst 0, 1) := by decide +kernel
theorem dX7_tell_12 : decode cX7_tell 12 = .ok (.istore 4, 2) := by decide +kernel
theorem dX7_tell_14 : decode cX7_tell 14 = .ok (.iload 4, 2) := by decide +kernel
theorem dX7_tell_16 : decode cX7_tell 16 = .ok (.bipush 20, 2) := by decide +kernel
theorem dX7_tell_18 : decode cX7_tell 18 = .ok (.if_icmp .gt 153, 3) := by decide +kernel
theorem dX7_tell_21 : decode cX7_tell 21 = .ok (.iload_n 1, 1) := by decide +kernel
theorem dX7_tell_22 : decode cX7_tell 22 = .ok (.ifCond .eq 149, 3) := by decide +kernel
theorem dX7_tell_25 : decode cX7_tell 25 = .ok (.iconst 0, 1) := by decide +kernel
theorem dX7_tell_26 : decode cX7_tell 26 = .ok (.istore 5, 2) := by decide +kernel
theorem dX7_tell_28 : decode cX7_tell 28 = .ok (.iconst 0, 1) := by decide +kernel
theorem dX7_tell_29 : decode cX7_tell 29 = .ok (.istore 6, 2) := by decide +kernel
theorem dX7_tell_31 : decode cX7_tell 31 = .ok (.iload 6, 2) := by decide +kernel
theorem dX7_tell_33 : decode cX7_tell 33 = .ok (.aload_n 0, 1) := by decide +kernel
theorem dX7_tell_34 : decode cX7_tell 34 = .ok (.getfield 81, 3) := by decide +kernel
theorem dX7_tell_37 : decode cX7_tell 37 = .ok (.if_icmp .ge 108, 3) := by decide +kernel
theorem dX7_tell_40 : decode cX7_tell 40 = .ok (.iconst 0, 1) := by decide +kernel
theorem dX7_tell_41 : decode cX7_tell 41 = .ok (.istore 7, 2) := by decide +kernel
theorem dX7_tell_43 : decode cX7_tell 43 = .ok (.iconst 0, 1) := by decide +kernel
theorem dX7_tell_44 : decode cX7_tell 44 = .ok (.istore 8, 2) := by decide +kernel
theorem dX7_tell_46 : decode cX7_tell 46 = .ok (.iload 8, 2) := by decide +kernel
theorem dX7_tell_48 : decode cX7_tell 48 = .ok (.aload_n 0, 1) := by decide +kernel
theorem dX7_tell_49 : decode cX7_tell 49 = .ok (.getfield 81, 3) := by decide +kernel
theorem dX7_tell_52 : decode cX7_tell 52 = .ok (.if_icmp .ge 78, 3) := by decide +kernel
theorem dX7_tell_55 : decode cX7_tell 55 = .ok (.iload_n 1, 1) := by decide +kernel
theorem dX7_tell_56 : decode cX7_tell 56 = .ok (.iload 6, 2) := by decide +kernel
theorem dX7_tell_58 : decode cX7_tell 58 = .ok (.invokestatic 295, 3) := by decide +kernel
theorem dX7_tell_61 : decode cX7_tell 61 = .ok (.ifCond .eq 16, 3) := by decide +kernel
theorem dX7_tell_64 : decode cX7_tell 64 = .ok (.iload_n 1, 1) := by decide +kernel
theorem dX7_tell_65 : decode cX7_tell 65 = .ok (.iload 8, 2) := by decide +kernel
theorem dX7_tell_67 : decode cX7_tell 67 = .ok (.invokestatic 295, 3) := by decide +kernel
theorem dX7_tell_70 : decode cX7_tell 70 = .ok (.ifCond .eq 7, 3) := by decide +kernel
theorem dX7_tell_73 : decode cX7_tell 73 = .ok (.iconst 1, 1) := by decide +kernel
theorem dX7_tell_74 : decode cX7_tell 74 = .ok (.goto 4, 3) := by decide +kernel
theorem dX7_tell_77 : decode cX7_tell 77 = .ok (.iconst 0, 1) := by decide +kernel
theorem dX7_tell_78 : decode cX7_tell 78 = .ok (.istore 9, 2) := by decide +kernel
theorem dX7_tell_80 : decode cX7_tell 80 = .ok (.iload 7, 2) := by decide +kernel
theorem dX7_tell_82 : decode cX7_tell 82 = .ok (.iload 9, 2) := by decide +kernel
theorem dX7_tell_84 : decode cX7_tell 84 = .ok (.ifCond .eq 36, 3) := by decide +kernel
theorem dX7_tell_87 : decode cX7_tell 87 = .ok (.aload_n 0, 1) := by decide +kernel
theorem dX7_tell_88 : decode cX7_tell 88 = .ok (.aload_n 0, 1) := by decide +kernel
theorem dX7_tell_89 : decode cX7_tell 89 = .ok (.getfield 22, 3) := by decide +kernel
theorem dX7_tell_92 : decode cX7_tell 92 = .ok (.iload 6, 2) := by decide +kernel
theorem dX7_tell_94 : decode cX7_tell 94 = .ok (.iaload, 1) := by decide +kernel
theorem dX7_tell_95 : decode cX7_tell 95 = .ok (.iload 4, 2) := by decide +kernel
theorem dX7_tell_97 : decode cX7_tell 97 = .ok (.invokevirtual 285, 3) := by decide +kernel
theorem dX7_tell_100 : decode cX7_tell 100 = .ok (.aload_n 0, 1) := by decide +kernel
theorem dX7_tell_101 : decode cX7_tell 101 = .ok (.aload_n 0, 1) := by decide +kernel
theorem dX7_tell_102 : decode cX7_tell 102 = .ok (.getfield 22, 3) := by decide +kernel
theorem dX7_tell_105 : decode cX7_tell 105 = .ok (.iload 8, 2) := by decide +kernel
theorem dX7_tell_107 : decode cX7_tell 107 = .ok (.iaload, 1) := by decide +kernel
theorem dX7_tell_108 : decode cX7_tell 108 = .ok (.iload 4, 2) := by decide +kernel
theorem dX7_tell_110 : decode cX7_tell 110 = .ok (.invokevirtual 285, 3) := by decide +kernel
theorem dX7_tell_113 : decode cX7_tell 113 = .ok (.if_icmp .ne 7, 3) := by decide +kernel
theorem dX7_tell_116 : decode cX7_tell 116 = .ok (.iconst 1, 1) := by decide +kernel
theorem dX7_tell_117 : decode cX7_tell 117 = .ok (.goto 4, 3) := by decide +kernel
theorem dX7_tell_120 : decode cX7_tell 120 = .ok (.iconst 0, 1) := by decide +kernel
theorem dX7_tell_121 : decode cX7_tell 121 = .ok (.iadd, 1) := by decide +kernel
theorem dX7_tell_122 : decode cX7_tell 122 = .ok (.istore 7, 2) := by decide +kernel
theorem dX7_tell_124 : decode cX7_tell 124 = .ok (.iinc 8 1, 3) := by decide +kernel
theorem dX7_tell_127 : decode cX7_tell 127 = .ok (.goto (-81), 3) := by decide +kernel
theorem dX7_tell_130 : decode cX7_tell 130 = .ok (.iload 5, 2) := by decide +kernel
theorem dX7_tell_132 : decode cX7_tell 132 = .ok (.iload 7, 2) := by decide +kernel
theorem dX7_tell_134 : decode cX7_tell 134 = .ok (.invokestatic 214, 3) := by decide +kernel
theorem dX7_tell_137 : decode cX7_tell 137 = .ok (.istore 5, 2) := by decide +kernel
theorem dX7_tell_139 : decode cX7_tell 139 = .ok (.iinc 6 1, 3) := by decide +kernel
theorem dX7_tell_142 : decode cX7_tell 142 = .ok (.goto (-111), 3) := by decide +kernel
theorem dX7_tell_145 : decode cX7_tell 145 = .ok (.iload 5, 2) := by decide +kernel
theorem dX7_tell_147 : decode cX7_tell 147 = .ok (.iload_n 3, 1) := by decide +kernel
theorem dX7_tell_148 : decode cX7_tell 148 = .ok (.if_icmp .ge 8, 3) := by decide +kernel
theorem dX7_tell_151 : decode cX7_tell 151 = .ok (.iload 4, 2) := by decide +kernel
theorem dX7_tell_153 : decode cX7_tell 153 = .ok (.goto 4, 3) := by decide +kernel
theorem dX7_tell_156 : decode cX7_tell 156 = .ok (.iload_n 2, 1) := by decide +kernel
theorem dX7_tell_157 : decode cX7_tell 157 = .ok (.istore_n 2, 1) := by decide +kernel
theorem dX7_tell_158 : decode cX7_tell 158 = .ok (.iload_n 3, 1) := by decide +kernel
theorem dX7_tell_159 : decode cX7_tell 159 = .ok (.iload 5, 2) := by decide +kernel
theorem dX7_tell_161 : decode cX7_tell 161 = .ok (.invokestatic 218, 3) := by decide +kernel
theorem dX7_tell_164 : decode cX7_tell 164 = .ok (.istore_n 3, 1) := by decide +kernel
theorem dX7_tell_165 : decode cX7_tell 165 = .ok (.iinc 4 1, 3) := by decide +kernel
theorem dX7_tell_168 : decode cX7_tell 168 = .ok (.goto (-154), 3) := by decide +kernel
theorem dX7_tell_171 : decode cX7_tell 171 = .ok (.iload_n 2, 1) := by decide +kernel
theorem dX7_tell_172 : decode cX7_tell 172 = .ok (.ireturn, 1) := by decide +kernel
theorem dX7_note_0 : decode cX7_note 0 = .ok (.aload_n 0, 1) := by decide +kernel
theorem dX7_note_1 : decode cX7_note 1 = .ok (.iload_n 1, 1) := by decide +kernel
theorem dX7_note_2 : decode cX7_note 2 = .ok (.invokevirtual 230, 3) := by decide +kernel
theorem dX7_note_5 : decode cX7_note 5 = .ok (.ifCond .eq 34, 3) := by decide +kernel
theorem dX7_note_8 : decode cX7_note 8 = .ok (.iload_n 2, 1) := by decide +kernel
theorem dX7_note_9 : decode cX7_note 9 = .ok (.iconst 1, 1) := by decide +kernel
theorem dX7_note_10 : decode cX7_note 10 = .ok (.bipush 9, 2) := by decide +kernel
theorem dX7_note_12 : decode cX7_note 12 = .ok (.invokestatic 106, 3) := by decide +kernel
theorem dX7_note_15 : decode cX7_note 15 = .ok (.ifCond .eq 24, 3) := by decide +kernel
theorem dX7_note_18 : decode cX7_note 18 = .ok (.iload_n 3, 1) := by decide +kernel
theorem dX7_note_19 : decode cX7_note 19 = .ok (.iconst 0, 1) := by decide +kernel
theorem dX7_note_20 : decode cX7_note 20 = .ok (.bipush 99, 2) := by decide +kernel
theorem dX7_note_22 : decode cX7_note 22 = .ok (.invokestatic 106, 3) := by decide +kernel
theorem dX7_note_25 : decode cX7_note 25 = .ok (.ifCond .eq 14, 3) := by decide +kernel
theorem dX7_note_28 : decode cX7_note 28 = .ok (.iload 4, 2) := by decide +kernel
theorem dX7_note_30 : decode cX7_note 30 = .ok (.iconst 0, 1) := by decide +kernel
theorem dX7_note_31 : decode cX7_note 31 = .ok (.bipush 30, 2) := by decide +kernel
theorem dX7_note_33 : decode cX7_note 33 = .ok (.invokestatic 106, 3) := by decide +kernel
theorem dX7_note_36 : decode cX7_note 36 = .ok (.ifCond .ne 8, 3) := by decide +kernel
theorem dX7_note_39 : decode cX7_note 39 = .ok (.aload_n 0, 1) := by decide +kernel
theorem dX7_note_40 : decode cX7_note 40 = .ok (.invokevirtual 110, 3) := by decide +kernel
theorem dX7_note_43 : decode cX7_note 43 = .ok (.ireturn, 1) := by decide +kernel
theorem dX7_note_44 : decode cX7_note 44 = .ok (.aload_n 0, 1) := by decide +kernel
theorem dX7_note_45 : decode cX7_note 45 = .ok (.getfield 97, 3) := by decide +kernel
theorem dX7_note_48 : decode cX7_note 48 = .ok (.bipush 6, 2) := by decide +kernel
theorem dX7_note_50 : decode cX7_note 50 = .ok (.if_icmp .ne 8, 3) := by decide +kernel
theorem dX7_note_53 : decode cX7_note 53 = .ok (.aload_n 0, 1) := by decide +kernel
theorem dX7_note_54 : decode cX7_note 54 = .ok (.invokevirtual 121, 3) := by decide +kernel
theorem dX7_note_57 : decode cX7_note 57 = .ok (.ireturn, 1) := by decide +kernel
theorem dX7_note_58 : decode cX7_note 58 = .ok (.aload_n 0, 1) := by decide +kernel
theorem dX7_note_59 : decode cX7_note 59 = .ok (.getfield 37, 3) := by decide +kernel
theorem dX7_note_62 : decode cX7_note 62 = .ok (.iconst 4, 1) := by decide +kernel
theorem dX7_note_63 : decode cX7_note 63 = .ok (.aload_n 0, 1) := by decide +kernel
theorem dX7_note_64 : decode cX7_note 64 = .ok (.getfield 97, 3) := by decide +kernel
theorem dX7_note_67 : decode cX7_note 67 = .ok (.imul, 1) := by decide +kernel
theorem dX7_note_68 : decode cX7_note 68 = .ok (.iload_n 1, 1) := by decide +kernel
theorem dX7_note_69 : decode cX7_note 69 = .ok (.iastore, 1) := by decide +kernel
theorem dX7_note_70 : decode cX7_note 70 = .ok (.aload_n 0, 1) := by decide +kernel
theorem dX7_note_71 : decode cX7_note 71 = .ok (.getfield 37, 3) := by decide +kernel
theorem dX7_note_74 : decode cX7_note 74 = .ok (.iconst 4, 1) := by decide +kernel
theorem dX7_note_75 : decode cX7_note 75 = .ok (.aload_n 0, 1) := by decide +kernel
theorem dX7_note_76 : decode cX7_note 76 = .ok (.getfield 97, 3) := by decide +kernel
theorem dX7_note_79 : decode cX7_note 79 = .ok (.imul, 1) := by decide +kernel
theorem dX7_note_80 : decode cX7_note 80 = .ok (.iconst 1, 1) := by decide +kernel
theorem dX7_note_81 : decode cX7_note 81 = .ok (.iadd, 1) := by decide +kernel
theorem dX7_note_82 : decode cX7_note 82 = .ok (.iload_n 2, 1) := by decide +kernel
theorem dX7_note_83 : decode cX7_note 83 = .ok (.iastore, 1) := by decide +kernel
theorem dX7_note_84 : decode cX7_note 84 = .ok (.aload_n 0, 1) := by decide +kernel
theorem dX7_note_85 : decode cX7_note 85 = .ok (.getfield 37, 3) := by decide +kernel
theorem dX7_note_88 : decode cX7_note 88 = .ok (.iconst 4, 1) := by decide +kernel
theorem dX7_note_89 : decode cX7_note 89 = .ok (.aload_n 0, 1) := by decide +kernel
theorem dX7_note_90 : decode cX7_note 90 = .ok (.getfield 97, 3) := by decide +kernel
theorem dX7_note_93 : decode cX7_note 93 = .ok (.imul, 1) := by decide +kernel
theorem dX7_note_94 : decode cX7_note 94 = .ok (.iconst 2, 1) := by decide +kernel
theorem dX7_note_95 : decode cX7_note 95 = .ok (.iadd, 1) := by decide +kernel
theorem dX7_note_96 : decode cX7_note 96 = .ok (.iload_n 3, 1) := by decide +kernel
theorem dX7_note_97 : decode cX7_note 97 = .ok (.iastore, 1) := by decide +kernel
theorem dX7_note_98 : decode cX7_note 98 = .ok (.aload_n 0, 1) := by decide +kernel
theorem dX7_note_99 : decode cX7_note 99 = .ok (.getfield 37, 3) := by decide +kernel
theorem dX7_note_102 : decode cX7_note 102 = .ok (.iconst 4, 1) := by decide +kernel
theorem dX7_note_103 : decode cX7_note 103 = .ok (.aload_n 0, 1) := by decide +kernel
theorem dX7_note_104 : decode cX7_note 104 = .ok (.getfield 97, 3) := by decide +kernel
theorem dX7_note_107 : decode cX7_note 107 = .ok (.imul, 1) := by decide +kernel
theorem dX7_note_108 : decode cX7_note 108 = .ok (.iconst 3, 1) := by decide +kernel
theorem dX7_note_109 : decode cX7_note 109 = .ok (.iadd, 1) := by decide +kernel
theorem dX7_note_110 : decode cX7_note 110 = .ok (.iload 4, 2) := by decide +kernel
theorem dX7_note_112 : decode cX7_note 112 = .ok (.iastore, 1) := by decide +kernel
theorem dX7_note_113 : decode cX7_note 113 = .ok (.aload_n 0, 1) := by decide +kernel
theorem dX7_note_114 : decode cX7_note 114 = .ok (.dup, 1) := by decide +kernel
theorem dX7_note_115 : decode cX7_note 115 = .ok (.getfield 97, 3) := by decide +kernel
theorem dX7_note_118 : decode cX7_note 118 = .ok (.iconst 1, 1) := by decide +kernel
theorem dX7_note_119 : decode cX7_note 119 = .ok (.iadd, 1) := by decide +kernel
theorem dX7_note_120 : decode cX7_note 120 = .ok (.putfield 97, 3) := by decide +kernel
theorem dX7_note_123 : decode cX7_note 123 = .ok (.aload_n 0, 1) := by decide +kernel
theorem dX7_note_124 : decode cX7_note 124 = .ok (.getfield 97, 3) := by decide +kernel
theorem dX7_note_127 : decode cX7_note 127 = .ok (.ireturn, 1) := by decide +kernel
theorem dX7_mark_0 : decode cX7_mark 0 = .ok (.aload_n 0, 1) := by decide +kernel
theorem dX7_mark_1 : decode cX7_mark 1 = .ok (.iload_n 1, 1) := by decide +kernel
theorem dX7_mark_2 : decode cX7_mark 2 = .ok (.invokevirtual 276, 3) := by decide +kernel
theorem dX7_mark_5 : decode cX7_mark 5 = .ok (.ifCond .eq 23, 3) := by decide +kernel
theorem dX7_mark_8 : decode cX7_mark 8 = .ok (.iload_n 2, 1) := by decide +kernel
theorem dX7_mark_9 : decode cX7_mark 9 = .ok (.iconst 0, 1) := by decide +kernel
theorem dX7_mark_10 : decode cX7_mark 10 = .ok (.bipush 30, 2) := by decide +kernel
theorem dX7_mark_12 : decode cX7_mark 12 = .ok (.invokestatic 106, 3) := by decide +kernel
theorem dX7_mark_15 : decode cX7_mark 15 = .ok (.ifCond .eq 13, 3) := by decide +kernel
theorem dX7_mark_18 : decode cX7_mark 18 = .ok (.iload_n 3, 1) := by decide +kernel
theorem dX7_mark_19 : decode cX7_mark 19 = .ok (.iconst 0, 1) := by decide +kernel
theorem dX7_mark_20 : decode cX7_mark 20 = .ok (.bipush 60, 2) := by decide +kernel
theorem dX7_mark_22 : decode cX7_mark 22 = .ok (.invokestatic 106, 3) := by decide +kernel
theorem dX7_mark_25 : decode cX7_mark 25 = .ok (.ifCond .ne 8, 3) := by decide +kernel
theorem dX7_mark_28 : decode cX7_mark 28 = .ok (.aload_n 0, 1) := by decide +kernel
theorem dX7_mark_29 : decode cX7_mark 29 = .ok (.invokevirtual 110, 3) := by decide +kernel
theorem dX7_mark_32 : decode cX7_mark 32 = .ok (.ireturn, 1) := by decide +kernel
theorem dX7_mark_33 : decode cX7_mark 33 = .ok (.aload_n 0, 1) := by decide +kernel
theorem dX7_mark_34 : decode cX7_mark 34 = .ok (.getfield 100, 3) := by decide +kernel
theorem dX7_mark_37 : decode cX7_mark 37 = .ok (.bipush 6, 2) := by decide +kernel
theorem dX7_mark_39 : decode cX7_mark 39 = .ok (.if_icmp .ne 8, 3) := by decide +kernel
theorem dX7_mark_42 : decode cX7_mark 42 = .ok (.aload_n 0, 1) := by decide +kernel
theorem dX7_mark_43 : decode cX7_mark 43 = .ok (.invokevirtual 121, 3) := by decide +kernel
theorem dX7_mark_46 : decode cX7_mark 46 = .ok (.ireturn, 1) := by decide +kernel
theorem dX7_mark_47 : decode cX7_mark 47 = .ok (.aload_n 0, 1) := by decide +kernel
theorem dX7_mark_48 : decode cX7_mark 48 = .ok (.getfield 40, 3) := by decide +kernel
theorem dX7_mark_51 : decode cX7_mark 51 = .ok (.iconst 3, 1) := by decide +kernel
theorem dX7_mark_52 : decode cX7_mark 52 = .ok (.aload_n 0, 1) := by decide +kernel
theorem dX7_mark_53 : decode cX7_mark 53 = .ok (.getfield 100, 3) := by decide +kernel
theorem dX7_mark_56 : decode cX7_mark 56 = .ok (.imul, 1) := by decide +kernel
theorem dX7_mark_57 : decode cX7_mark 57 = .ok (.iload_n 1, 1) := by decide +kernel
theorem dX7_mark_58 : decode cX7_mark 58 = .ok (.iastore, 1) := by decide +kernel
theorem dX7_mark_59 : decode cX7_mark 59 = .ok (.aload_n 0, 1) := by decide +kernel
theorem dX7_mark_60 : decode cX7_mark 60 = .ok (.getfield 40, 3) := by decide +kernel
theorem dX7_mark_63 : decode cX7_mark 63 = .ok (.iconst 3, 1) := by decide +kernel
theorem dX7_mark_64 : decode cX7_mark 64 = .ok (.aload_n 0, 1) := by decide +kernel
theorem dX7_mark_65 : decode cX7_mark 65 = .ok (.getfield 100, 3) := by decide +kernel
theorem dX7_mark_68 : decode cX7_mark 68 = .ok (.imul, 1) := by decide +kernel
theorem dX7_mark_69 : decode cX7_mark 69 = .ok (.iconst 1, 1) := by decide +kernel
theorem dX7_mark_70 : decode cX7_mark 70 = .ok (.iadd, 1) := by decide +kernel
theorem dX7_mark_71 : decode cX7_mark 71 = .ok (.iload_n 2, 1) := by decide +kernel
theorem dX7_mark_72 : decode cX7_mark 72 = .ok (.iastore, 1) := by decide +kernel
theorem dX7_mark_73 : decode cX7_mark 73 = .ok (.aload_n 0, 1) := by decide +kernel
theorem dX7_mark_74 : decode cX7_mark 74 = .ok (.getfield 40, 3) := by decide +kernel
theorem dX7_mark_77 : decode cX7_mark 77 = .ok (.iconst 3, 1) := by decide +kernel
theorem dX7_mark_78 : decode cX7_mark 78 = .ok (.aload_n 0, 1) := by decide +kernel
theorem dX7_mark_79 : decode cX7_mark 79 = .ok (.getfield 100, 3) := by decide +kernel
theorem dX7_mark_82 : decode cX7_mark 82 = .ok (.imul, 1) := by decide +kernel
theorem dX7_mark_83 : decode cX7_mark 83 = .ok (.iconst 2, 1) := by decide +kernel
theorem dX7_mark_84 : decode cX7_mark 84 = .ok (.iadd, 1) := by decide +kernel
theorem dX7_mark_85 : decode cX7_mark 85 = .ok (.iload_n 3, 1) := by decide +kernel
theorem dX7_mark_86 : decode cX7_mark 86 = .ok (.iastore, 1) := by decide +kernel
theorem dX7_mark_87 : decode cX7_mark 87 = .ok (.aload_n 0, 1) := by decide +kernel
theorem dX7_mark_88 : decode cX7_mark 88 = .ok (.dup, 1) := by decide +kernel
theorem dX7_mark_89 : decode cX7_mark 89 = .ok (.getfield 100, 3) := by decide +kernel
theorem dX7_mark_92 : decode cX7_mark 92 = .ok (.iconst 1, 1) := by decide +kernel
theorem dX7_mark_93 : decode cX7_mark 93 = .ok (.iadd, 1) := by decide +kernel
theorem dX7_mark_94 : decode cX7_mark 94 = .ok (.putfield 100, 3) := by decide +kernel
theorem dX7_mark_97 : decode cX7_mark 97 = .ok (.aload_n 0, 1) := by decide +kernel
theorem dX7_mark_98 : decode cX7_mark 98 = .ok (.getfield 100, 3) := by decide +kernel
theorem dX7_mark_101 : decode cX7_mark 101 = .ok (.ireturn, 1) := by decide +kernel
theorem dX7_forget_0 : decode cX7_forget 0 = .ok (.iload_n 1, 1) := by decide +kernel
theorem dX7_forget_1 : decode cX7_forget 1 = .ok (.iconst 0, 1) := by decide +kernel
theorem dX7_forget_2 : decode cX7_forget 2 = .ok (.iconst 2, 1) := by decide +kernel
theorem dX7_forget_3 : decode cX7_forget 3 = .ok (.invokestatic 106, 3) := by decide +kernel
theorem dX7_forget_6 : decode cX7_forget 6 = .ok (.ifCond .ne 8, 3) := by decide +kernel
theorem dX7_forget_9 : decode cX7_forget 9 = .ok (.aload_n 0, 1) := by decide +kernel
theorem dX7_forget_10 : decode cX7_forget 10 = .ok (.invokevirtual 110, 3) := by decide +kernel
theorem dX7_forget_13 : decode cX7_forget 13 = .ok (.ireturn, 1) := by decide +kernel
theorem dX7_forget_14 : decode cX7_forget 14 = .ok (.iload_n 1, 1) := by decide +kernel
theorem dX7_forget_15 : decode cX7_forget 15 = .ok (.ifCond .ne 10, 3) := by decide +kernel
theorem dX7_forget_18 : decode cX7_forget 18 = .ok (.aload_n 0, 1) := by decide +kernel
theorem dX7_forget_19 : decode cX7_forget 19 = .ok (.getfield 94, 3) := by decide +kernel
theorem dX7_forget_22 : decode cX7_forget 22 = .ok (.goto 19, 3) := by decide +kernel
theorem dX7_forget_25 : decode cX7_forget 25 = .ok (.iload_n 1, 1) := by decide +kernel
theorem dX7_forget_26 : decode cX7_forget 26 = .ok (.iconst 1, 1) := by decide +kernel
theorem dX7_forget_27 : decode cX7_forget 27 = .ok (.if_icmp .ne 10, 3) := by decide +kernel
theorem dX7_forget_30 : decode cX7_forget 30 = .ok (.aload_n 0, 1) := by decide +kernel
theorem dX7_forget_31 : decode cX7_forget 31 = .ok (.getfield 97, 3) := by decide +kernel
theorem dX7_forget_34 : decode cX7_forget 34 = .ok (.goto 7, 3) := by decide +kernel
theorem dX7_forget_37 : decode cX7_forget 37 = .ok (.aload_n 0, 1) := by decide +kernel
theorem dX7_forget_38 : decode cX7_forget 38 = .ok (.getfield 100, 3) := by decide +kernel
theorem dX7_forget_41 : decode cX7_forget 41 = .ok (.istore_n 2, 1) := by decide +kernel
theorem dX7_forget_42 : decode cX7_forget 42 = .ok (.aload_n 0, 1) := by decide +kernel
theorem dX7_forget_43 : decode cX7_forget 43 = .ok (.iload_n 1, 1) := by decide +kernel
theorem dX7_forget_44 : decode cX7_forget 44 = .ok (.ifCond .ne 7, 3) := by decide +kernel
theorem dX7_forget_47 : decode cX7_forget 47 = .ok (.iconst 0, 1) := by decide +kernel
theorem dX7_forget_48 : decode cX7_forget 48 = .ok (.goto 7, 3) := by decide +kernel
theorem dX7_forget_51 : decode cX7_forget 51 = .ok (.aload_n 0, 1) := by decide +kernel
theorem dX7_forget_52 : decode cX7_forget 52 = .ok (.getfield 94, 3) := by decide +kernel
theorem dX7_forget_55 : decode cX7_forget 55 = .ok (.putfield 94, 3) := by decide +kernel
theorem dX7_forget_58 : decode cX7_forget 58 = .ok (.aload_n 0, 1) := by decide +kernel
theorem dX7_forget_59 : decode cX7_forget 59 = .ok (.iload_n 1, 1) := by decide +kernel
theorem dX7_forget_60 : decode cX7_forget 60 = .ok (.iconst 1, 1) := by decide +kernel
theorem dX7_forget_61 : decode cX7_forget 61 = .ok (.if_icmp .ne 7, 3) := by decide +kernel
theorem dX7_forget_64 : decode cX7_forget 64 = .ok (.iconst 0, 1) := by decide +kernel
theorem dX7_forget_65 : decode cX7_forget 65 = .ok (.goto 7, 3) := by decide +kernel
theorem dX7_forget_68 : decode cX7_forget 68 = .ok (.aload_n 0, 1) := by decide +kernel
theorem dX7_forget_69 : decode cX7_forget 69 = .ok (.getfield 97, 3) := by decide +kernel
theorem dX7_forget_72 : decode cX7_forget 72 = .ok (.putfield 97, 3) := by decide +kernel
theorem dX7_forget_75 : decode cX7_forget 75 = .ok (.aload_n 0, 1) := by decide +kernel
theorem dX7_forget_76 : decode cX7_forget 76 = .ok (.iload_n 1, 1) := by decide +kernel
theorem dX7_forget_77 : decode cX7_forget 77 = .ok (.iconst 2, 1) := by decide +kernel
theorem dX7_forget_78 : decode cX7_forget 78 = .ok (.if_icmp .ne 7, 3) := by decide +kernel
theorem dX7_forget_81 : decode cX7_forget 81 = .ok (.iconst 0, 1) := by decide +kernel
theorem dX7_forget_82 : decode cX7_forget 82 = .ok (.goto 7, 3) := by decide +kernel
theorem dX7_forget_85 : decode cX7_forget 85 = .ok (.aload_n 0, 1) := by decide +kernel
theorem dX7_forget_86 : decode cX7_forget 86 = .ok (.getfield 100, 3) := by decide +kernel
theorem dX7_forget_89 : decode cX7_forget 89 = .ok (.putfield 100, 3) := by decide +kernel
theorem dX7_forget_92 : decode cX7_forget 92 = .ok (.iload_n 2, 1) := by decide +kernel
theorem dX7_forget_93 : decode cX7_forget 93 = .ok (.ireturn, 1) := by decide +kernel
theorem dX7_soulKinds_0 : decode cX7_soulKinds 0 = .ok (.iconst 0, 1) := by decide +kernel
theorem dX7_soulKinds_1 : decode cX7_soulKinds 1 = .ok (.istore_n 2, 1) := by decide +kernel
theorem dX7_soulKinds_2 : decode cX7_soulKinds 2 = .ok (.iconst 0, 1) := by decide +kernel
theorem dX7_soulKinds_3 : decode cX7_soulKinds 3 = .ok (.istore_n 3, 1) := by decide +kernel
theorem dX7_soulKinds_4 : decode cX7_soulKinds 4 = .ok (.iload_n 3, 1) := by decide +kernel
theorem dX7_soulKinds_5 : decode cX7_soulKinds 5 = .ok (.iconst 5, 1) := by decide +kernel
theorem dX7_soulKinds_6 : decode cX7_soulKinds 6 = .ok (.if_icmp .gt 116, 3) := by decide +kernel
theorem dX7_soulKinds_9 : decode cX7_soulKinds 9 = .ok (.iconst 1, 1) := by decide +kernel
theorem dX7_soulKinds_10 : decode cX7_soulKinds 10 = .ok (.istore 4, 2) := by decide +kernel
theorem dX7_soulKinds_12 : decode cX7_soulKinds 12 = .ok (.iconst 0, 1) := by decide +kernel
theorem dX7_soulKinds_13 : decode cX7_soulKinds 13 = .ok (.istore 5, 2) := by decide +kernel
theorem dX7_soulKinds_15 : decode cX7_soulKinds 15 = .ok (.iload 5, 2) := by decide +kernel
theorem dX7_soulKinds_17 : decode cX7_soulKinds 17 = .ok (.iconst 4, 1) := by decide +kernel
theorem dX7_soulKinds_18 : decode cX7_soulKinds 18 = .ok (.aload_n 0, 1) := by decide +kernel
theorem dX7_soulKinds_19 : decode cX7_soulKinds 19 = .ok (.getfield 97, 3) := by decide +kernel
theorem dX7_soulKinds_22 : decode cX7_soulKinds 22 = .ok (.imul, 1) := by decide +kernel
theorem dX7_soulKinds_23 : decode cX7_soulKinds 23 = .ok (.if_icmp .ge 78, 3) := by decide +kernel
theorem dX7_soulKinds_26 : decode cX7_soulKinds 26 = .ok (.iload_n 3, 1) := by decide +kernel
theorem dX7_soulKinds_27 : decode cX7_soulKinds 27 = .ok (.aload_n 0, 1) := by decide +kernel
theorem dX7_soulKinds_28 : decode cX7_soulKinds 28 = .ok (.getfield 37, 3) := by decide +kernel
theorem dX7_soulKinds_31 : decode cX7_soulKinds 31 = .ok (.iload 5, 2) := by decide +kernel
theorem dX7_soulKinds_33 : decode cX7_soulKinds 33 = .ok (.iconst 1, 1) := by decide +kernel
theorem dX7_soulKinds_34 : decode cX7_soulKinds 34 = .ok (.iadd, 1) := by decide +kernel
theorem dX7_soulKinds_35 : decode cX7_soulKinds 35 = .ok (.iaload, 1) := by decide +kernel
theorem dX7_soulKinds_36 : decode cX7_soulKinds 36 = .ok (.aload_n 0, 1) := by decide +kernel
theorem dX7_soulKinds_37 : decode cX7_soulKinds 37 = .ok (.getfield 37, 3) := by decide +kernel
theorem dX7_soulKinds_40 : decode cX7_soulKinds 40 = .ok (.iload 5, 2) := by decide +kernel
theorem dX7_soulKinds_42 : decode cX7_soulKinds 42 = .ok (.iconst 2, 1) := by decide +kernel
theorem dX7_soulKinds_43 : decode cX7_soulKinds 43 = .ok (.iadd, 1) := by decide +kernel
theorem dX7_soulKinds_44 : decode cX7_soulKinds 44 = .ok (.iaload, 1) := by decide +kernel
theorem dX7_soulKinds_45 : decode cX7_soulKinds 45 = .ok (.invokestatic 221, 3) := by decide +kernel
theorem dX7_soulKinds_48 : decode cX7_soulKinds 48 = .ok (.aload_n 0, 1) := by decide +kernel
theorem dX7_soulKinds_49 : decode cX7_soulKinds 49 = .ok (.getfield 37, 3) := by decide +kernel
theorem dX7_soulKinds_52 : decode cX7_soulKinds 52 = .ok (.iload 5, 2) := by decide +kernel
theorem dX7_soulKinds_54 : decode cX7_soulKinds 54 = .ok (.iconst 3, 1) := by decide +kernel
theorem dX7_soulKinds_55 : decode cX7_soulKinds 55 = .ok (.iadd, 1) := by decide +kernel
theorem dX7_soulKinds_56 : decode cX7_soulKinds 56 = .ok (.iaload, 1) := by decide +kernel
theorem dX7_soulKinds_57 : decode cX7_soulKinds 57 = .ok (.if_icmp .ne 7, 3) := by decide +kernel
theorem dX7_soulKinds_60 : decode cX7_soulKinds 60 = .ok (.iconst 1, 1) := by decide +kernel
theorem dX7_soulKinds_61 : decode cX7_soulKinds 61 = .ok (.goto 4, 3) := by decide +kernel
theorem dX7_soulKinds_64 : decode cX7_soulKinds 64 = .ok (.iconst 0, 1) := by decide +kernel
theorem dX7_soulKinds_65 : decode cX7_soulKinds 65 = .ok (.istore 6, 2) := by decide +kernel
theorem dX7_soulKinds_67 : decode cX7_soulKinds 67 = .ok (.iload 4, 2) := by decide +kernel
theorem dX7_soulKinds_69 : decode cX7_soulKinds 69 = .ok (.ifCond .eq 23, 3) := by decide +kernel
theorem dX7_soulKinds_72 : decode cX7_soulKinds 72 = .ok (.aload_n 0, 1) := by decide +kernel
theorem dX7_soulKinds_73 : decode cX7_soulKinds 73 = .ok (.getfield 37, 3) := by decide +kernel
theorem dX7_soulKinds_76 : decode cX7_soulKinds 76 = .ok (.iload 5, 2) := by decide +kernel
theorem dX7_soulKinds_78 : decode cX7_soulKinds 78 = .ok (.iaload, 1) := by decide +kernel
theorem dX7_soulKinds_79 : decode cX7_soulKinds 79 = .ok (.iload_n 1, 1) := by decide +kernel
theorem dX7_soulKinds_80 : decode cX7_soulKinds 80 = .ok (.if_icmp .ne 8, 3) := by decide +kernel
theorem dX7_soulKinds_83 : decode cX7_soulKinds 83 = .ok (.iload 6, 2) := by decide +kernel
theorem dX7_soulKinds_85 : decode cX7_soulKinds 85 = .ok (.ifCond .eq 7, 3) := by decide +kernel
theorem dX7_soulKinds_88 : decode cX7_soulKinds 88 = .ok (.iconst 1, 1) := by decide +kernel
theorem dX7_soulKinds_89 : decode cX7_soulKinds 89 = .ok (.goto 4, 3) := by decide +kernel
theorem dX7_soulKinds_92 : decode cX7_soulKinds 92 = .ok (.iconst 0, 1) := by decide +kernel
theorem dX7_soulKinds_93 : decode cX7_soulKinds 93 = .ok (.istore 4, 2) := by decide +kernel
theorem dX7_soulKinds_95 : decode cX7_soulKinds 95 = .ok (.iinc 5 4, 3) := by decide +kernel
theorem dX7_soulKinds_98 : decode cX7_soulKinds 98 = .ok (.goto (-83), 3) := by decide +kernel
theorem dX7_soulKinds_101 : decode cX7_soulKinds 101 = .ok (.iload_n 2, 1) := by decide +kernel
theorem dX7_soulKinds_102 : decode cX7_soulKinds 102 = .ok (.iload 4, 2) := by decide +kernel
theorem dX7_soulKinds_104 : decode cX7_soulKinds 104 = .ok (.ifCond .eq 9, 3) := by decide +kernel
theorem dX7_soulKinds_107 : decode cX7_soulKinds 107 = .ok (.iconst 1, 1) := by decide +kernel
theorem dX7_soulKinds_108 : decode cX7_soulKinds 108 = .ok (.iload_n 3, 1) := by decide +kernel
theorem dX7_soulKinds_109 : decode cX7_soulKinds 109 = .ok (.ishl, 1) := by decide +kernel
theorem dX7_soulKinds_110 : decode cX7_soulKinds 110 = .ok (.goto 4, 3) := by decide +kernel
theorem dX7_soulKinds_113 : decode cX7_soulKinds 113 = .ok (.iconst 0, 1) := by decide +kernel
theorem dX7_soulKinds_114 : decode cX7_soulKinds 114 = .ok (.ior, 1) := by decide +kernel
theorem dX7_soulKinds_115 : decode cX7_soulKinds 115 = .ok (.istore_n 2, 1) := by decide +kernel
theorem dX7_soulKinds_116 : decode cX7_soulKinds 116 = .ok (.iinc 3 1, 3) := by decide +kernel
theorem dX7_soulKinds_119 : decode cX7_soulKinds 119 = .ok (.goto (-115), 3) := by decide +kernel
theorem dX7_soulKinds_122 : decode cX7_soulKinds 122 = .ok (.iload_n 2, 1) := by decide +kernel
theorem dX7_soulKinds_123 : decode cX7_soulKinds 123 = .ok (.ireturn, 1) := by decide +kernel
theorem dX7_callerKinds_0 : decode cX7_callerKinds 0 = .ok (.iconst 0, 1) := by decide +kernel
theorem dX7_callerKinds_1 : decode cX7_callerKinds 1 = .ok (.istore_n 2, 1) := by decide +kernel
theorem dX7_callerKinds_2 : decode cX7_callerKinds 2 = .ok (.iconst 0, 1) := by decide +kernel
theorem dX7_callerKinds_3 : decode cX7_callerKinds 3 = .ok (.istore_n 3, 1) := by decide +kernel
theorem dX7_callerKinds_4 : decode cX7_callerKinds 4 = .ok (.iload_n 3, 1) := by decide +kernel
theorem dX7_callerKinds_5 : decode cX7_callerKinds 5 = .ok (.iconst 5, 1) := by decide +kernel
theorem dX7_callerKinds_6 : decode cX7_callerKinds 6 = .ok (.if_icmp .gt 107, 3) := by decide +kernel
theorem dX7_callerKinds_9 : decode cX7_callerKinds 9 = .ok (.iconst 1, 1) := by decide +kernel
theorem dX7_callerKinds_10 : decode cX7_callerKinds 10 = .ok (.istore 4, 2) := by decide +kernel
theorem dX7_callerKinds_12 : decode cX7_callerKinds 12 = .ok (.iconst 0, 1) := by decide +kernel
theorem dX7_callerKinds_13 : decode cX7_callerKinds 13 = .ok (.istore 5, 2) := by decide +kernel
theorem dX7_callerKinds_15 : decode cX7_callerKinds 15 = .ok (.iload 5, 2) := by decide +kernel
theorem dX7_callerKinds_17 : decode cX7_callerKinds 17 = .ok (.iconst 3, 1) := by decide +kernel
theorem dX7_callerKinds_18 : decode cX7_callerKinds 18 = .ok (.aload_n 0, 1) := by decide +kernel
theorem dX7_callerKinds_19 : decode cX7_callerKinds 19 = .ok (.getfield 100, 3) := by decide +kernel
theorem dX7_callerKinds_22 : decode cX7_callerKinds 22 = .ok (.imul, 1) := by decide +kernel
theorem dX7_callerKinds_23 : decode cX7_callerKinds 23 = .ok (.if_icmp .ge 69, 3) := by decide +kernel
theorem dX7_callerKinds_26 : decode cX7_callerKinds 26 = .ok (.iload_n 3, 1) := by decide +kernel
theorem dX7_callerKinds_27 : decode cX7_callerKinds 27 = .ok (.aload_n 0, 1) := by decide +kernel
theorem dX7_callerKinds_28 : decode cX7_callerKinds 28 = .ok (.getfield 40, 3) := by decide +kernel
theorem dX7_callerKinds_31 : decode cX7_callerKinds 31 = .ok (.iload 5, 2) := by decide +kernel
theorem dX7_callerKinds_33 : decode cX7_callerKinds 33 = .ok (.iconst 1, 1) := by decide +kernel
theorem dX7_callerKinds_34 : decode cX7_callerKinds 34 = .ok (.iadd, 1) := by decide +kernel
theorem dX7_callerKinds_35 : decode cX7_callerKinds 35 = .ok (.iaload, 1) := by decide +kernel
theorem dX7_callerKinds_36 : decode cX7_callerKinds 36 = .ok (.invokestatic 227, 3) := by decide +kernel
theorem dX7_callerKinds_39 : decode cX7_callerKinds 39 = .ok (.aload_n 0, 1) := by decide +kernel
theorem dX7_callerKinds_40 : decode cX7_callerKinds 40 = .ok (.getfield 40, 3) := by decide +kernel
theorem dX7_callerKinds_43 : decode cX7_callerKinds 43 = .ok (.iload 5, 2) := by decide +kernel
theorem dX7_callerKinds_45 : decode cX7_callerKinds 45 = .ok (.iconst 2, 1) := by decide +kernel
theorem dX7_callerKinds_46 : decode cX7_callerKinds 46 = .ok (.iadd, 1) := by decide +kernel
theorem dX7_callerKinds_47 : decode cX7_callerKinds 47 = .ok (.iaload, 1) := by decide +kernel
theorem dX7_callerKinds_48 : decode cX7_callerKinds 48 = .ok (.if_icmp .ne 7, 3) := by decide +kernel
theorem dX7_callerKinds_51 : decode cX7_callerKinds 51 = .ok (.iconst 1, 1) := by decide +kernel
theorem dX7_callerKinds_52 : decode cX7_callerKinds 52 = .ok (.goto 4, 3) := by decide +kernel
theorem dX7_callerKinds_55 : decode cX7_callerKinds 55 = .ok (.iconst 0, 1) := by decide +kernel
theorem dX7_callerKinds_56 : decode cX7_callerKinds 56 = .ok (.istore 6, 2) := by decide +kernel
theorem dX7_callerKinds_58 : decode cX7_callerKinds 58 = .ok (.iload 4, 2) := by decide +kernel
theorem dX7_callerKinds_60 : decode cX7_callerKinds 60 = .ok (.ifCond .eq 23, 3) := by decide +kernel
theorem dX7_callerKinds_63 : decode cX7_callerKinds 63 = .ok (.aload_n 0, 1) := by decide +kernel
theorem dX7_callerKinds_64 : decode cX7_callerKinds 64 = .ok (.getfield 40, 3) := by decide +kernel
theorem dX7_callerKinds_67 : decode cX7_callerKinds 67 = .ok (.iload 5, 2) := by decide +kernel
theorem dX7_callerKinds_69 : decode cX7_callerKinds 69 = .ok (.iaload, 1) := by decide +kernel
theorem dX7_callerKinds_70 : decode cX7_callerKinds 70 = .ok (.iload_n 1, 1) := by decide +kernel
theorem dX7_callerKinds_71 : decode cX7_callerKinds 71 = .ok (.if_icmp .ne 8, 3) := by decide +kernel
theorem dX7_callerKinds_74 : decode cX7_callerKinds 74 = .ok (.iload 6, 2) := by decide +kernel
theorem dX7_callerKinds_76 : decode cX7_callerKinds 76 = .ok (.ifCond .eq 7, 3) := by decide +kernel
theorem dX7_callerKinds_79 : decode cX7_callerKinds 79 = .ok (.iconst 1, 1) := by decide +kernel
theorem dX7_callerKinds_80 : decode cX7_callerKinds 80 = .ok (.goto 4, 3) := by decide +kernel
theorem dX7_callerKinds_83 : decode cX7_callerKinds 83 = .ok (.iconst 0, 1) := by decide +kernel
theorem dX7_callerKinds_84 : decode cX7_callerKinds 84 = .ok (.istore 4, 2) := by decide +kernel
theorem dX7_callerKinds_86 : decode cX7_callerKinds 86 = .ok (.iinc 5 3, 3) := by decide +kernel
theorem dX7_callerKinds_89 : decode cX7_callerKinds 89 = .ok (.goto (-74), 3) := by decide +kernel
theorem dX7_callerKinds_92 : decode cX7_callerKinds 92 = .ok (.iload_n 2, 1) := by decide +kernel
theorem dX7_callerKinds_93 : decode cX7_callerKinds 93 = .ok (.iload 4, 2) := by decide +kernel
theorem dX7_callerKinds_95 : decode cX7_callerKinds 95 = .ok (.ifCond .eq 9, 3) := by decide +kernel
theorem dX7_callerKinds_98 : decode cX7_callerKinds 98 = .ok (.iconst 1, 1) := by decide +kernel
theorem dX7_callerKinds_99 : decode cX7_callerKinds 99 = .ok (.iload_n 3, 1) := by decide +kernel
theorem dX7_callerKinds_100 : decode cX7_callerKinds 100 = .ok (.ishl, 1) := by decide +kernel
theorem dX7_callerKinds_101 : decode cX7_callerKinds 101 = .ok (.goto 4, 3) := by decide +kernel
theorem dX7_callerKinds_104 : decode cX7_callerKinds 104 = .ok (.iconst 0, 1) := by decide +kernel
theorem dX7_callerKinds_105 : decode cX7_callerKinds 105 = .ok (.ior, 1) := by decide +kernel
theorem dX7_callerKinds_106 : decode cX7_callerKinds 106 = .ok (.istore_n 2, 1) := by decide +kernel
theorem dX7_callerKinds_107 : decode cX7_callerKinds 107 = .ok (.iinc 3 1, 3) := by decide +kernel
theorem dX7_callerKinds_110 : decode cX7_callerKinds 110 = .ok (.goto (-106), 3) := by decide +kernel
theorem dX7_callerKinds_113 : decode cX7_callerKinds 113 = .ok (.iload_n 2, 1) := by decide +kernel
theorem dX7_callerKinds_114 : decode cX7_callerKinds 114 = .ok (.ireturn, 1) := by decide +kernel
theorem dX7_is_0 : decode cX7_is 0 = .ok (.aload_n 0, 1) := by decide +kernel
theorem dX7_is_1 : decode cX7_is 1 = .ok (.iload_n 1, 1) := by decide +kernel
theorem dX7_is_2 : decode cX7_is 2 = .ok (.invokevirtual 230, 3) := by decide +kernel
theorem dX7_is_5 : decode cX7_is 5 = .ok (.ifCond .eq 11, 3) := by decide +kernel
theorem dX7_is_8 : decode cX7_is 8 = .ok (.aload_n 0, 1) := by decide +kernel
theorem dX7_is_9 : decode cX7_is 9 = .ok (.iload_n 1, 1) := by decide +kernel
theorem dX7_is_10 : decode cX7_is 10 = .ok (.invokevirtual 321, 3) := by decide +kernel
theorem dX7_is_13 : decode cX7_is 13 = .ok (.goto 7, 3) := by decide +kernel
theorem dX7_is_16 : decode cX7_is 16 = .ok (.aload_n 0, 1) := by decide +kernel
theorem dX7_is_17 : decode cX7_is 17 = .ok (.invokevirtual 110, 3) := by decide +kernel
theorem dX7_is_20 : decode cX7_is 20 = .ok (.ireturn, 1) := by decide +kernel
theorem dX7_kinds_0 : decode cX7_kinds 0 = .ok (.aload_n 0, 1) := by decide +kernel
theorem dX7_kinds_1 : decode cX7_kinds 1 = .ok (.iload_n 1, 1) := by decide +kernel
theorem dX7_kinds_2 : decode cX7_kinds 2 = .ok (.invokevirtual 276, 3) := by decide +kernel
theorem dX7_kinds_5 : decode cX7_kinds 5 = .ok (.ifCond .eq 11, 3) := by decide +kernel
theorem dX7_kinds_8 : decode cX7_kinds 8 = .ok (.aload_n 0, 1) := by decide +kernel
theorem dX7_kinds_9 : decode cX7_kinds 9 = .ok (.iload_n 1, 1) := by decide +kernel
theorem dX7_kinds_10 : decode cX7_kinds 10 = .ok (.invokevirtual 324, 3) := by decide +kernel
theorem dX7_kinds_13 : decode cX7_kinds 13 = .ok (.goto 7, 3) := by decide +kernel
theorem dX7_kinds_16 : decode cX7_kinds 16 = .ok (.aload_n 0, 1) := by decide +kernel
theorem dX7_kinds_17 : decode cX7_kinds 17 = .ok (.invokevirtual 110, 3) := by decide +kernel
theorem dX7_kinds_20 : decode cX7_kinds 20 = .ok (.ireturn, 1) := by decide +kernel
theorem dX7_look_0 : decode cX7_look 0 = .ok (.aload_n 0, 1) := by decide +kernel
theorem dX7_look_1 : decode cX7_look 1 = .ok (.iload_n 1, 1) := by decide +kernel
theorem dX7_look_2 : decode cX7_look 2 = .ok (.invokevirtual 230, 3) := by decide +kernel
theorem dX7_look_5 : decode cX7_look 5 = .ok (.ifCond .ne 8, 3) := by decide +kernel
theorem dX7_look_8 : decode cX7_look 8 = .ok (.aload_n 0, 1) := by decide +kernel
theorem dX7_look_9 : decode cX7_look 9 = .ok (.invokevirtual 110, 3) := by decide +kernel
theorem dX7_look_12 : decode cX7_look 12 = .ok (.ireturn, 1) := by decide +kernel
theorem dX7_look_13 : decode cX7_look 13 = .ok (.aload_n 0, 1) := by decide +kernel
theorem dX7_look_14 : decode cX7_look 14 = .ok (.iload_n 1, 1) := by decide +kernel
theorem dX7_look_15 : decode cX7_look 15 = .ok (.invokevirtual 321, 3) := by decide +kernel
theorem dX7_look_18 : decode cX7_look 18 = .ok (.istore_n 2, 1) := by decide +kernel
theorem dX7_look_19 : decode cX7_look 19 = .ok (.iconst (-1), 1) := by decide +kernel
theorem dX7_look_20 : decode cX7_look 20 = .ok (.istore_n 3, 1) := by decide +kernel
theorem dX7_look_21 : decode cX7_look 21 = .ok (.ldc_w 320, 3) := by decide +kernel
theorem dX7_look_24 : decode cX7_look 24 = .ok (.istore 4, 2) := by decide +kernel
theorem dX7_look_26 : decode cX7_look 26 = .ok (.iconst 0, 1) := by decide +kernel
theorem dX7_look_27 : decode cX7_look 27 = .ok (.istore 5, 2) := by decide +kernel
theorem dX7_look_29 : decode cX7_look 29 = .ok (.iload 5, 2) := by decide +kernel
theorem dX7_look_31 : decode cX7_look 31 = .ok (.bipush 10, 2) := by decide +kernel
theorem dX7_look_33 : decode cX7_look 33 = .ok (.if_icmp .ge 138, 3) := by decide +kernel
theorem dX7_look_36 : decode cX7_look 36 = .ok (.iload_n 2, 1) := by decide +kernel
theorem dX7_look_37 : decode cX7_look 37 = .ok (.ifCond .eq 134, 3) := by decide +kernel
theorem dX7_look_40 : decode cX7_look 40 = .ok (.iconst 0, 1) := by decide +kernel
theorem dX7_look_41 : decode cX7_look 41 = .ok (.istore 6, 2) := by decide +kernel
theorem dX7_look_43 : decode cX7_look 43 = .ok (.iconst 0, 1) := by decide +kernel
theorem dX7_look_44 : decode cX7_look 44 = .ok (.istore 7, 2) := by decide +kernel
theorem dX7_look_46 : decode cX7_look 46 = .ok (.iload 7, 2) := by decide +kernel
theorem dX7_look_48 : decode cX7_look 48 = .ok (.iconst 5, 1) := by decide +kernel
theorem dX7_look_49 : decode cX7_look 49 = .ok (.if_icmp .gt 93, 3) := by decide +kernel
theorem dX7_look_52 : decode cX7_look 52 = .ok (.iconst 0, 1) := by decide +kernel
theorem dX7_look_53 : decode cX7_look 53 = .ok (.istore 8, 2) := by decide +kernel
theorem dX7_look_55 : decode cX7_look 55 = .ok (.iconst 0, 1) := by decide +kernel
theorem dX7_look_56 : decode cX7_look 56 = .ok (.istore 9, 2) := by decide +kernel
theorem dX7_look_58 : decode cX7_look 58 = .ok (.iload 9, 2) := by decide +kernel
theorem dX7_look_60 : decode cX7_look 60 = .ok (.iconst 5, 1) := by decide +kernel
theorem dX7_look_61 : decode cX7_look 61 = .ok (.if_icmp .gt 66, 3) := by decide +kernel
theorem dX7_look_64 : decode cX7_look 64 = .ok (.iload 8, 2) := by decide +kernel
theorem dX7_look_66 : decode cX7_look 66 = .ok (.iload_n 2, 1) := by decide +kernel
theorem dX7_look_67 : decode cX7_look 67 = .ok (.iload 7, 2) := by decide +kernel
theorem dX7_look_69 : decode cX7_look 69 = .ok (.invokestatic 295, 3) := by decide +kernel
theorem dX7_look_72 : decode cX7_look 72 = .ok (.ifCond .eq 45, 3) := by decide +kernel
theorem dX7_look_75 : decode cX7_look 75 = .ok (.iload_n 2, 1) := by decide +kernel
theorem dX7_look_76 : decode cX7_look 76 = .ok (.iload 9, 2) := by decide +kernel
theorem dX7_look_78 : decode cX7_look 78 = .ok (.invokestatic 295, 3) := by decide +kernel
theorem dX7_look_81 : decode cX7_look 81 = .ok (.ifCond .eq 36, 3) := by decide +kernel
theorem dX7_look_84 : decode cX7_look 84 = .ok (.iload 7, 2) := by decide +kernel
theorem dX7_look_86 : decode cX7_look 86 = .ok (.aload_n 0, 1) := by decide +kernel
theorem dX7_look_87 : decode cX7_look 87 = .ok (.getfield 19, 3) := by decide +kernel
theorem dX7_look_90 : decode cX7_look 90 = .ok (.iload_n 1, 1) := by decide +kernel
theorem dX7_look_91 : decode cX7_look 91 = .ok (.iaload, 1) := by decide +kernel
theorem dX7_look_92 : decode cX7_look 92 = .ok (.iload 5, 2) := by decide +kernel
theorem dX7_look_94 : decode cX7_look 94 = .ok (.invokestatic 221, 3) := by decide +kernel
theorem dX7_look_97 : decode cX7_look 97 = .ok (.iload 9, 2) := by decide +kernel
theorem dX7_look_99 : decode cX7_look 99 = .ok (.aload_n 0, 1) := by decide +kernel
theorem dX7_look_100 : decode cX7_look 100 = .ok (.getfield 19, 3) := by decide +kernel
theorem dX7_look_103 : decode cX7_look 103 = .ok (.iload_n 1, 1) := by decide +kernel
theorem dX7_look_104 : decode cX7_look 104 = .ok (.iaload, 1) := by decide +kernel
theorem dX7_look_105 : decode cX7_look 105 = .ok (.iload 5, 2) := by decide +kernel
theorem dX7_look_107 : decode cX7_look 107 = .ok (.invokestatic 221, 3) := by decide +kernel
theorem dX7_look_110 : decode cX7_look 110 = .ok (.if_icmp .ne 7, 3) := by decide +kernel
theorem dX7_look_113 : decode cX7_look 113 = .ok (.iconst 1, 1) := by decide +kernel
theorem dX7_look_114 : decode cX7_look 114 = .ok (.goto 4, 3) := by decide +kernel
theorem dX7_look_117 : decode cX7_look 117 = .ok (.iconst 0, 1) := by decide +kernel
theorem dX7_look_118 : decode cX7_look 118 = .ok (.iadd, 1) := by decide +kernel
theorem dX7_look_119 : decode cX7_look 119 = .ok (.istore 8, 2) := by decide +kernel
theorem dX7_look_121 : decode cX7_look 121 = .ok (.iinc 9 1, 3) := by decide +kernel
theorem dX7_look_124 : decode cX7_look 124 = .ok (.goto (-66), 3) := by decide +kernel
theorem dX7_look_127 : decode cX7_look 127 = .ok (.iload 6, 2) := by decide +kernel
theorem dX7_look_129 : decode cX7_look 129 = .ok (.iload 8, 2) := by decide +kernel
theorem dX7_look_131 : decode cX7_look 131 = .ok (.invokestatic 214, 3) := by decide +kernel
theorem dX7_look_134 : decode cX7_look 134 = .ok (.istore 6, 2) := by decide +kernel
theorem dX7_look_136 : decode cX7_look 136 = .ok (.iinc 7 1, 3) := by decide +kernel
theorem dX7_look_139 : decode cX7_look 139 = .ok (.goto (-93), 3) := by decide +kernel
theorem dX7_look_142 : decode cX7_look 142 = .ok (.iload 6, 2) := by decide +kernel
theorem dX7_look_144 : decode cX7_look 144 = .ok (.iload 4, 2) := by decide +kernel
theorem dX7_look_146 : decode cX7_look 146 = .ok (.if_icmp .ge 8, 3) := by decide +kernel
theorem dX7_look_149 : decode cX7_look 149 = .ok (.iload 5, 2) := by decide +kernel
theorem dX7_look_151 : decode cX7_look 151 = .ok (.goto 4, 3) := by decide +kernel
theorem dX7_look_154 : decode cX7_look 154 = .ok (.iload_n 3, 1) := by decide +kernel
theorem dX7_look_155 : decode cX7_look 155 = .ok (.istore_n 3, 1) := by decide +kernel
theorem dX7_look_156 : decode cX7_look 156 = .ok (.iload 4, 2) := by decide +kernel
theorem dX7_look_158 : decode cX7_look 158 = .ok (.iload 6, 2) := by decide +kernel
theorem dX7_look_160 : decode cX7_look 160 = .ok (.invokestatic 218, 3) := by decide +kernel
theorem dX7_look_163 : decode cX7_look 163 = .ok (.istore 4, 2) := by decide +kernel
theorem dX7_look_165 : decode cX7_look 165 = .ok (.iinc 5 1, 3) := by decide +kernel
theorem dX7_look_168 : decode cX7_look 168 = .ok (.goto (-139), 3) := by decide +kernel
theorem dX7_look_171 : decode cX7_look 171 = .ok (.iload_n 3, 1) := by decide +kernel
theorem dX7_look_172 : decode cX7_look 172 = .ok (.ireturn, 1) := by decide +kernel
theorem dX7_ask_0 : decode cX7_ask 0 = .ok (.aload_n 0, 1) := by decide +kernel
theorem dX7_ask_1 : decode cX7_ask 1 = .ok (.iload_n 1, 1) := by decide +kernel
theorem dX7_ask_2 : decode cX7_ask 2 = .ok (.invokevirtual 276, 3) := by decide +kernel
theorem dX7_ask_5 : decode cX7_ask 5 = .ok (.ifCond .ne 8, 3) := by decide +kernel
theorem dX7_ask_8 : decode cX7_ask 8 = .ok (.aload_n 0, 1) := by decide +kernel
theorem dX7_ask_9 : decode cX7_ask 9 = .ok (.invokevirtual 110, 3) := by decide +kernel
theorem dX7_ask_12 : decode cX7_ask 12 = .ok (.ireturn, 1) := by decide +kernel
theorem dX7_ask_13 : decode cX7_ask 13 = .ok (.aload_n 0, 1) := by decide +kernel
theorem dX7_ask_14 : decode cX7_ask 14 = .ok (.iload_n 1, 1) := by decide +kernel
theorem dX7_ask_15 : decode cX7_ask 15 = .ok (.invokevirtual 324, 3) := by decide +kernel
theorem dX7_ask_18 : decode cX7_ask 18 = .ok (.istore_n 2, 1) := by decide +kernel
theorem dX7_ask_19 : decode cX7_ask 19 = .ok (.iconst (-1), 1) := by decide +kernel
theorem dX7_ask_20 : decode cX7_ask 20 = .ok (.istore_n 3, 1) := by decide +kernel
theorem dX7_ask_21 : decode cX7_ask 21 = .ok (.ldc_w 320, 3) := by decide +kernel
theorem dX7_ask_24 : decode cX7_ask 24 = .ok (.istore 4, 2) := by decide +kernel
theorem dX7_ask_26 : decode cX7_ask 26 = .ok (.iconst 0, 1) := by decide +kernel
theorem dX7_ask_27 : decode cX7_ask 27 = .ok (.istore 5, 2) := by decide +kernel
theorem dX7_ask_29 : decode cX7_ask 29 = .ok (.iload 5, 2) := by decide +kernel
theorem dX7_ask_31 : decode cX7_ask 31 = .ok (.bipush 30, 2) := by decide +kernel
theorem dX7_ask_33 : decode cX7_ask 33 = .ok (.if_icmp .gt 126, 3) := by decide +kernel
theorem dX7_ask_36 : decode cX7_ask 36 = .ok (.iload_n 2, 1) := by decide +kernel
theorem dX7_ask_37 : decode cX7_ask 37 = .ok (.ifCond .eq 122, 3) := by decide +kernel
theorem dX7_ask_40 : decode cX7_ask 40 = .ok (.iconst 0, 1) := by decide +kernel
theorem dX7_ask_41 : decode cX7_ask 41 = .ok (.istore 6, 2) := by decide +kernel
theorem dX7_ask_43 : decode cX7_ask 43 = .ok (.iconst 0, 1) := by decide +kernel
theorem dX7_ask_44 : decode cX7_ask 44 = .ok (.istore 7, 2) := by decide +kernel
theorem dX7_ask_46 : decode cX7_ask 46 = .ok (.iload 7, 2) := by decide +kernel
theorem dX7_ask_48 : decode cX7_ask 48 = .ok (.iconst 5, 1) := by decide +kernel
theorem dX7_ask_49 : decode cX7_ask 49 = .ok (.if_icmp .gt 81, 3) := by decide +kernel
theorem dX7_ask_52 : decode cX7_ask 52 = .ok (.iconst 0, 1) := by decide +kernel
theorem dX7_ask_53 : decode cX7_ask 53 = .ok (.istore 8, 2) := by decide +kernel
theorem dX7_ask_55 : decode cX7_ask 55 = .ok (.iconst 0, 1) := by decide +kernel
theorem dX7_ask_56 : decode cX7_ask 56 = .ok (.istore 9, 2) := by decide +kernel
theorem dX7_ask_58 : decode cX7_ask 58 = .ok (.iload 9, 2) := by decide +kernel
theorem dX7_ask_60 : decode cX7_ask 60 = .ok (.iconst 5, 1) := by decide +kernel
theorem dX7_ask_61 : decode cX7_ask 61 = .ok (.if_icmp .gt 54, 3) := by decide +kernel
theorem dX7_ask_64 : decode cX7_ask 64 = .ok (.iload 8, 2) := by decide +kernel
theorem dX7_ask_66 : decode cX7_ask 66 = .ok (.iload_n 2, 1) := by decide +kernel
theorem dX7_ask_67 : decode cX7_ask 67 = .ok (.iload 7, 2) := by decide +kernel
theorem dX7_ask_69 : decode cX7_ask 69 = .ok (.invokestatic 295, 3) := by decide +kernel
theorem dX7_ask_72 : decode cX7_ask 72 = .ok (.ifCond .eq 33, 3) := by decide +kernel
theorem dX7_ask_75 : decode cX7_ask 75 = .ok (.iload_n 2, 1) := by decide +kernel
theorem dX7_ask_76 : decode cX7_ask 76 = .ok (.iload 9, 2) := by decide +kernel
theorem dX7_ask_78 : decode cX7_ask 78 = .ok (.invokestatic 295, 3) := by decide +kernel
theorem dX7_ask_81 : decode cX7_ask 81 = .ok (.ifCond .eq 24, 3) := by decide +kernel
theorem dX7_ask_84 : decode cX7_ask 84 = .ok (.iload 7, 2) := by decide +kernel
theorem dX7_ask_86 : decode cX7_ask 86 = .ok (.iload 5, 2) := by decide +kernel
theorem dX7_ask_88 : decode cX7_ask 88 = .ok (.invokestatic 227, 3) := by decide +kernel
theorem dX7_ask_91 : decode cX7_ask 91 = .ok (.iload 9, 2) := by decide +kernel
theorem dX7_ask_93 : decode cX7_ask 93 = .ok (.iload 5, 2) := by decide +kernel
theorem dX7_ask_95 : decode cX7_ask 95 = .ok (.invokestatic 227, 3) := by decide +kernel
theorem dX7_ask_98 : decode cX7_ask 98 = .ok (.if_icmp .ne 7, 3) := by decide +kernel
theorem dX7_ask_101 : decode cX7_ask 101 = .ok (.iconst 1, 1) := by decide +kernel
theorem dX7_ask_102 : decode cX7_ask 102 = .ok (.goto 4, 3) := by decide +kernel
theorem dX7_ask_105 : decode cX7_ask 105 = .ok (.iconst 0, 1) := by decide +kernel
theorem dX7_ask_106 : decode cX7_ask 106 = .ok (.iadd, 1) := by decide +kernel
theorem dX7_ask_107 : decode cX7_ask 107 = .ok (.istore 8, 2) := by decide +kernel
theorem dX7_ask_109 : decode cX7_ask 109 = .ok (.iinc 9 1, 3) := by decide +kernel
theorem dX7_ask_112 : decode cX7_ask 112 = .ok (.goto (-54), 3) := by decide +kernel
theorem dX7_ask_115 : decode cX7_ask 115 = .ok (.iload 6, 2) := by decide +kernel
theorem dX7_ask_117 : decode cX7_ask 117 = .ok (.iload 8, 2) := by decide +kernel
theorem dX7_ask_119 : decode cX7_ask 119 = .ok (.invokestatic 214, 3) := by decide +kernel
theorem dX7_ask_122 : decode cX7_ask 122 = .ok (.istore 6, 2) := by decide +kernel
theorem dX7_ask_124 : decode cX7_ask 124 = .ok (.iinc 7 1, 3) := by decide +kernel
theorem dX7_ask_127 : decode cX7_ask 127 = .ok (.goto (-81), 3) := by decide +kernel
theorem dX7_ask_130 : decode cX7_ask 130 = .ok (.iload 6, 2) := by decide +kernel
theorem dX7_ask_132 : decode cX7_ask 132 = .ok (.iload 4, 2) := by decide +kernel
theorem dX7_ask_134 : decode cX7_ask 134 = .ok (.if_icmp .ge 8, 3) := by decide +kernel
theorem dX7_ask_137 : decode cX7_ask 137 = .ok (.iload 5, 2) := by decide +kernel
theorem dX7_ask_139 : decode cX7_ask 139 = .ok (.goto 4, 3) := by decide +kernel
theorem dX7_ask_142 : decode cX7_ask 142 = .ok (.iload_n 3, 1) := by decide +kernel
theorem dX7_ask_143 : decode cX7_ask 143 = .ok (.istore_n 3, 1) := by decide +kernel
theorem dX7_ask_144 : decode cX7_ask 144 = .ok (.iload 4, 2) := by decide +kernel
theorem dX7_ask_146 : decode cX7_ask 146 = .ok (.iload 6, 2) := by decide +kernel
theorem dX7_ask_148 : decode cX7_ask 148 = .ok (.invokestatic 218, 3) := by decide +kernel
theorem dX7_ask_151 : decode cX7_ask 151 = .ok (.istore 4, 2) := by decide +kernel
theorem dX7_ask_153 : decode cX7_ask 153 = .ok (.iinc 5 1, 3) := by decide +kernel
theorem dX7_ask_156 : decode cX7_ask 156 = .ok (.goto (-127), 3) := by decide +kernel
theorem dX7_ask_159 : decode cX7_ask 159 = .ok (.iload_n 3, 1) := by decide +kernel
theorem dX7_ask_160 : decode cX7_ask 160 = .ok (.ireturn, 1) := by decide +kernel
theorem dX7_winBy_0 : decode cX7_winBy 0 = .ok (.bipush 9, 2) := by decide +kernel
theorem dX7_winBy_2 : decode cX7_winBy 2 = .ok (.iload_n 0, 1) := by decide +kernel
theorem dX7_winBy_3 : decode cX7_winBy 3 = .ok (.iconst 2, 1) := by decide +kernel
theorem dX7_winBy_4 : decode cX7_winBy 4 = .ok (.idiv, 1) := by decide +kernel
theorem dX7_winBy_5 : decode cX7_winBy 5 = .ok (.iadd, 1) := by decide +kernel
theorem dX7_winBy_6 : decode cX7_winBy 6 = .ok (.iload_n 1, 1) := by decide +kernel
theorem dX7_winBy_7 : decode cX7_winBy 7 = .ok (.isub, 1) := by decide +kernel
theorem dX7_winBy_8 : decode cX7_winBy 8 = .ok (.ireturn, 1) := by decide +kernel
theorem dX7_rests_0 : decode cX7_rests 0 = .ok (.iload_n 0, 1) := by decide +kernel
theorem dX7_rests_1 : decode cX7_rests 1 = .ok (.iload_n 1, 1) := by decide +kernel
theorem dX7_rests_2 : decode cX7_rests 2 = .ok (.if_icmp .gt 11, 3) := by decide +kernel
theorem dX7_rests_5 : decode cX7_rests 5 = .ok (.iload_n 0, 1) := by decide +kernel
theorem dX7_rests_6 : decode cX7_rests 6 = .ok (.iload_n 2, 1) := by decide +kernel
theorem dX7_rests_7 : decode cX7_rests 7 = .ok (.invokestatic 327, 3) := by decide +kernel
theorem dX7_rests_10 : decode cX7_rests 10 = .ok (.goto 4, 3) := by decide +kernel
theorem dX7_rests_13 : decode cX7_rests 13 = .ok (.iconst 0, 1) := by decide +kernel
theorem dX7_rests_14 : decode cX7_rests 14 = .ok (.istore 4, 2) := by decide +kernel
theorem dX7_rests_16 : decode cX7_rests 16 = .ok (.iload_n 0, 1) := by decide +kernel
theorem dX7_rests_17 : decode cX7_rests 17 = .ok (.iload_n 1, 1) := by decide +kernel
theorem dX7_rests_18 : decode cX7_rests 18 = .ok (.if_icmp .gt 7, 3) := by decide +kernel
theorem dX7_rests_21 : decode cX7_rests 21 = .ok (.iconst 0, 1) := by decide +kernel
theorem dX7_rests_22 : decode cX7_rests 22 = .ok (.goto 8, 3) := by decide +kernel
theorem dX7_rests_25 : decode cX7_rests 25 = .ok (.iload_n 1, 1) := by decide +kernel
theorem dX7_rests_26 : decode cX7_rests 26 = .ok (.iload_n 3, 1) := by decide +kernel
theorem dX7_rests_27 : decode cX7_rests 27 = .ok (.invokestatic 327, 3) := by decide +kernel
theorem dX7_rests_30 : decode cX7_rests 30 = .ok (.istore 5, 2) := by decide +kernel
theorem dX7_rests_32 : decode cX7_rests 32 = .ok (.iconst 1, 1) := by decide +kernel
theorem dX7_rests_33 : decode cX7_rests 33 = .ok (.istore 6, 2) := by decide +kernel
theorem dX7_rests_35 : decode cX7_rests 35 = .ok (.iconst 0, 1) := by decide +kernel
theorem dX7_rests_36 : decode cX7_rests 36 = .ok (.istore 7, 2) := by decide +kernel
theorem dX7_rests_38 : decode cX7_rests 38 = .ok (.iload 7, 2) := by decide +kernel
theorem dX7_rests_40 : decode cX7_rests 40 = .ok (.bipush 9, 2) := by decide +kernel
theorem dX7_rests_42 : decode cX7_rests 42 = .ok (.if_icmp .gt 63, 3) := by decide +kernel
theorem dX7_rests_45 : decode cX7_rests 45 = .ok (.iload 6, 2) := by decide +kernel
theorem dX7_rests_47 : decode cX7_rests 47 = .ok (.ifCond .eq 49, 3) := by decide +kernel
theorem dX7_rests_50 : decode cX7_rests 50 = .ok (.iload 4, 2) := by decide +kernel
theorem dX7_rests_52 : decode cX7_rests 52 = .ok (.iload 7, 2) := by decide +kernel
theorem dX7_rests_54 : decode cX7_rests 54 = .ok (.iload_n 1, 1) := by decide +kernel
theorem dX7_rests_55 : decode cX7_rests 55 = .ok (.if_icmp .gt 12, 3) := by decide +kernel
theorem dX7_rests_58 : decode cX7_rests 58 = .ok (.iload 7, 2) := by decide +kernel
theorem dX7_rests_60 : decode cX7_rests 60 = .ok (.iload_n 2, 1) := by decide +kernel
theorem dX7_rests_61 : decode cX7_rests 61 = .ok (.invokestatic 327, 3) := by decide +kernel
theorem dX7_rests_64 : decode cX7_rests 64 = .ok (.goto 4, 3) := by decide +kernel
theorem dX7_rests_67 : decode cX7_rests 67 = .ok (.iconst 0, 1) := by decide +kernel
theorem dX7_rests_68 : decode cX7_rests 68 = .ok (.if_icmp .lt 28, 3) := by decide +kernel
theorem dX7_rests_71 : decode cX7_rests 71 = .ok (.iload 5, 2) := by decide +kernel
theorem dX7_rests_73 : decode cX7_rests 73 = .ok (.iload_n 0, 1) := by decide +kernel
theorem dX7_rests_74 : decode cX7_rests 74 = .ok (.iload 7, 2) := by decide +kernel
theorem dX7_rests_76 : decode cX7_rests 76 = .ok (.if_icmp .gt 7, 3) := by decide +kernel
theorem dX7_rests_79 : decode cX7_rests 79 = .ok (.iconst 0, 1) := by decide +kernel
theorem dX7_rests_80 : decode cX7_rests 80 = .ok (.goto 9, 3) := by decide +kernel
theorem dX7_rests_83 : decode cX7_rests 83 = .ok (.iload 7, 2) := by decide +kernel
theorem dX7_rests_85 : decode cX7_rests 85 = .ok (.iload_n 3, 1) := by decide +kernel
theorem dX7_rests_86 : decode cX7_rests 86 = .ok (.invokestatic 327, 3) := by decide +kernel
theorem dX7_rests_89 : decode cX7_rests 89 = .ok (.if_icmp .lt 7, 3) := by decide +kernel
theorem dX7_rests_92 : decode cX7_rests 92 = .ok (.iconst 1, 1) := by decide +kernel
theorem dX7_rests_93 : decode cX7_rests 93 = .ok (.goto 4, 3) := by decide +kernel
theorem dX7_rests_96 : decode cX7_rests 96 = .ok (.iconst 0, 1) := by decide +kernel
theorem dX7_rests_97 : decode cX7_rests 97 = .ok (.istore 6, 2) := by decide +kernel
theorem dX7_rests_99 : decode cX7_rests 99 = .ok (.iinc 7 1, 3) := by decide +kernel
theorem dX7_rests_102 : decode cX7_rests 102 = .ok (.goto (-64), 3) := by decide +kernel
theorem dX7_rests_105 : decode cX7_rests 105 = .ok (.iload 6, 2) := by decide +kernel
theorem dX7_rests_107 : decode cX7_rests 107 = .ok (.ireturn, 1) := by decide +kernel
theorem dX7_claim_0 : decode cX7_claim 0 = .ok (.aload_n 0, 1) := by decide +kernel
theorem dX7_claim_1 : decode cX7_claim 1 = .ok (.iload_n 1, 1) := by decide +kernel
theorem dX7_claim_2 : decode cX7_claim 2 = .ok (.invokevirtual 276, 3) := by decide +kernel
theorem dX7_claim_5 : decode cX7_claim 5 = .ok (.ifCond .eq 30, 3) := by decide +kernel
theorem dX7_claim_8 : decode cX7_claim 8 = .ok (.aload_n 0, 1) := by decide +kernel
theorem dX7_claim_9 : decode cX7_claim 9 = .ok (.iload_n 2, 1) := by decide +kernel
theorem dX7_claim_10 : decode cX7_claim 10 = .ok (.invokevirtual 276, 3) := by decide +kernel
theorem dX7_claim_13 : decode cX7_claim 13 = .ok (.ifCond .eq 22, 3) := by decide +kernel
theorem dX7_claim_16 : decode cX7_claim 16 = .ok (.iload_n 1, 1) := by decide +kernel
theorem dX7_claim_17 : decode cX7_claim 17 = .ok (.iload_n 2, 1) := by decide +kernel
theorem dX7_claim_18 : decode cX7_claim 18 = .ok (.if_icmp .eq 17, 3) := by decide +kernel
theorem dX7_claim_21 : decode cX7_claim 21 = .ok (.aload_n 0, 1) := by decide +kernel
theorem dX7_claim_22 : decode cX7_claim 22 = .ok (.iload_n 3, 1) := by decide +kernel
theorem dX7_claim_23 : decode cX7_claim 23 = .ok (.invokevirtual 230, 3) := by decide +kernel
theorem dX7_claim_26 : decode cX7_claim 26 = .ok (.ifCond .eq 9, 3) := by decide +kernel
theorem dX7_claim_29 : decode cX7_claim 29 = .ok (.iload 4, 2) := by decide +kernel
theorem dX7_claim_31 : decode cX7_claim 31 = .ok (.iconst (-1), 1) := by decide +kernel
theorem dX7_claim_32 : decode cX7_claim 32 = .ok (.if_icmp .ge 8, 3) := by decide +kernel
theorem dX7_claim_35 : decode cX7_claim 35 = .ok (.aload_n 0, 1) := by decide +kernel
theorem dX7_claim_36 : decode cX7_claim 36 = .ok (.invokevirtual 118, 3) := by decide +kernel
theorem dX7_claim_39 : decode cX7_claim 39 = .ok (.ireturn, 1) := by decide +kernel
theorem dX7_claim_40 : decode cX7_claim 40 = .ok (.iconst 0, 1) := by decide +kernel
theorem dX7_claim_41 : decode cX7_claim 41 = .ok (.istore 5, 2) := by decide +kernel
theorem dX7_claim_43 : decode cX7_claim 43 = .ok (.bipush (-5), 2) := by decide +kernel
theorem dX7_claim_45 : decode cX7_claim 45 = .ok (.istore 6, 2) := by decide +kernel
theorem dX7_claim_47 : decode cX7_claim 47 = .ok (.iconst 0, 1) := by decide +kernel
theorem dX7_claim_48 : decode cX7_claim 48 = .ok (.istore 7, 2) := by decide +kernel
theorem dX7_claim_50 : decode cX7_claim 50 = .ok (.iload 7, 2) := by decide +kernel
theorem dX7_claim_52 : decode cX7_claim 52 = .ok (.bipush 9, 2) := by decide +kernel
theorem dX7_claim_54 : decode cX7_claim 54 = .ok (.if_icmp .gt 72, 3) := by decide +kernel
theorem dX7_claim_57 : decode cX7_claim 57 = .ok (.iconst 0, 1) := by decide +kernel
theorem dX7_claim_58 : decode cX7_claim 58 = .ok (.istore 8, 2) := by decide +kernel
theorem dX7_claim_60 : decode cX7_claim 60 = .ok (.iload 8, 2) := by decide +kernel
theorem dX7_claim_62 : decode cX7_claim 62 = .ok (.bipush 9, 2) := by decide +kernel
theorem dX7_claim_64 : decode cX7_claim 64 = .ok (.if_icmp .gt 56, 3) := by decide +kernel
theorem dX7_claim_67 : decode cX7_claim 67 = .ok (.iload 7, 2) := by decide +kernel
theorem dX7_claim_69 : decode cX7_claim 69 = .ok (.iload 8, 2) := by decide +kernel
theorem dX7_claim_71 : decode cX7_claim 71 = .ok (.aload_n 0, 1) := by decide +kernel
theorem dX7_claim_72 : decode cX7_claim 72 = .ok (.iload_n 3, 1) := by decide +kernel
theorem dX7_claim_73 : decode cX7_claim 73 = .ok (.iload_n 1, 1) := by decide +kernel
theorem dX7_claim_74 : decode cX7_claim 74 = .ok (.invokevirtual 242, 3) := by decide +kernel
theorem dX7_claim_77 : decode cX7_claim 77 = .ok (.aload_n 0, 1) := by decide +kernel
theorem dX7_claim_78 : decode cX7_claim 78 = .ok (.iload_n 3, 1) := by decide +kernel
theorem dX7_claim_79 : decode cX7_claim 79 = .ok (.iload_n 2, 1) := by decide +kernel
theorem dX7_claim_80 : decode cX7_claim 80 = .ok (.invokevirtual 242, 3) := by decide +kernel
theorem dX7_claim_83 : decode cX7_claim 83 = .ok (.invokestatic 330, 3) := by decide +kernel
theorem dX7_claim_86 : decode cX7_claim 86 = .ok (.ifCond .eq 28, 3) := by decide +kernel
theorem dX7_claim_89 : decode cX7_claim 89 = .ok (.iload 5, 2) := by decide +kernel
theorem dX7_claim_91 : decode cX7_claim 91 = .ok (.iload 4, 2) := by decide +kernel
theorem dX7_claim_93 : decode cX7_claim 93 = .ok (.if_icmp .ne 14, 3) := by decide +kernel
theorem dX7_claim_96 : decode cX7_claim 96 = .ok (.bipush 10, 2) := by decide +kernel
theorem dX7_claim_98 : decode cX7_claim 98 = .ok (.iload 7, 2) := by decide +kernel
theorem dX7_claim_100 : decode cX7_claim 100 = .ok (.imul, 1) := by decide +kernel
theorem dX7_claim_101 : decode cX7_claim 101 = .ok (.iload 8, 2) := by decide +kernel
theorem dX7_claim_103 : decode cX7_claim 103 = .ok (.iadd, 1) := by decide +kernel
theorem dX7_claim_104 : decode cX7_claim 104 = .ok (.goto 5, 3) := by decide +kernel
theorem dX7_claim_107 : decode cX7_claim 107 = .ok (.iload 6, 2) := by decide +kernel
theorem dX7_claim_109 : decode cX7_claim 109 = .ok (.istore 6, 2) := by decide +kernel
theorem dX7_claim_111 : decode cX7_claim 111 = .ok (.iinc 5 1, 3) := by decide +kernel
theorem dX7_claim_114 : decode cX7_claim 114 = .ok (.iinc 8 1, 3) := by decide +kernel
theorem dX7_claim_117 : decode cX7_claim 117 = .ok (.goto (-57), 3) := by decide +kernel
theorem dX7_claim_120 : decode cX7_claim 120 = .ok (.iinc 7 1, 3) := by decide +kernel
theorem dX7_claim_123 : decode cX7_claim 123 = .ok (.goto (-73), 3) := by decide +kernel
theorem dX7_claim_126 : decode cX7_claim 126 = .ok (.iload 4, 2) := by decide +kernel
theorem dX7_claim_128 : decode cX7_claim 128 = .ok (.iconst (-1), 1) := by decide +kernel
theorem dX7_claim_129 : decode cX7_claim 129 = .ok (.if_icmp .ne 8, 3) := by decide +kernel
theorem dX7_claim_132 : decode cX7_claim 132 = .ok (.iload 5, 2) := by decide +kernel
theorem dX7_claim_134 : decode cX7_claim 134 = .ok (.goto 5, 3) := by decide +kernel
theorem dX7_claim_137 : decode cX7_claim 137 = .ok (.iload 6, 2) := by decide +kernel
theorem dX7_claim_139 : decode cX7_claim 139 = .ok (.ireturn, 1) := by decide +kernel
theorem dX7_lay_0 : decode cX7_lay 0 = .ok (.lload_n 1, 1) := by decide +kernel
theorem dX7_lay_1 : decode cX7_lay 1 = .ok (.lstore 5, 2) := by decide +kernel
theorem dX7_lay_3 : decode cX7_lay 3 = .ok (.lload_n 3, 1) := by decide +kernel
theorem dX7_lay_4 : decode cX7_lay 4 = .ok (.lstore 7, 2) := by decide +kernel
theorem dX7_lay_6 : decode cX7_lay 6 = .ok (.lload 7, 2) := by decide +kernel
theorem dX7_lay_8 : decode cX7_lay 8 = .ok (.lconst 0, 1) := by decide +kernel
theorem dX7_lay_9 : decode cX7_lay 9 = .ok (.lcmp, 1) := by decide +kernel
theorem dX7_lay_10 : decode cX7_lay 10 = .ok (.ifCond .eq 21, 3) := by decide +kernel
theorem dX7_lay_13 : decode cX7_lay 13 = .ok (.lload 5, 2) := by decide +kernel
theorem dX7_lay_15 : decode cX7_lay 15 = .ok (.lload 7, 2) := by decide +kernel
theorem dX7_lay_17 : decode cX7_lay 17 = .ok (.lrem, 1) := by decide +kernel
theorem dX7_lay_18 : decode cX7_lay 18 = .ok (.lstore 9, 2) := by decide +kernel
theorem dX7_lay_20 : decode cX7_lay 20 = .ok (.lload 7, 2) := by decide +kernel
theorem dX7_lay_22 : decode cX7_lay 22 = .ok (.lstore 5, 2) := by decide +kernel
theorem dX7_lay_24 : decode cX7_lay 24 = .ok (.lload 9, 2) := by decide +kernel
theorem dX7_lay_26 : decode cX7_lay 26 = .ok (.lstore 7, 2) := by decide +kernel
theorem dX7_lay_28 : decode cX7_lay 28 = .ok (.goto (-22), 3) := by decide +kernel
theorem dX7_lay_31 : decode cX7_lay 31 = .ok (.aload_n 0, 1) := by decide +kernel
theorem dX7_lay_32 : decode cX7_lay 32 = .ok (.lload_n 1, 1) := by decide +kernel
theorem dX7_lay_33 : decode cX7_lay 33 = .ok (.lload 5, 2) := by decide +kernel
theorem dX7_lay_35 : decode cX7_lay 35 = .ok (.ldiv, 1) := by decide +kernel
theorem dX7_lay_36 : decode cX7_lay 36 = .ok (.putfield 333, 3) := by decide +kernel
theorem dX7_lay_39 : decode cX7_lay 39 = .ok (.aload_n 0, 1) := by decide +kernel
theorem dX7_lay_40 : decode cX7_lay 40 = .ok (.lload_n 3, 1) := by decide +kernel
theorem dX7_lay_41 : decode cX7_lay 41 = .ok (.lload 5, 2) := by decide +kernel
theorem dX7_lay_43 : decode cX7_lay 43 = .ok (.ldiv, 1) := by decide +kernel
theorem dX7_lay_44 : decode cX7_lay 44 = .ok (.putfield 68, 3) := by decide +kernel
theorem dX7_lay_47 : decode cX7_lay 47 = .ok (.return_, 1) := by decide +kernel
theorem dX7_gulls_0 : decode cX7_gulls 0 = .ok (.iload_n 1, 1) := by decide +kernel
theorem dX7_gulls_1 : decode cX7_gulls 1 = .ok (.iconst 0, 1) := by decide +kernel
theorem dX7_gulls_2 : decode cX7_gulls 2 = .ok (.bipush 10, 2) := by decide +kernel
theorem dX7_gulls_4 : decode cX7_gulls 4 = .ok (.invokestatic 106, 3) := by decide +kernel
theorem dX7_gulls_7 : decode cX7_gulls 7 = .ok (.ifCond .ne 8, 3) := by decide +kernel
theorem dX7_gulls_10 : decode cX7_gulls 10 = .ok (.aload_n 0, 1) := by decide +kernel
theorem dX7_gulls_11 : decode cX7_gulls 11 = .ok (.invokevirtual 110, 3) := by decide +kernel
theorem dX7_gulls_14 : decode cX7_gulls 14 = .ok (.ireturn, 1) := by decide +kernel
theorem dX7_gulls_15 : decode cX7_gulls 15 = .ok (.lconst 0, 1) := by decide +kernel
theorem dX7_gulls_16 : decode cX7_gulls 16 = .ok (.lstore_n 2, 1) := by decide +kernel
theorem dX7_gulls_17 : decode cX7_gulls 17 = .ok (.iconst 0, 1) := by decide +kernel
theorem dX7_gulls_18 : decode cX7_gulls 18 = .ok (.istore 4, 2) := by decide +kernel
theorem dX7_gulls_20 : decode cX7_gulls 20 = .ok (.iload 4, 2) := by decide +kernel
theorem dX7_gulls_22 : decode cX7_gulls 22 = .ok (.aload_n 0, 1) := by decide +kernel
theorem dX7_gulls_23 : decode cX7_gulls 23 = .ok (.getfield 81, 3) := by decide +kernel
theorem dX7_gulls_26 : decode cX7_gulls 26 = .ok (.if_icmp .ge 33, 3) := by decide +kernel
theorem dX7_gulls_29 : decode cX7_gulls 29 = .ok (.lload_n 2, 1) := by decide +kernel
theorem dX7_gulls_30 : decode cX7_gulls 30 = .ok (.aload_n 0, 1) := by decide +kernel
theorem dX7_gulls_31 : decode cX7_gulls 31 = .ok (.getfield 22, 3) := by decide +kernel
theorem dX7_gulls_34 : decode cX7_gulls 34 = .ok (.iload 4, 2) := by decide +kernel
theorem dX7_gulls_36 : decode cX7_gulls 36 = .ok (.iaload, 1) := by decide +kernel
theorem dX7_gulls_37 : decode cX7_gulls 37 = .ok (.ifCond .lt 13, 3) := by decide +kernel
theorem dX7_gulls_40 : decode cX7_gulls 40 = .ok (.aload_n 0, 1) := by decide +kernel
theorem dX7_gulls_41 : decode cX7_gulls 41 = .ok (.iload 4, 2) := by decide +kernel
theorem dX7_gulls_43 : decode cX7_gulls 43 = .ok (.invokevirtual 224, 3) := by decide +kernel
theorem dX7_gulls_46 : decode cX7_gulls 46 = .ok (.i2l, 1) := by decide +kernel
theorem dX7_gulls_47 : decode cX7_gulls 47 = .ok (.goto 4, 3) := by decide +kernel
theorem dX7_gulls_50 : decode cX7_gulls 50 = .ok (.lconst 0, 1) := by decide +kernel
theorem dX7_gulls_51 : decode cX7_gulls 51 = .ok (.ladd, 1) := by decide +kernel
theorem dX7_gulls_52 : decode cX7_gulls 52 = .ok (.lstore_n 2, 1) := by decide +kernel
theorem dX7_gulls_53 : decode cX7_gulls 53 = .ok (.iinc 4 1, 3) := by decide +kernel
theorem dX7_gulls_56 : decode cX7_gulls 56 = .ok (.goto (-36), 3) := by decide +kernel
theorem dX7_gulls_59 : decode cX7_gulls 59 = .ok (.aload_n 0, 1) := by decide +kernel
theorem dX7_gulls_60 : decode cX7_gulls 60 = .ok (.lload_n 2, 1) := by decide +kernel
theorem dX7_gulls_61 : decode cX7_gulls 61 = .ok (.bipush 10, 2) := by decide +kernel
theorem dX7_gulls_63 : decode cX7_gulls 63 = .ok (.iload_n 1, 1) := by decide +kernel
theorem dX7_gulls_64 : decode cX7_gulls 64 = .ok (.isub, 1) := by decide +kernel
theorem dX7_gulls_65 : decode cX7_gulls 65 = .ok (.i2l, 1) := by decide +kernel
theorem dX7_gulls_66 : decode cX7_gulls 66 = .ok (.lmul, 1) := by decide +kernel
theorem dX7_gulls_67 : decode cX7_gulls 67 = .ok (.ldc2_w 336, 3) := by decide +kernel
theorem dX7_gulls_70 : decode cX7_gulls 70 = .ok (.invokevirtual 338, 3) := by decide +kernel
theorem dX7_gulls_73 : decode cX7_gulls 73 = .ok (.iconst 1, 1) := by decide +kernel
theorem dX7_gulls_74 : decode cX7_gulls 74 = .ok (.ireturn, 1) := by decide +kernel
theorem dX7_years_0 : decode cX7_years 0 = .ok (.iload_n 1, 1) := by decide +kernel
theorem dX7_years_1 : decode cX7_years 1 = .ok (.iconst 0, 1) := by decide +kernel
theorem dX7_years_2 : decode cX7_years 2 = .ok (.ldc_w 342, 3) := by decide +kernel
theorem dX7_years_5 : decode cX7_years 5 = .ok (.invokestatic 106, 3) := by decide +kernel
theorem dX7_years_8 : decode cX7_years 8 = .ok (.ifCond .eq 13, 3) := by decide +kernel
theorem dX7_years_11 : decode cX7_years 11 = .ok (.iload_n 2, 1) := by decide +kernel
theorem dX7_years_12 : decode cX7_years 12 = .ok (.iconst 0, 1) := by decide +kernel
theorem dX7_years_13 : decode cX7_years 13 = .ok (.bipush 60, 2) := by decide +kernel
theorem dX7_years_15 : decode cX7_years 15 = .ok (.invokestatic 106, 3) := by decide +kernel
theorem dX7_years_18 : decode cX7_years 18 = .ok (.ifCond .ne 8, 3) := by decide +kernel
theorem dX7_years_21 : decode cX7_years 21 = .ok (.aload_n 0, 1) := by decide +kernel
theorem dX7_years_22 : decode cX7_years 22 = .ok (.invokevirtual 110, 3) := by decide +kernel
theorem dX7_years_25 : decode cX7_years 25 = .ok (.ireturn, 1) := by decide +kernel
theorem dX7_years_26 : decode cX7_years 26 = .ok (.aload_n 0, 1) := by decide +kernel
theorem dX7_years_27 : decode cX7_years 27 = .ok (.aload_n 0, 1) := by decide +kernel
theorem dX7_years_28 : decode cX7_years 28 = .ok (.getfield 52, 3) := by decide +kernel
theorem dX7_years_31 : decode cX7_years 31 = .ok (.iconst 0, 1) := by decide +kernel
theorem dX7_years_32 : decode cX7_years 32 = .ok (.invokevirtual 264, 3) := by decide +kernel
theorem dX7_years_35 : decode cX7_years 35 = .ok (.aload_n 0, 1) := by decide +kernel
theorem dX7_years_36 : decode cX7_years 36 = .ok (.iconst 1, 1) := by decide +kernel
theorem dX7_years_37 : decode cX7_years 37 = .ok (.putfield 260, 3) := by decide +kernel
theorem dX7_years_40 : decode cX7_years 40 = .ok (.iload_n 1, 1) := by decide +kernel
theorem dX7_years_41 : decode cX7_years 41 = .ok (.i2l, 1) := by decide +kernel
theorem dX7_years_42 : decode cX7_years 42 = .ok (.lstore_n 3, 1) := by decide +kernel
theorem dX7_years_43 : decode cX7_years 43 = .ok (.iconst 0, 1) := by decide +kernel
theorem dX7_years_44 : decode cX7_years 44 = .ok (.istore 5, 2) := by decide +kernel
theorem dX7_years_46 : decode cX7_years 46 = .ok (.iload 5, 2) := by decide +kernel
theorem dX7_years_48 : decode cX7_years 48 = .ok (.iload_n 2, 1) := by decide +kernel
theorem dX7_years_49 : decode cX7_years 49 = .ok (.if_icmp .ge 87, 3) := by decide +kernel
theorem dX7_years_52 : decode cX7_years 52 = .ok (.lload_n 3, 1) := by decide +kernel
theorem dX7_years_53 : decode cX7_years 53 = .ok (.ldc2_w 343, 3) := by decide +kernel
theorem dX7_years_56 : decode cX7_years 56 = .ok (.lmul, 1) := by decide +kernel
theorem dX7_years_57 : decode cX7_years 57 = .ok (.ldc2_w 345, 3) := by decide +kernel
theorem dX7_years_60 : decode cX7_years 60 = .ok (.ladd, 1) := by decide +kernel
theorem dX7_years_61 : decode cX7_years 61 = .ok (.ldc2_w 347, 3) := by decide +kernel
theorem dX7_years_64 : decode cX7_years 64 = .ok (.lrem, 1) := by decide +kernel
theorem dX7_years_65 : decode cX7_years 65 = .ok (.lstore_n 3, 1) := by decide +kernel
theorem dX7_years_66 : decode cX7_years 66 = .ok (.aload_n 0, 1) := by decide +kernel
theorem dX7_years_67 : decode cX7_years 67 = .ok (.lload_n 3, 1) := by decide +kernel
theorem dX7_years_68 : decode cX7_years 68 = .ok (.ldc2_w 349, 3) := by decide +kernel
theorem dX7_years_71 : decode cX7_years 71 = .ok (.ldiv, 1) := by decide +kernel
theorem dX7_years_72 : decode cX7_years 72 = .ok (.ldc2_w 351, 3) := by decide +kernel
theorem dX7_years_75 : decode cX7_years 75 = .ok (.lrem, 1) := by decide +kernel
theorem dX7_years_76 : decode cX7_years 76 = .ok (.l2i, 1) := by decide +kernel
theorem dX7_years_77 : decode cX7_years 77 = .ok (.iconst 1, 1) := by decide +kernel
theorem dX7_years_78 : decode cX7_years 78 = .ok (.isub, 1) := by decide +kernel
theorem dX7_years_79 : decode cX7_years 79 = .ok (.invokevirtual 167, 3) := by decide +kernel
theorem dX7_years_82 : decode cX7_years 82 = .ok (.pop, 1) := by decide +kernel
theorem dX7_years_83 : decode cX7_years 83 = .ok (.lload_n 3, 1) := by decide +kernel
theorem dX7_years_84 : decode cX7_years 84 = .ok (.ldc2_w 353, 3) := by decide +kernel
theorem dX7_years_87 : decode cX7_years 87 = .ok (.ldiv, 1) := by decide +kernel
theorem dX7_years_88 : decode cX7_years 88 = .ok (.ldc2_w 355, 3) := by decide +kernel
theorem dX7_years_91 : decode cX7_years 91 = .ok (.lrem, 1) := by decide +kernel
theorem dX7_years_92 : decode cX7_years 92 = .ok (.l2i, 1) := by decide +kernel
theorem dX7_years_93 : decode cX7_years 93 = .ok (.istore 6, 2) := by decide +kernel
theorem dX7_years_95 : decode cX7_years 95 = .ok (.aload_n 0, 1) := by decide +kernel
theorem dX7_years_96 : decode cX7_years 96 = .ok (.iload 6, 2) := by decide +kernel
theorem dX7_years_98 : decode cX7_years 98 = .ok (.invokevirtual 276, 3) := by decide +kernel
theorem dX7_years_101 : decode cX7_years 101 = .ok (.ifCond .eq 12, 3) := by decide +kernel
theorem dX7_years_104 : decode cX7_years 104 = .ok (.aload_n 0, 1) := by decide +kernel
theorem dX7_years_105 : decode cX7_years 105 = .ok (.iload 6, 2) := by decide +kernel
theorem dX7_years_107 : decode cX7_years 107 = .ok (.invokevirtual 170, 3) := by decide +kernel
theorem dX7_years_110 : decode cX7_years 110 = .ok (.goto 4, 3) := by decide +kernel
theorem dX7_years_113 : decode cX7_years 113 = .ok (.iconst (-1), 1) := by decide +kernel
theorem dX7_years_114 : decode cX7_years 114 = .ok (.istore 7, 2) := by decide +kernel
theorem dX7_years_116 : decode cX7_years 116 = .ok (.iload 7, 2) := by decide +kernel
theorem dX7_years_118 : decode cX7_years 118 = .ok (.iconst (-1), 1) := by decide +kernel
theorem dX7_years_119 : decode cX7_years 119 = .ok (.if_icmp .eq 11, 3) := by decide +kernel
theorem dX7_years_122 : decode cX7_years 122 = .ok (.aload_n 0, 1) := by decide +kernel
theorem dX7_years_123 : decode cX7_years 123 = .ok (.iload 6, 2) := by decide +kernel
theorem dX7_years_125 : decode cX7_years 125 = .ok (.iload 7, 2) := by decide +kernel
theorem dX7_years_127 : decode cX7_years 127 = .ok (.invokevirtual 173, 3) := by decide +kernel
theorem dX7_years_130 : decode cX7_years 130 = .ok (.iinc 5 1, 3) := by decide +kernel
theorem dX7_years_133 : decode cX7_years 133 = .ok (.goto (-87), 3) := by decide +kernel
theorem dX7_years_136 : decode cX7_years 136 = .ok (.aload_n 0, 1) := by decide +kernel
theorem dX7_years_137 : decode cX7_years 137 = .ok (.iconst 0, 1) := by decide +kernel
theorem dX7_years_138 : decode cX7_years 138 = .ok (.putfield 260, 3) := by decide +kernel
theorem dX7_years_141 : decode cX7_years 141 = .ok (.aload_n 0, 1) := by decide +kernel
theorem dX7_years_142 : decode cX7_years 142 = .ok (.invokevirtual 305, 3) := by decide +kernel
theorem dX7_years_145 : decode cX7_years 145 = .ok (.istore 5, 2) := by decide +kernel
theorem dX7_years_147 : decode cX7_years 147 = .ok (.aload_n 0, 1) := by decide +kernel
theorem dX7_years_148 : decode cX7_years 148 = .ok (.aload_n 0, 1) := by decide +kernel
theorem dX7_years_149 : decode cX7_years 149 = .ok (.getfield 52, 3) := by decide +kernel
theorem dX7_years_152 : decode cX7_years 152 = .ok (.iconst 0, 1) := by decide +kernel
theorem dX7_years_153 : decode cX7_years 153 = .ok (.invokevirtual 279, 3) := by decide +kernel
theorem dX7_years_156 : decode cX7_years 156 = .ok (.iload 5, 2) := by decide +kernel
theorem dX7_years_158 : decode cX7_years 158 = .ok (.ireturn, 1) := by decide +kernel
theorem dX7_part_0 : decode cX7_part 0 = .ok (.iload_n 1, 1) := by decide +kernel
theorem dX7_part_1 : decode cX7_part 1 = .ok (.ifCond .ne 10, 3) := by decide +kernel
theorem dX7_part_4 : decode cX7_part 4 = .ok (.aload_n 0, 1) := by decide +kernel
theorem dX7_part_5 : decode cX7_part 5 = .ok (.getfield 333, 3) := by decide +kernel
theorem dX7_part_8 : decode cX7_part 8 = .ok (.goto 20, 3) := by decide +kernel
theorem dX7_part_11 : decode cX7_part 11 = .ok (.iload_n 1, 1) := by decide +kernel
theorem dX7_part_12 : decode cX7_part 12 = .ok (.iconst 1, 1) := by decide +kernel
theorem dX7_part_13 : decode cX7_part 13 = .ok (.if_icmp .ne 10, 3) := by decide +kernel
theorem dX7_part_16 : decode cX7_part 16 = .ok (.aload_n 0, 1) := by decide +kernel
theorem dX7_part_17 : decode cX7_part 17 = .ok (.getfield 68, 3) := by decide +kernel
theorem dX7_part_20 : decode cX7_part 20 = .ok (.goto 8, 3) := by decide +kernel
theorem dX7_part_23 : decode cX7_part 23 = .ok (.aload_n 0, 1) := by decide +kernel
theorem dX7_part_24 : decode cX7_part 24 = .ok (.invokevirtual 110, 3) := by decide +kernel
theorem dX7_part_27 : decode cX7_part 27 = .ok (.i2l, 1) := by decide +kernel
theorem dX7_part_28 : decode cX7_part 28 = .ok (.lreturn, 1) := by decide +kernel
theorem dX7_layAll_0 : decode cX7_layAll 0 = .ok (.aload_n 0, 1) := by decide +kernel
theorem dX7_layAll_1 : decode cX7_layAll 1 = .ok (.aload_n 1, 1) := by decide +kernel
theorem dX7_layAll_2 : decode cX7_layAll 2 = .ok (.iload_n 2, 1) := by decide +kernel
theorem dX7_layAll_3 : decode cX7_layAll 3 = .ok (.invokevirtual 264, 3) := by decide +kernel
theorem dX7_layAll_6 : decode cX7_layAll 6 = .ok (.aload_n 1, 1) := by decide +kernel
theorem dX7_layAll_7 : decode cX7_layAll 7 = .ok (.iload_n 2, 1) := by decide +kernel
theorem dX7_layAll_8 : decode cX7_layAll 8 = .ok (.bipush 20, 2) := by decide +kernel
theorem dX7_layAll_10 : decode cX7_layAll 10 = .ok (.iadd, 1) := by decide +kernel
theorem dX7_layAll_11 : decode cX7_layAll 11 = .ok (.aload_n 0, 1) := by decide +kernel
theorem dX7_layAll_12 : decode cX7_layAll 12 = .ok (.getfield 81, 3) := by decide +kernel
theorem dX7_layAll_15 : decode cX7_layAll 15 = .ok (.iastore, 1) := by decide +kernel
theorem dX7_layAll_16 : decode cX7_layAll 16 = .ok (.aload_n 1, 1) := by decide +kernel
theorem dX7_layAll_17 : decode cX7_layAll 17 = .ok (.iload_n 2, 1) := by decide +kernel
theorem dX7_layAll_18 : decode cX7_layAll 18 = .ok (.bipush 21, 2) := by decide +kernel
theorem dX7_layAll_20 : decode cX7_layAll 20 = .ok (.iadd, 1) := by decide +kernel
theorem dX7_layAll_21 : decode cX7_layAll 21 = .ok (.aload_n 0, 1) := by decide +kernel
theorem dX7_layAll_22 : decode cX7_layAll 22 = .ok (.getfield 85, 3) := by decide +kernel
theorem dX7_layAll_25 : decode cX7_layAll 25 = .ok (.iastore, 1) := by decide +kernel
theorem dX7_layAll_26 : decode cX7_layAll 26 = .ok (.aload_n 1, 1) := by decide +kernel
theorem dX7_layAll_27 : decode cX7_layAll 27 = .ok (.iload_n 2, 1) := by decide +kernel
theorem dX7_layAll_28 : decode cX7_layAll 28 = .ok (.bipush 22, 2) := by decide +kernel
theorem dX7_layAll_30 : decode cX7_layAll 30 = .ok (.iadd, 1) := by decide +kernel
theorem dX7_layAll_31 : decode cX7_layAll 31 = .ok (.aload_n 0, 1) := by decide +kernel
theorem dX7_layAll_32 : decode cX7_layAll 32 = .ok (.getfield 94, 3) := by decide +kernel
theorem dX7_layAll_35 : decode cX7_layAll 35 = .ok (.iastore, 1) := by decide +kernel
theorem dX7_layAll_36 : decode cX7_layAll 36 = .ok (.aload_n 1, 1) := by decide +kernel
theorem dX7_layAll_37 : decode cX7_layAll 37 = .ok (.iload_n 2, 1) := by decide +kernel
theorem dX7_layAll_38 : decode cX7_layAll 38 = .ok (.bipush 23, 2) := by decide +kernel
theorem dX7_layAll_40 : decode cX7_layAll 40 = .ok (.iadd, 1) := by decide +kernel
theorem dX7_layAll_41 : decode cX7_layAll 41 = .ok (.aload_n 0, 1) := by decide +kernel
theorem dX7_layAll_42 : decode cX7_layAll 42 = .ok (.getfield 97, 3) := by decide +kernel
theorem dX7_layAll_45 : decode cX7_layAll 45 = .ok (.iastore, 1) := by decide +kernel
theorem dX7_layAll_46 : decode cX7_layAll 46 = .ok (.aload_n 1, 1) := by decide +kernel
theorem dX7_layAll_47 : decode cX7_layAll 47 = .ok (.iload_n 2, 1) := by decide +kernel
theorem dX7_layAll_48 : decode cX7_layAll 48 = .ok (.bipush 24, 2) := by decide +kernel
theorem dX7_layAll_50 : decode cX7_layAll 50 = .ok (.iadd, 1) := by decide +kernel
theorem dX7_layAll_51 : decode cX7_layAll 51 = .ok (.aload_n 0, 1) := by decide +kernel
theorem dX7_layAll_52 : decode cX7_layAll 52 = .ok (.getfield 100, 3) := by decide +kernel
theorem dX7_layAll_55 : decode cX7_layAll 55 = .ok (.iastore, 1) := by decide +kernel
theorem dX7_layAll_56 : decode cX7_layAll 56 = .ok (.aload_n 1, 1) := by decide +kernel
theorem dX7_layAll_57 : decode cX7_layAll 57 = .ok (.iload_n 2, 1) := by decide +kernel
theorem dX7_layAll_58 : decode cX7_layAll 58 = .ok (.bipush 25, 2) := by decide +kernel
theorem dX7_layAll_60 : decode cX7_layAll 60 = .ok (.iadd, 1) := by decide +kernel
theorem dX7_layAll_61 : decode cX7_layAll 61 = .ok (.aload_n 0, 1) := by decide +kernel
theorem dX7_layAll_62 : decode cX7_layAll 62 = .ok (.getfield 103, 3) := by decide +kernel
theorem dX7_layAll_65 : decode cX7_layAll 65 = .ok (.iastore, 1) := by decide +kernel
theorem dX7_layAll_66 : decode cX7_layAll 66 = .ok (.iconst 0, 1) := by decide +kernel
theorem dX7_layAll_67 : decode cX7_layAll 67 = .ok (.istore_n 3, 1) := by decide +kernel
theorem dX7_layAll_68 : decode cX7_layAll 68 = .ok (.iload_n 3, 1) := by decide +kernel
theorem dX7_layAll_69 : decode cX7_layAll 69 = .ok (.bipush 12, 2) := by decide +kernel
theorem dX7_layAll_71 : decode cX7_layAll 71 = .ok (.if_icmp .ge 23, 3) := by decide +kernel
theorem dX7_layAll_74 : decode cX7_layAll 74 = .ok (.aload_n 1, 1) := by decide +kernel
theorem dX7_layAll_75 : decode cX7_layAll 75 = .ok (.iload_n 2, 1) := by decide +kernel
theorem dX7_layAll_76 : decode cX7_layAll 76 = .ok (.bipush 26, 2) := by decide +kernel
theorem dX7_layAll_78 : decode cX7_layAll 78 = .ok (.iadd, 1) := by decide +kernel
theorem dX7_layAll_79 : decode cX7_layAll 79 = .ok (.iload_n 3, 1) := by decide +kernel
theorem dX7_layAll_80 : decode cX7_layAll 80 = .ok (.iadd, 1) := by decide +kernel
theorem dX7_layAll_81 : decode cX7_layAll 81 = .ok (.aload_n 0, 1) := by decide +kernel
theorem dX7_layAll_82 : decode cX7_layAll 82 = .ok (.getfield 13, 3) := by decide +kernel
theorem dX7_layAll_85 : decode cX7_layAll 85 = .ok (.iload_n 3, 1) := by decide +kernel
theorem dX7_layAll_86 : decode cX7_layAll 86 = .ok (.iaload, 1) := by decide +kernel
theorem dX7_layAll_87 : decode cX7_layAll 87 = .ok (.iastore, 1) := by decide +kernel
theorem dX7_layAll_88 : decode cX7_layAll 88 = .ok (.iinc 3 1, 3) := by decide +kernel
theorem dX7_layAll_91 : decode cX7_layAll 91 = .ok (.goto (-23), 3) := by decide +kernel
theorem dX7_layAll_94 : decode cX7_layAll 94 = .ok (.iconst 0, 1) := by decide +kernel
theorem dX7_layAll_95 : decode cX7_layAll 95 = .ok (.istore_n 3, 1) := by decide +kernel
theorem dX7_layAll_96 : decode cX7_layAll 96 = .ok (.iload_n 3, 1) := by decide +kernel
theorem dX7_layAll_97 : decode cX7_layAll 97 = .ok (.bipush 6, 2) := by decide +kernel
theorem dX7_layAll_99 : decode cX7_layAll 99 = .ok (.if_icmp .ge 51, 3) := by decide +kernel
theorem dX7_layAll_102 : decode cX7_layAll 102 = .ok (.aload_n 1, 1) := by decide +kernel
theorem dX7_layAll_103 : decode cX7_layAll 103 = .ok (.iload_n 2, 1) := by decide +kernel
theorem dX7_layAll_104 : decode cX7_layAll 104 = .ok (.bipush 38, 2) := by decide +kernel
theorem dX7_layAll_106 : decode cX7_layAll 106 = .ok (.iadd, 1) := by decide +kernel
theorem dX7_layAll_107 : decode cX7_layAll 107 = .ok (.iload_n 3, 1) := by decide +kernel
theorem dX7_layAll_108 : decode cX7_layAll 108 = .ok (.iadd, 1) := by decide +kernel
theorem dX7_layAll_109 : decode cX7_layAll 109 = .ok (.aload_n 0, 1) := by decide +kernel
theorem dX7_layAll_110 : decode cX7_layAll 110 = .ok (.getfield 16, 3) := by decide +kernel
theorem dX7_layAll_113 : decode cX7_layAll 113 = .ok (.iload_n 3, 1) := by decide +kernel
theorem dX7_layAll_114 : decode cX7_layAll 114 = .ok (.iaload, 1) := by decide +kernel
theorem dX7_layAll_115 : decode cX7_layAll 115 = .ok (.iastore, 1) := by decide +kernel
theorem dX7_layAll_116 : decode cX7_layAll 116 = .ok (.aload_n 1, 1) := by decide +kernel
theorem dX7_layAll_117 : decode cX7_layAll 117 = .ok (.iload_n 2, 1) := by decide +kernel
theorem dX7_layAll_118 : decode cX7_layAll 118 = .ok (.bipush 44, 2) := by decide +kernel
theorem dX7_layAll_120 : decode cX7_layAll 120 = .ok (.iadd, 1) := by decide +kernel
theorem dX7_layAll_121 : decode cX7_layAll 121 = .ok (.iload_n 3, 1) := by decide +kernel
theorem dX7_layAll_122 : decode cX7_layAll 122 = .ok (.iadd, 1) := by decide +kernel
theorem dX7_layAll_123 : decode cX7_layAll 123 = .ok (.aload_n 0, 1) := by decide +kernel
theorem dX7_layAll_124 : decode cX7_layAll 124 = .ok (.getfield 19, 3) := by decide +kernel
theorem dX7_layAll_127 : decode cX7_layAll 127 = .ok (.iload_n 3, 1) := by decide +kernel
theorem dX7_layAll_128 : decode cX7_layAll 128 = .ok (.iaload, 1) := by decide +kernel
theorem dX7_layAll_129 : decode cX7_layAll 129 = .ok (.iastore, 1) := by decide +kernel
theorem dX7_layAll_130 : decode cX7_layAll 130 = .ok (.aload_n 1, 1) := by decide +kernel
theorem dX7_layAll_131 : decode cX7_layAll 131 = .ok (.iload_n 2, 1) := by decide +kernel
theorem dX7_layAll_132 : decode cX7_layAll 132 = .ok (.bipush 50, 2) := by decide +kernel
theorem dX7_layAll_134 : decode cX7_layAll 134 = .ok (.iadd, 1) := by decide +kernel
theorem dX7_layAll_135 : decode cX7_layAll 135 = .ok (.iload_n 3, 1) := by decide +kernel
theorem dX7_layAll_136 : decode cX7_layAll 136 = .ok (.iadd, 1) := by decide +kernel
theorem dX7_layAll_137 : decode cX7_layAll 137 = .ok (.aload_n 0, 1) := by decide +kernel
theorem dX7_layAll_138 : decode cX7_layAll 138 = .ok (.getfield 31, 3) := by decide +kernel
theorem dX7_layAll_141 : decode cX7_layAll 141 = .ok (.iload_n 3, 1) := by decide +kernel
theorem dX7_layAll_142 : decode cX7_layAll 142 = .ok (.iaload, 1) := by decide +kernel
theorem dX7_layAll_143 : decode cX7_layAll 143 = .ok (.iastore, 1) := by decide +kernel
theorem dX7_layAll_144 : decode cX7_layAll 144 = .ok (.iinc 3 1, 3) := by decide +kernel
theorem dX7_layAll_147 : decode cX7_layAll 147 = .ok (.goto (-51), 3) := by decide +kernel
theorem dX7_layAll_150 : decode cX7_layAll 150 = .ok (.iconst 0, 1) := by decide +kernel
theorem dX7_layAll_151 : decode cX7_layAll 151 = .ok (.istore_n 3, 1) := by decide +kernel
theorem dX7_layAll_152 : decode cX7_layAll 152 = .ok (.iload_n 3, 1) := by decide +kernel
theorem dX7_layAll_153 : decode cX7_layAll 153 = .ok (.bipush 10, 2) := by decide +kernel
theorem dX7_layAll_155 : decode cX7_layAll 155 = .ok (.if_icmp .ge 23, 3) := by decide +kernel
theorem dX7_layAll_158 : decode cX7_layAll 158 = .ok (.aload_n 1, 1) := by decide +kernel
theorem dX7_layAll_159 : decode cX7_layAll 159 = .ok (.iload_n 2, 1) := by decide +kernel
theorem dX7_layAll_160 : decode cX7_layAll 160 = .ok (.bipush 56, 2) := by decide +kernel
theorem dX7_layAll_162 : decode cX7_layAll 162 = .ok (.iadd, 1) := by decide +kernel
theorem dX7_layAll_163 : decode cX7_layAll 163 = .ok (.iload_n 3, 1) := by decide +kernel
theorem dX7_layAll_164 : decode cX7_layAll 164 = .ok (.iadd, 1) := by decide +kernel
theorem dX7_layAll_165 : decode cX7_layAll 165 = .ok (.aload_n 0, 1) := by decide +kernel
theorem dX7_layAll_166 : decode cX7_layAll 166 = .ok (.getfield 34, 3) := by decide +kernel
theorem dX7_layAll_169 : decode cX7_layAll 169 = .ok (.iload_n 3, 1) := by decide +kernel
theorem dX7_layAll_170 : decode cX7_layAll 170 = .ok (.iaload, 1) := by decide +kernel
theorem dX7_layAll_171 : decode cX7_layAll 171 = .ok (.iastore, 1) := by decide +kernel
theorem dX7_layAll_172 : decode cX7_layAll 172 = .ok (.iinc 3 1, 3) := by decide +kernel
theorem dX7_layAll_175 : decode cX7_layAll 175 = .ok (.goto (-23), 3) := by decide +kernel
theorem dX7_layAll_178 : decode cX7_layAll 178 = .ok (.iconst 0, 1) := by decide +kernel
theorem dX7_layAll_179 : decode cX7_layAll 179 = .ok (.istore_n 3, 1) := by decide +kernel
theorem dX7_layAll_180 : decode cX7_layAll 180 = .ok (.iload_n 3, 1) := by decide +kernel
theorem dX7_layAll_181 : decode cX7_layAll 181 = .ok (.bipush 24, 2) := by decide +kernel
theorem dX7_layAll_183 : decode cX7_layAll 183 = .ok (.if_icmp .ge 23, 3) := by decide +kernel
theorem dX7_layAll_186 : decode cX7_layAll 186 = .ok (.aload_n 1, 1) := by decide +kernel
theorem dX7_layAll_187 : decode cX7_layAll 187 = .ok (.iload_n 2, 1) := by decide +kernel
theorem dX7_layAll_188 : decode cX7_layAll 188 = .ok (.bipush 66, 2) := by decide +kernel
theorem dX7_layAll_190 : decode cX7_layAll 190 = .ok (.iadd, 1) := by decide +kernel
theorem dX7_layAll_191 : decode cX7_layAll 191 = .ok (.iload_n 3, 1) := by decide +kernel
theorem dX7_layAll_192 : decode cX7_layAll 192 = .ok (.iadd, 1) := by decide +kernel
theorem dX7_layAll_193 : decode cX7_layAll 193 = .ok (.aload_n 0, 1) := by decide +kernel
theorem dX7_layAll_194 : decode cX7_layAll 194 = .ok (.getfield 37, 3) := by decide +kernel
theorem dX7_layAll_197 : decode cX7_layAll 197 = .ok (.iload_n 3, 1) := by decide +kernel
theorem dX7_layAll_198 : decode cX7_layAll 198 = .ok (.iaload, 1) := by decide +kernel
theorem dX7_layAll_199 : decode cX7_layAll 199 = .ok (.iastore, 1) := by decide +kernel
theorem dX7_layAll_200 : decode cX7_layAll 200 = .ok (.iinc 3 1, 3) := by decide +kernel
theorem dX7_layAll_203 : decode cX7_layAll 203 = .ok (.goto (-23), 3) := by decide +kernel
theorem dX7_layAll_206 : decode cX7_layAll 206 = .ok (.iconst 0, 1) := by decide +kernel
theorem dX7_layAll_207 : decode cX7_layAll 207 = .ok (.istore_n 3, 1) := by decide +kernel
theorem dX7_layAll_208 : decode cX7_layAll 208 = .ok (.iload_n 3, 1) := by decide +kernel
theorem dX7_layAll_209 : decode cX7_layAll 209 = .ok (.bipush 18, 2) := by decide +kernel
theorem dX7_layAll_211 : decode cX7_layAll 211 = .ok (.if_icmp .ge 23, 3) := by decide +kernel
theorem dX7_layAll_214 : decode cX7_layAll 214 = .ok (.aload_n 1, 1) := by decide +kernel
theorem dX7_layAll_215 : decode cX7_layAll 215 = .ok (.iload_n 2, 1) := by decide +kernel
theorem dX7_layAll_216 : decode cX7_layAll 216 = .ok (.bipush 90, 2) := by decide +kernel
theorem dX7_layAll_218 : decode cX7_layAll 218 = .ok (.iadd, 1) := by decide +kernel
theorem dX7_layAll_219 : decode cX7_layAll 219 = .ok (.iload_n 3, 1) := by decide +kernel
theorem dX7_layAll_220 : decode cX7_layAll 220 = .ok (.iadd, 1) := by decide +kernel
theorem dX7_layAll_221 : decode cX7_layAll 221 = .ok (.aload_n 0, 1) := by decide +kernel
theorem dX7_layAll_222 : decode cX7_layAll 222 = .ok (.getfield 40, 3) := by decide +kernel
theorem dX7_layAll_225 : decode cX7_layAll 225 = .ok (.iload_n 3, 1) := by decide +kernel
theorem dX7_layAll_226 : decode cX7_layAll 226 = .ok (.iaload, 1) := by decide +kernel
theorem dX7_layAll_227 : decode cX7_layAll 227 = .ok (.iastore, 1) := by decide +kernel
theorem dX7_layAll_228 : decode cX7_layAll 228 = .ok (.iinc 3 1, 3) := by decide +kernel
theorem dX7_layAll_231 : decode cX7_layAll 231 = .ok (.goto (-23), 3) := by decide +kernel
theorem dX7_layAll_234 : decode cX7_layAll 234 = .ok (.iconst 0, 1) := by decide +kernel
theorem dX7_layAll_235 : decode cX7_layAll 235 = .ok (.istore_n 3, 1) := by decide +kernel
theorem dX7_layAll_236 : decode cX7_layAll 236 = .ok (.iload_n 3, 1) := by decide +kernel
theorem dX7_layAll_237 : decode cX7_layAll 237 = .ok (.sipush 160, 3) := by decide +kernel
theorem dX7_layAll_240 : decode cX7_layAll 240 = .ok (.if_icmp .ge 23, 3) := by decide +kernel
theorem dX7_layAll_243 : decode cX7_layAll 243 = .ok (.aload_n 1, 1) := by decide +kernel
theorem dX7_layAll_244 : decode cX7_layAll 244 = .ok (.iload_n 2, 1) := by decide +kernel
theorem dX7_layAll_245 : decode cX7_layAll 245 = .ok (.bipush 108, 2) := by decide +kernel
theorem dX7_layAll_247 : decode cX7_layAll 247 = .ok (.iadd, 1) := by decide +kernel
theorem dX7_layAll_248 : decode cX7_layAll 248 = .ok (.iload_n 3, 1) := by decide +kernel
theorem dX7_layAll_249 : decode cX7_layAll 249 = .ok (.iadd, 1) := by decide +kernel
theorem dX7_layAll_250 : decode cX7_layAll 250 = .ok (.aload_n 0, 1) := by decide +kernel
theorem dX7_layAll_251 : decode cX7_layAll 251 = .ok (.getfield 49, 3) := by decide +kernel
theorem dX7_layAll_254 : decode cX7_layAll 254 = .ok (.iload_n 3, 1) := by decide +kernel
theorem dX7_layAll_255 : decode cX7_layAll 255 = .ok (.iaload, 1) := by decide +kernel
theorem dX7_layAll_256 : decode cX7_layAll 256 = .ok (.iastore, 1) := by decide +kernel
theorem dX7_layAll_257 : decode cX7_layAll 257 = .ok (.iinc 3 1, 3) := by decide +kernel
theorem dX7_layAll_260 : decode cX7_layAll 260 = .ok (.goto (-24), 3) := by decide +kernel
theorem dX7_layAll_263 : decode cX7_layAll 263 = .ok (.return_, 1) := by decide +kernel
theorem dX7_takeAll_0 : decode cX7_takeAll 0 = .ok (.aload_n 0, 1) := by decide +kernel
theorem dX7_takeAll_1 : decode cX7_takeAll 1 = .ok (.aload_n 1, 1) := by decide +kernel
theorem dX7_takeAll_2 : decode cX7_takeAll 2 = .ok (.iload_n 2, 1) := by decide +kernel
theorem dX7_takeAll_3 : decode cX7_takeAll 3 = .ok (.invokevirtual 279, 3) := by decide +kernel
theorem dX7_takeAll_6 : decode cX7_takeAll 6 = .ok (.aload_n 0, 1) := by decide +kernel
theorem dX7_takeAll_7 : decode cX7_takeAll 7 = .ok (.aload_n 1, 1) := by decide +kernel
theorem dX7_takeAll_8 : decode cX7_takeAll 8 = .ok (.iload_n 2, 1) := by decide +kernel
theorem dX7_takeAll_9 : decode cX7_takeAll 9 = .ok (.bipush 20, 2) := by decide +kernel
theorem dX7_takeAll_11 : decode cX7_takeAll 11 = .ok (.iadd, 1) := by decide +kernel
theorem dX7_takeAll_12 : decode cX7_takeAll 12 = .ok (.iaload, 1) := by decide +kernel
theorem dX7_takeAll_13 : decode cX7_takeAll 13 = .ok (.putfield 81, 3) := by decide +kernel
theorem dX7_takeAll_16 : decode cX7_takeAll 16 = .ok (.aload_n 0, 1) := by decide +kernel
theorem dX7_takeAll_17 : decode cX7_takeAll 17 = .ok (.aload_n 1, 1) := by decide +kernel
theorem dX7_takeAll_18 : decode cX7_takeAll 18 = .ok (.iload_n 2, 1) := by decide +kernel
theorem dX7_takeAll_19 : decode cX7_takeAll 19 = .ok (.bipush 21, 2) := by decide +kernel
theorem dX7_takeAll_21 : decode cX7_takeAll 21 = .ok (.iadd, 1) := by decide +kernel
theorem dX7_takeAll_22 : decode cX7_takeAll 22 = .ok (.iaload, 1) := by decide +kernel
theorem dX7_takeAll_23 : decode cX7_takeAll 23 = .ok (.putfield 85, 3) := by decide +kernel
theorem dX7_takeAll_26 : decode cX7_takeAll 26 = .ok (.aload_n 0, 1) := by decide +kernel
theorem dX7_takeAll_27 : decode cX7_takeAll 27 = .ok (.aload_n 1, 1) := by decide +kernel
theorem dX7_takeAll_28 : decode cX7_takeAll 28 = .ok (.iload_n 2, 1) := by decide +kernel
theorem dX7_takeAll_29 : decode cX7_takeAll 29 = .ok (.bipush 22, 2) := by decide +kernel
theorem dX7_takeAll_31 : decode cX7_takeAll 31 = .ok (.iadd, 1) := by decide +kernel
theorem dX7_takeAll_32 : decode cX7_takeAll 32 = .ok (.iaload, 1) := by decide +kernel
theorem dX7_takeAll_33 : decode cX7_takeAll 33 = .ok (.putfield 94, 3) := by decide +kernel
theorem dX7_takeAll_36 : decode cX7_takeAll 36 = .ok (.aload_n 0, 1) := by decide +kernel
theorem dX7_takeAll_37 : decode cX7_takeAll 37 = .ok (.aload_n 1, 1) := by decide +kernel
theorem dX7_takeAll_38 : decode cX7_takeAll 38 = .ok (.iload_n 2, 1) := by decide +kernel
theorem dX7_takeAll_39 : decode cX7_takeAll 39 = .ok (.bipush 23, 2) := by decide +kernel
theorem dX7_takeAll_41 : decode cX7_takeAll 41 = .ok (.iadd, 1) := by decide +kernel
theorem dX7_takeAll_42 : decode cX7_takeAll 42 = .ok (.iaload, 1) := by decide +kernel
theorem dX7_takeAll_43 : decode cX7_takeAll 43 = .ok (.putfield 97, 3) := by decide +kernel
theorem dX7_takeAll_46 : decode cX7_takeAll 46 = .ok (.aload_n 0, 1) := by decide +kernel
theorem dX7_takeAll_47 : decode cX7_takeAll 47 = .ok (.aload_n 1, 1) := by decide +kernel
theorem dX7_takeAll_48 : decode cX7_takeAll 48 = .ok (.iload_n 2, 1) := by decide +kernel
theorem dX7_takeAll_49 : decode cX7_takeAll 49 = .ok (.bipush 24, 2) := by decide +kernel
theorem dX7_takeAll_51 : decode cX7_takeAll 51 = .ok (.iadd, 1) := by decide +kernel
theorem dX7_takeAll_52 : decode cX7_takeAll 52 = .ok (.iaload, 1) := by decide +kernel
theorem dX7_takeAll_53 : decode cX7_takeAll 53 = .ok (.putfield 100, 3) := by decide +kernel
theorem dX7_takeAll_56 : decode cX7_takeAll 56 = .ok (.aload_n 0, 1) := by decide +kernel
theorem dX7_takeAll_57 : decode cX7_takeAll 57 = .ok (.aload_n 1, 1) := by decide +kernel
theorem dX7_takeAll_58 : decode cX7_takeAll 58 = .ok (.iload_n 2, 1) := by decide +kernel
theorem dX7_takeAll_59 : decode cX7_takeAll 59 = .ok (.bipush 25, 2) := by decide +kernel
theorem dX7_takeAll_61 : decode cX7_takeAll 61 = .ok (.iadd, 1) := by decide +kernel
theorem dX7_takeAll_62 : decode cX7_takeAll 62 = .ok (.iaload, 1) := by decide +kernel
theorem dX7_takeAll_63 : decode cX7_takeAll 63 = .ok (.putfield 103, 3) := by decide +kernel
theorem dX7_takeAll_66 : decode cX7_takeAll 66 = .ok (.iconst 0, 1) := by decide +kernel
theorem dX7_takeAll_67 : decode cX7_takeAll 67 = .ok (.istore_n 3, 1) := by decide +kernel
theorem dX7_takeAll_68 : decode cX7_takeAll 68 = .ok (.iload_n 3, 1) := by decide +kernel
theorem dX7_takeAll_69 : decode cX7_takeAll 69 = .ok (.bipush 12, 2) := by decide +kernel
theorem dX7_takeAll_71 : decode cX7_takeAll 71 = .ok (.if_icmp .ge 23, 3) := by decide +kernel
theorem dX7_takeAll_74 : decode cX7_takeAll 74 = .ok (.aload_n 0, 1) := by decide +kernel
theorem dX7_takeAll_75 : decode cX7_takeAll 75 = .ok (.getfield 13, 3) := by decide +kernel
theorem dX7_takeAll_78 : decode cX7_takeAll 78 = .ok (.iload_n 3, 1) := by decide +kernel
theorem dX7_takeAll_79 : decode cX7_takeAll 79 = .ok (.aload_n 1, 1) := by decide +kernel
theorem dX7_takeAll_80 : decode cX7_takeAll 80 = .ok (.iload_n 2, 1) := by decide +kernel
theorem dX7_takeAll_81 : decode cX7_takeAll 81 = .ok (.bipush 26, 2) := by decide +kernel
theorem dX7_takeAll_83 : decode cX7_takeAll 83 = .ok (.iadd, 1) := by decide +kernel
theorem dX7_takeAll_84 : decode cX7_takeAll 84 = .ok (.iload_n 3, 1) := by decide +kernel
theorem dX7_takeAll_85 : decode cX7_takeAll 85 = .ok (.iadd, 1) := by decide +kernel
theorem dX7_takeAll_86 : decode cX7_takeAll 86 = .ok (.iaload, 1) := by decide +kernel
theorem dX7_takeAll_87 : decode cX7_takeAll 87 = .ok (.iastore, 1) := by decide +kernel
theorem dX7_takeAll_88 : decode cX7_takeAll 88 = .ok (.iinc 3 1, 3) := by decide +kernel
theorem dX7_takeAll_91 : decode cX7_takeAll 91 = .ok (.goto (-23), 3) := by decide +kernel
theorem dX7_takeAll_94 : decode cX7_takeAll 94 = .ok (.iconst 0, 1) := by decide +kernel
theorem dX7_takeAll_95 : decode cX7_takeAll 95 = .ok (.istore_n 3, 1) := by decide +kernel
theorem dX7_takeAll_96 : decode cX7_takeAll 96 = .ok (.iload_n 3, 1) := by decide +kernel
theorem dX7_takeAll_97 : decode cX7_takeAll 97 = .ok (.bipush 6, 2) := by decide +kernel
theorem dX7_takeAll_99 : decode cX7_takeAll 99 = .ok (.if_icmp .ge 51, 3) := by decide +kernel
theorem dX7_takeAll_102 : decode cX7_takeAll 102 = .ok (.aload_n 0, 1) := by decide +kernel
theorem dX7_takeAll_103 : decode cX7_takeAll 103 = .ok (.getfield 16, 3) := by decide +kernel
theorem dX7_takeAll_106 : decode cX7_takeAll 106 = .ok (.iload_n 3, 1) := by decide +kernel
theorem dX7_takeAll_107 : decode cX7_takeAll 107 = .ok (.aload_n 1, 1) := by decide +kernel
theorem dX7_takeAll_108 : decode cX7_takeAll 108 = .ok (.iload_n 2, 1) := by decide +kernel
theorem dX7_takeAll_109 : decode cX7_takeAll 109 = .ok (.bipush 38, 2) := by decide +kernel
theorem dX7_takeAll_111 : decode cX7_takeAll 111 = .ok (.iadd, 1) := by decide +kernel
theorem dX7_takeAll_112 : decode cX7_takeAll 112 = .ok (.iload_n 3, 1) := by decide +kernel
theorem dX7_takeAll_113 : decode cX7_takeAll 113 = .ok (.iadd, 1) := by decide +kernel
theorem dX7_takeAll_114 : decode cX7_takeAll 114 = .ok (.iaload, 1) := by decide +kernel
theorem dX7_takeAll_115 : decode cX7_takeAll 115 = .ok (.iastore, 1) := by decide +kernel
theorem dX7_takeAll_116 : decode cX7_takeAll 116 = .ok (.aload_n 0, 1) := by decide +kernel
theorem dX7_takeAll_117 : decode cX7_takeAll 117 = .ok (.getfield 19, 3) := by decide +kernel
theorem dX7_takeAll_120 : decode cX7_takeAll 120 = .ok (.iload_n 3, 1) := by decide +kernel
theorem dX7_takeAll_121 : decode cX7_takeAll 121 = .ok (.aload_n 1, 1) := by decide +kernel
theorem dX7_takeAll_122 : decode cX7_takeAll 122 = .ok (.iload_n 2, 1) := by decide +kernel
theorem dX7_takeAll_123 : decode cX7_takeAll 123 = .ok (.bipush 44, 2) := by decide +kernel
theorem dX7_takeAll_125 : decode cX7_takeAll 125 = .ok (.iadd, 1) := by decide +kernel
theorem dX7_takeAll_126 : decode cX7_takeAll 126 = .ok (.iload_n 3, 1) := by decide +kernel
theorem dX7_takeAll_127 : decode cX7_takeAll 127 = .ok (.iadd, 1) := by decide +kernel
theorem dX7_takeAll_128 : decode cX7_takeAll 128 = .ok (.iaload, 1) := by decide +kernel
theorem dX7_takeAll_129 : decode cX7_takeAll 129 = .ok (.iastore, 1) := by decide +kernel
theorem dX7_takeAll_130 : decode cX7_takeAll 130 = .ok (.aload_n 0, 1) := by decide +kernel
theorem dX7_takeAll_131 : decode cX7_takeAll 131 = .ok (.getfield 31, 3) := by decide +kernel
theorem dX7_takeAll_134 : decode cX7_takeAll 134 = .ok (.iload_n 3, 1) := by decide +kernel
theorem dX7_takeAll_135 : decode cX7_takeAll 135 = .ok (.aload_n 1, 1) := by decide +kernel
theorem dX7_takeAll_136 : decode cX7_takeAll 136 = .ok (.iload_n 2, 1) := by decide +kernel
theorem dX7_takeAll_137 : decode cX7_takeAll 137 = .ok (.bipush 50, 2) := by decide +kernel
theorem dX7_takeAll_139 : decode cX7_takeAll 139 = .ok (.iadd, 1) := by decide +kernel
theorem dX7_takeAll_140 : decode cX7_takeAll 140 = .ok (.iload_n 3, 1) := by decide +kernel
theorem dX7_takeAll_141 : decode cX7_takeAll 141 = .ok (.iadd, 1) := by decide +kernel
theorem dX7_takeAll_142 : decode cX7_takeAll 142 = .ok (.iaload, 1) := by decide +kernel
theorem dX7_takeAll_143 : decode cX7_takeAll 143 = .ok (.iastore, 1) := by decide +kernel
theorem dX7_takeAll_144 : decode cX7_takeAll 144 = .ok (.iinc 3 1, 3) := by decide +kernel
theorem dX7_takeAll_147 : decode cX7_takeAll 147 = .ok (.goto (-51), 3) := by decide +kernel
theorem dX7_takeAll_150 : decode cX7_takeAll 150 = .ok (.iconst 0, 1) := by decide +kernel
theorem dX7_takeAll_151 : decode cX7_takeAll 151 = .ok (.istore_n 3, 1) := by decide +kernel
theorem dX7_takeAll_152 : decode cX7_takeAll 152 = .ok (.iload_n 3, 1) := by decide +kernel
theorem dX7_takeAll_153 : decode cX7_takeAll 153 = .ok (.bipush 10, 2) := by decide +kernel
theorem dX7_takeAll_155 : decode cX7_takeAll 155 = .ok (.if_icmp .ge 23, 3) := by decide +kernel
theorem dX7_takeAll_158 : decode cX7_takeAll 158 = .ok (.aload_n 0, 1) := by decide +kernel
theorem dX7_takeAll_159 : decode cX7_takeAll 159 = .ok (.getfield 34, 3) := by decide +kernel
theorem dX7_takeAll_162 : decode cX7_takeAll 162 = .ok (.iload_n 3, 1) := by decide +kernel
theorem dX7_takeAll_163 : decode cX7_takeAll 163 = .ok (.aload_n 1, 1) := by decide +kernel
theorem dX7_takeAll_164 : decode cX7_takeAll 164 = .ok (.iload_n 2, 1) := by decide +kernel
theorem dX7_takeAll_165 : decode cX7_takeAll 165 = .ok (.bipush 56, 2) := by decide +kernel
theorem dX7_takeAll_167 : decode cX7_takeAll 167 = .ok (.iadd, 1) := by decide +kernel
theorem dX7_takeAll_168 : decode cX7_takeAll 168 = .ok (.iload_n 3, 1) := by decide +kernel
theorem dX7_takeAll_169 : decode cX7_takeAll 169 = .ok (.iadd, 1) := by decide +kernel
theorem dX7_takeAll_170 : decode cX7_takeAll 170 = .ok (.iaload, 1) := by decide +kernel
theorem dX7_takeAll_171 : decode cX7_takeAll 171 = .ok (.iastore, 1) := by decide +kernel
theorem dX7_takeAll_172 : decode cX7_takeAll 172 = .ok (.iinc 3 1, 3) := by decide +kernel
theorem dX7_takeAll_175 : decode cX7_takeAll 175 = .ok (.goto (-23), 3) := by decide +kernel
theorem dX7_takeAll_178 : decode cX7_takeAll 178 = .ok (.iconst 0, 1) := by decide +kernel
theorem dX7_takeAll_179 : decode cX7_takeAll 179 = .ok (.istore_n 3, 1) := by decide +kernel
theorem dX7_takeAll_180 : decode cX7_takeAll 180 = .ok (.iload_n 3, 1) := by decide +kernel
theorem dX7_takeAll_181 : decode cX7_takeAll 181 = .ok (.bipush 24, 2) := by decide +kernel
theorem dX7_takeAll_183 : decode cX7_takeAll 183 = .ok (.if_icmp .ge 23, 3) := by decide +kernel
theorem dX7_takeAll_186 : decode cX7_takeAll 186 = .ok (.aload_n 0, 1) := by decide +kernel
theorem dX7_takeAll_187 : decode cX7_takeAll 187 = .ok (.getfield 37, 3) := by decide +kernel
theorem dX7_takeAll_190 : decode cX7_takeAll 190 = .ok (.iload_n 3, 1) := by decide +kernel
theorem dX7_takeAll_191 : decode cX7_takeAll 191 = .ok (.aload_n 1, 1) := by decide +kernel
theorem dX7_takeAll_192 : decode cX7_takeAll 192 = .ok (.iload_n 2, 1) := by decide +kernel
theorem dX7_takeAll_193 : decode cX7_takeAll 193 = .ok (.bipush 66, 2) := by decide +kernel
theorem dX7_takeAll_195 : decode cX7_takeAll 195 = .ok (.iadd, 1) := by decide +kernel
theorem dX7_takeAll_196 : decode cX7_takeAll 196 = .ok (.iload_n 3, 1) := by decide +kernel
theorem dX7_takeAll_197 : decode cX7_takeAll 197 = .ok (.iadd, 1) := by decide +kernel
theorem dX7_takeAll_198 : decode cX7_takeAll 198 = .ok (.iaload, 1) := by decide +kernel
theorem dX7_takeAll_199 : decode cX7_takeAll 199 = .ok (.iastore, 1) := by decide +kernel
theorem dX7_takeAll_200 : decode cX7_takeAll 200 = .ok (.iinc 3 1, 3) := by decide +kernel
theorem dX7_takeAll_203 : decode cX7_takeAll 203 = .ok (.goto (-23), 3) := by decide +kernel
theorem dX7_takeAll_206 : decode cX7_takeAll 206 = .ok (.iconst 0, 1) := by decide +kernel
theorem dX7_takeAll_207 : decode cX7_takeAll 207 = .ok (.istore_n 3, 1) := by decide +kernel
theorem dX7_takeAll_208 : decode cX7_takeAll 208 = .ok (.iload_n 3, 1) := by decide +kernel
theorem dX7_takeAll_209 : decode cX7_takeAll 209 = .ok (.bipush 18, 2) := by decide +kernel
theorem dX7_takeAll_211 : decode cX7_takeAll 211 = .ok (.if_icmp .ge 23, 3) := by decide +kernel
theorem dX7_takeAll_214 : decode cX7_takeAll 214 = .ok (.aload_n 0, 1) := by decide +kernel
theorem dX7_takeAll_215 : decode cX7_takeAll 215 = .ok (.getfield 40, 3) := by decide +kernel
theorem dX7_takeAll_218 : decode cX7_takeAll 218 = .ok (.iload_n 3, 1) := by decide +kernel
theorem dX7_takeAll_219 : decode cX7_takeAll 219 = .ok (.aload_n 1, 1) := by decide +kernel
theorem dX7_takeAll_220 : decode cX7_takeAll 220 = .ok (.iload_n 2, 1) := by decide +kernel
theorem dX7_takeAll_221 : decode cX7_takeAll 221 = .ok (.bipush 90, 2) := by decide +kernel
theorem dX7_takeAll_223 : decode cX7_takeAll 223 = .ok (.iadd, 1) := by decide +kernel
theorem dX7_takeAll_224 : decode cX7_takeAll 224 = .ok (.iload_n 3, 1) := by decide +kernel
theorem dX7_takeAll_225 : decode cX7_takeAll 225 = .ok (.iadd, 1) := by decide +kernel
theorem dX7_takeAll_226 : decode cX7_takeAll 226 = .ok (.iaload, 1) := by decide +kernel
theorem dX7_takeAll_227 : decode cX7_takeAll 227 = .ok (.iastore, 1) := by decide +kernel
theorem dX7_takeAll_228 : decode cX7_takeAll 228 = .ok (.iinc 3 1, 3) := by decide +kernel
theorem dX7_takeAll_231 : decode cX7_takeAll 231 = .ok (.goto (-23), 3) := by decide +kernel
theorem dX7_takeAll_234 : decode cX7_takeAll 234 = .ok (.iconst 0, 1) := by decide +kernel
theorem dX7_takeAll_235 : decode cX7_takeAll 235 = .ok (.istore_n 3, 1) := by decide +kernel
theorem dX7_takeAll_236 : decode cX7_takeAll 236 = .ok (.iload_n 3, 1) := by decide +kernel
theorem dX7_takeAll_237 : decode cX7_takeAll 237 = .ok (.sipush 160, 3) := by decide +kernel
theorem dX7_takeAll_240 : decode cX7_takeAll 240 = .ok (.if_icmp .ge 23, 3) := by decide +kernel
theorem dX7_takeAll_243 : decode cX7_takeAll 243 = .ok (.aload_n 0, 1) := by decide +kernel
theorem dX7_takeAll_244 : decode cX7_takeAll 244 = .ok (.getfield 49, 3) := by decide +kernel
theorem dX7_takeAll_247 : decode cX7_takeAll 247 = .ok (.iload_n 3, 1) := by decide +kernel
theorem dX7_takeAll_248 : decode cX7_takeAll 248 = .ok (.aload_n 1, 1) := by decide +kernel
theorem dX7_takeAll_249 : decode cX7_takeAll 249 = .ok (.iload_n 2, 1) := by decide +kernel
theorem dX7_takeAll_250 : decode cX7_takeAll 250 = .ok (.bipush 108, 2) := by decide +kernel
theorem dX7_takeAll_252 : decode cX7_takeAll 252 = .ok (.iadd, 1) := by decide +kernel
theorem dX7_takeAll_253 : decode cX7_takeAll 253 = .ok (.iload_n 3, 1) := by decide +kernel
theorem dX7_takeAll_254 : decode cX7_takeAll 254 = .ok (.iadd, 1) := by decide +kernel
theorem dX7_takeAll_255 : decode cX7_takeAll 255 = .ok (.iaload, 1) := by decide +kernel
theorem dX7_takeAll_256 : decode cX7_takeAll 256 = .ok (.iastore, 1) := by decide +kernel
theorem dX7_takeAll_257 : decode cX7_takeAll 257 = .ok (.iinc 3 1, 3) := by decide +kernel
theorem dX7_takeAll_260 : decode cX7_takeAll 260 = .ok (.goto (-24), 3) := by decide +kernel
theorem dX7_takeAll_263 : decode cX7_takeAll 263 = .ok (.return_, 1) := by decide +kernel
theorem dX7_image_0 : decode cX7_image 0 = .ok (.iload_n 1, 1) := by decide +kernel
theorem dX7_image_1 : decode cX7_image 1 = .ok (.iconst 0, 1) := by decide +kernel
theorem dX7_image_2 : decode cX7_image 2 = .ok (.iconst 1, 1) := by decide +kernel
theorem dX7_image_3 : decode cX7_image 3 = .ok (.invokestatic 106, 3) := by decide +kernel
theorem dX7_image_6 : decode cX7_image 6 = .ok (.ifCond .ne 8, 3) := by decide +kernel
theorem dX7_image_9 : decode cX7_image 9 = .ok (.aload_n 0, 1) := by decide +kernel
theorem dX7_image_10 : decode cX7_image 10 = .ok (.invokevirtual 110, 3) := by decide +kernel
theorem dX7_image_13 : decode cX7_image 13 = .ok (.ireturn, 1) := by decide +kernel
theorem dX7_image_14 : decode cX7_image 14 = .ok (.aload_n 0, 1) := by decide +kernel
theorem dX7_image_15 : decode cX7_image 15 = .ok (.getfield 75, 3) := by decide +kernel
theorem dX7_image_18 : decode cX7_image 18 = .ok (.iload_n 1, 1) := by decide +kernel
theorem dX7_image_19 : decode cX7_image 19 = .ok (.iconst 1, 1) := by decide +kernel
theorem dX7_image_20 : decode cX7_image 20 = .ok (.iastore, 1) := by decide +kernel
theorem dX7_image_21 : decode cX7_image 21 = .ok (.aload_n 0, 1) := by decide +kernel
theorem dX7_image_22 : decode cX7_image 22 = .ok (.aload_n 0, 1) := by decide +kernel
theorem dX7_image_23 : decode cX7_image 23 = .ok (.getfield 72, 3) := by decide +kernel
theorem dX7_image_26 : decode cX7_image 26 = .ok (.sipush 280, 3) := by decide +kernel
theorem dX7_image_29 : decode cX7_image 29 = .ok (.iload_n 1, 1) := by decide +kernel
theorem dX7_image_30 : decode cX7_image 30 = .ok (.imul, 1) := by decide +kernel
theorem dX7_image_31 : decode cX7_image 31 = .ok (.invokevirtual 204, 3) := by decide +kernel
theorem dX7_image_34 : decode cX7_image 34 = .ok (.iconst 1, 1) := by decide +kernel
theorem dX7_image_35 : decode cX7_image 35 = .ok (.ireturn, 1) := by decide +kernel
theorem dX7_from_0 : decode cX7_from 0 = .ok (.iload_n 1, 1) := by decide +kernel
theorem dX7_from_1 : decode cX7_from 1 = .ok (.iconst 0, 1) := by decide +kernel
theorem dX7_from_2 : decode cX7_from 2 = .ok (.iconst 1, 1) := by decide +kernel
theorem dX7_from_3 : decode cX7_from 3 = .ok (.invokestatic 106, 3) := by decide +kernel
theorem dX7_from_6 : decode cX7_from 6 = .ok (.ifCond .ne 8, 3) := by decide +kernel
theorem dX7_from_9 : decode cX7_from 9 = .ok (.aload_n 0, 1) := by decide +kernel
theorem dX7_from_10 : decode cX7_from 10 = .ok (.invokevirtual 110, 3) := by decide +kernel
theorem dX7_from_13 : decode cX7_from 13 = .ok (.ireturn, 1) := by decide +kernel
theorem dX7_from_14 : decode cX7_from 14 = .ok (.aload_n 0, 1) := by decide +kernel
theorem dX7_from_15 : decode cX7_from 15 = .ok (.getfield 75, 3) := by decide +kernel
theorem dX7_from_18 : decode cX7_from 18 = .ok (.iload_n 1, 1) := by decide +kernel
theorem dX7_from_19 : decode cX7_from 19 = .ok (.iaload, 1) := by decide +kernel
theorem dX7_from_20 : decode cX7_from 20 = .ok (.ifCond .ne 8, 3) := by decide +kernel
theorem dX7_from_23 : decode cX7_from 23 = .ok (.aload_n 0, 1) := by decide +kernel
theorem dX7_from_24 : decode cX7_from 24 = .ok (.invokevirtual 273, 3) := by decide +kernel
theorem dX7_from_27 : decode cX7_from 27 = .ok (.ireturn, 1) := by decide +kernel
theorem dX7_from_28 : decode cX7_from 28 = .ok (.aload_n 0, 1) := by decide +kernel
theorem dX7_from_29 : decode cX7_from 29 = .ok (.aload_n 0, 1) := by decide +kernel
theorem dX7_from_30 : decode cX7_from 30 = .ok (.getfield 72, 3) := by decide +kernel
theorem dX7_from_33 : decode cX7_from 33 = .ok (.sipush 280, 3) := by decide +kernel
theorem dX7_from_36 : decode cX7_from 36 = .ok (.iload_n 1, 1) := by decide +kernel
theorem dX7_from_37 : decode cX7_from 37 = .ok (.imul, 1) := by decide +kernel
theorem dX7_from_38 : decode cX7_from 38 = .ok (.invokevirtual 211, 3) := by decide +kernel
theorem dX7_from_41 : decode cX7_from 41 = .ok (.iconst 1, 1) := by decide +kernel
theorem dX7_from_42 : decode cX7_from 42 = .ok (.ireturn, 1) := by decide +kernel
theorem dX7_status_0 : decode cX7_status 0 = .ok (.iload_n 1, 1) := by decide +kernel
theorem dX7_status_1 : decode cX7_status 1 = .ok (.iconst 0, 1) := by decide +kernel
theorem dX7_status_2 : decode cX7_status 2 = .ok (.iconst 2, 1) := by decide +kernel
theorem dX7_status_3 : decode cX7_status 3 = .ok (.invokestatic 106, 3) := by decide +kernel
theorem dX7_status_6 : decode cX7_status 6 = .ok (.ifCond .ne 15, 3) := by decide +kernel
theorem dX7_status_9 : decode cX7_status 9 = .ok (.aload_n 0, 1) := by decide +kernel
theorem dX7_status_10 : decode cX7_status 10 = .ok (.getfield 1, 3) := by decide +kernel
theorem dX7_status_13 : decode cX7_status 13 = .ok (.iconst 0, 1) := by decide +kernel
theorem dX7_status_14 : decode cX7_status 14 = .ok (.dup2, 1) := by decide +kernel
theorem dX7_status_15 : decode cX7_status 15 = .ok (.iaload, 1) := by decide +kernel
theorem dX7_status_16 : decode cX7_status 16 = .ok (.iconst 1, 1) := by decide +kernel
theorem dX7_status_17 : decode cX7_status 17 = .ok (.iadd, 1) := by decide +kernel
theorem dX7_status_18 : decode cX7_status 18 = .ok (.iastore, 1) := by decide +kernel
theorem dX7_status_19 : decode cX7_status 19 = .ok (.iconst (-1), 1) := by decide +kernel
theorem dX7_status_20 : decode cX7_status 20 = .ok (.ireturn, 1) := by decide +kernel
theorem dX7_status_21 : decode cX7_status 21 = .ok (.aload_n 0, 1) := by decide +kernel
theorem dX7_status_22 : decode cX7_status 22 = .ok (.getfield 1, 3) := by decide +kernel
theorem dX7_status_25 : decode cX7_status 25 = .ok (.iload_n 1, 1) := by decide +kernel
theorem dX7_status_26 : decode cX7_status 26 = .ok (.iaload, 1) := by decide +kernel
theorem dX7_status_27 : decode cX7_status 27 = .ok (.ireturn, 1) := by decide +kernel
theorem dX7_countOf_0 : decode cX7_countOf 0 = .ok (.iload_n 1, 1) := by decide +kernel
theorem dX7_countOf_1 : decode cX7_countOf 1 = .ok (.tableswitch 106 0 9 #[55, 60, 65, 70, 75, 81, 86, 91, 96, 101], 55) := by decide +kernel
theorem dX7_countOf_56 : decode cX7_countOf 56 = .ok (.aload_n 0, 1) := by decide +kernel
theorem dX7_countOf_57 : decode cX7_countOf 57 = .ok (.getfield 81, 3) := by decide +kernel
theorem dX7_countOf_60 : decode cX7_countOf 60 = .ok (.ireturn, 1) := by decide +kernel
theorem dX7_countOf_61 : decode cX7_countOf 61 = .ok (.aload_n 0, 1) := by decide +kernel
theorem dX7_countOf_62 : decode cX7_countOf 62 = .ok (.getfield 85, 3) := by decide +kernel
theorem dX7_countOf_65 : decode cX7_countOf 65 = .ok (.ireturn, 1) := by decide +kernel
theorem dX7_countOf_66 : decode cX7_countOf 66 = .ok (.aload_n 0, 1) := by decide +kernel
theorem dX7_countOf_67 : decode cX7_countOf 67 = .ok (.getfield 88, 3) := by decide +kernel
theorem dX7_countOf_70 : decode cX7_countOf 70 = .ok (.ireturn, 1) := by decide +kernel
theorem dX7_countOf_71 : decode cX7_countOf 71 = .ok (.aload_n 0, 1) := by decide +kernel
theorem dX7_countOf_72 : decode cX7_countOf 72 = .ok (.invokevirtual 270, 3) := by decide +kernel
theorem dX7_countOf_75 : decode cX7_countOf 75 = .ok (.ireturn, 1) := by decide +kernel
theorem dX7_countOf_76 : decode cX7_countOf 76 = .ok (.aload_n 0, 1) := by decide +kernel
theorem dX7_countOf_77 : decode cX7_countOf 77 = .ok (.iconst (-1), 1) := by decide +kernel
theorem dX7_countOf_78 : decode cX7_countOf 78 = .ok (.invokevirtual 251, 3) := by decide +kernel
theorem dX7_countOf_81 : decode cX7_countOf 81 = .ok (.ireturn, 1) := by decide +kernel
theorem dX7_countOf_82 : decode cX7_countOf 82 = .ok (.aload_n 0, 1) := by decide +kernel
theorem dX7_countOf_83 : decode cX7_countOf 83 = .ok (.getfield 91, 3) := by decide +kernel
theorem dX7_countOf_86 : decode cX7_countOf 86 = .ok (.ireturn, 1) := by decide +kernel
theorem dX7_countOf_87 : decode cX7_countOf 87 = .ok (.aload_n 0, 1) := by decide +kernel
theorem dX7_countOf_88 : decode cX7_countOf 88 = .ok (.getfield 94, 3) := by decide +kernel
theorem dX7_countOf_91 : decode cX7_countOf 91 = .ok (.ireturn, 1) := by decide +kernel
theorem dX7_countOf_92 : decode cX7_countOf 92 = .ok (.aload_n 0, 1) := by decide +kernel
theorem dX7_countOf_93 : decode cX7_countOf 93 = .ok (.getfield 97, 3) := by decide +kernel
theorem dX7_countOf_96 : decode cX7_countOf 96 = .ok (.ireturn, 1) := by decide +kernel
theorem dX7_countOf_97 : decode cX7_countOf 97 = .ok (.aload_n 0, 1) := by decide +kernel
theorem dX7_countOf_98 : decode cX7_countOf 98 = .ok (.getfield 100, 3) := by decide +kernel
theorem dX7_countOf_101 : decode cX7_countOf 101 = .ok (.ireturn, 1) := by decide +kernel
theorem dX7_countOf_102 : decode cX7_countOf 102 = .ok (.aload_n 0, 1) := by decide +kernel
theorem dX7_countOf_103 : decode cX7_countOf 103 = .ok (.getfield 103, 3) := by decide +kernel
theorem dX7_countOf_106 : decode cX7_countOf 106 = .ok (.ireturn, 1) := by decide +kernel
theorem dX7_countOf_107 : decode cX7_countOf 107 = .ok (.aload_n 0, 1) := by decide +kernel
theorem dX7_countOf_108 : decode cX7_countOf 108 = .ok (.getfield 132, 3) := by decide +kernel
theorem dX7_countOf_111 : decode cX7_countOf 111 = .ok (.ireturn, 1) := by decide +kernel
theorem dX7_count_0 : decode cX7_count 0 = .ok (.iload_n 1, 1) := by decide +kernel
theorem dX7_count_1 : decode cX7_count 1 = .ok (.iconst 0, 1) := by decide +kernel
theorem dX7_count_2 : decode cX7_count 2 = .ok (.bipush 10, 2) := by decide +kernel
theorem dX7_count_4 : decode cX7_count 4 = .ok (.invokestatic 106, 3) := by decide +kernel
theorem dX7_count_7 : decode cX7_count 7 = .ok (.ifCond .eq 11, 3) := by decide +kernel
theorem dX7_count_10 : decode cX7_count 10 = .ok (.aload_n 0, 1) := by decide +kernel
theorem dX7_count_11 : decode cX7_count 11 = .ok (.iload_n 1, 1) := by decide +kernel
theorem dX7_count_12 : decode cX7_count 12 = .ok (.invokevirtual 357, 3) := by decide +kernel
theorem dX7_count_15 : decode cX7_count 15 = .ok (.goto 7, 3) := by decide +kernel
theorem dX7_count_18 : decode cX7_count 18 = .ok (.aload_n 0, 1) := by decide +kernel
theorem dX7_count_19 : decode cX7_count 19 = .ok (.invokevirtual 110, 3) := by decide +kernel
theorem dX7_count_22 : decode cX7_count 22 = .ok (.ireturn, 1) := by decide +kernel
theorem dX7_mix_0 : decode cX7_mix 0 = .ok (.aload_n 0, 1) := by decide +kernel
theorem dX7_mix_1 : decode cX7_mix 1 = .ok (.ldc2_w 360, 3) := by decide +kernel
theorem dX7_mix_4 : decode cX7_mix 4 = .ok (.aload_n 0, 1) := by decide +kernel
theorem dX7_mix_5 : decode cX7_mix 5 = .ok (.getfield 362, 3) := by decide +kernel
theorem dX7_mix_8 : decode cX7_mix 8 = .ok (.lmul, 1) := by decide +kernel
theorem dX7_mix_9 : decode cX7_mix 9 = .ok (.lload_n 1, 1) := by decide +kernel
theorem dX7_mix_10 : decode cX7_mix 10 = .ok (.ladd, 1) := by decide +kernel
theorem dX7_mix_11 : decode cX7_mix 11 = .ok (.putfield 362, 3) := by decide +kernel
theorem dX7_mix_14 : decode cX7_mix 14 = .ok (.return_, 1) := by decide +kernel
theorem dX7_digest_0 : decode cX7_digest 0 = .ok (.aload_n 0, 1) := by decide +kernel
theorem dX7_digest_1 : decode cX7_digest 1 = .ok (.ldc2_w 365, 3) := by decide +kernel
theorem dX7_digest_4 : decode cX7_digest 4 = .ok (.putfield 362, 3) := by decide +kernel
theorem dX7_digest_7 : decode cX7_digest 7 = .ok (.iconst 0, 1) := by decide +kernel
theorem dX7_digest_8 : decode cX7_digest 8 = .ok (.istore_n 1, 1) := by decide +kernel
theorem dX7_digest_9 : decode cX7_digest 9 = .ok (.iload_n 1, 1) := by decide +kernel
theorem dX7_digest_10 : decode cX7_digest 10 = .ok (.bipush 10, 2) := by decide +kernel
theorem dX7_digest_12 : decode cX7_digest 12 = .ok (.if_icmp .gt 19, 3) := by decide +kernel
theorem dX7_digest_15 : decode cX7_digest 15 = .ok (.aload_n 0, 1) := by decide +kernel
theorem dX7_digest_16 : decode cX7_digest 16 = .ok (.aload_n 0, 1) := by decide +kernel
theorem dX7_digest_17 : decode cX7_digest 17 = .ok (.iload_n 1, 1) := by decide +kernel
theorem dX7_digest_18 : decode cX7_digest 18 = .ok (.invokevirtual 357, 3) := by decide +kernel
theorem dX7_digest_21 : decode cX7_digest 21 = .ok (.i2l, 1) := by decide +kernel
theorem dX7_digest_22 : decode cX7_digest 22 = .ok (.invokevirtual 367, 3) := by decide +kernel
theorem dX7_digest_25 : decode cX7_digest 25 = .ok (.iinc 1 1, 3) := by decide +kernel
theorem dX7_digest_28 : decode cX7_digest 28 = .ok (.goto (-19), 3) := by decide +kernel
theorem dX7_digest_31 : decode cX7_digest 31 = .ok (.iconst 0, 1) := by decide +kernel
theorem dX7_digest_32 : decode cX7_digest 32 = .ok (.istore_n 1, 1) := by decide +kernel
theorem dX7_digest_33 : decode cX7_digest 33 = .ok (.iload_n 1, 1) := by decide +kernel
theorem dX7_digest_34 : decode cX7_digest 34 = .ok (.bipush 12, 2) := by decide +kernel
theorem dX7_digest_36 : decode cX7_digest 36 = .ok (.if_icmp .ge 20, 3) := by decide +kernel
theorem dX7_digest_39 : decode cX7_digest 39 = .ok (.aload_n 0, 1) := by decide +kernel
theorem dX7_digest_40 : decode cX7_digest 40 = .ok (.aload_n 0, 1) := by decide +kernel
theorem dX7_digest_41 : decode cX7_digest 41 = .ok (.getfield 13, 3) := by decide +kernel
theorem dX7_digest_44 : decode cX7_digest 44 = .ok (.iload_n 1, 1) := by decide +kernel
theorem dX7_digest_45 : decode cX7_digest 45 = .ok (.iaload, 1) := by decide +kernel
theorem dX7_digest_46 : decode cX7_digest 46 = .ok (.i2l, 1) := by decide +kernel
theorem dX7_digest_47 : decode cX7_digest 47 = .ok (.invokevirtual 367, 3) := by decide +kernel
theorem dX7_digest_50 : decode cX7_digest 50 = .ok (.iinc 1 1, 3) := by decide +kernel
theorem dX7_digest_53 : decode cX7_digest 53 = .ok (.goto (-20), 3) := by decide +kernel
theorem dX7_digest_56 : decode cX7_digest 56 = .ok (.iconst 0, 1) := by decide +kernel
theorem dX7_digest_57 : decode cX7_digest 57 = .ok (.istore_n 1, 1) := by decide +kernel
theorem dX7_digest_58 : decode cX7_digest 58 = .ok (.iload_n 1, 1) := by decide +kernel
theorem dX7_digest_59 : decode cX7_digest 59 = .ok (.aload_n 0, 1) := by decide +kernel
theorem dX7_digest_60 : decode cX7_digest 60 = .ok (.getfield 81, 3) := by decide +kernel
theorem dX7_digest_63 : decode cX7_digest 63 = .ok (.if_icmp .ge 33, 3) := by decide +kernel
theorem dX7_digest_66 : decode cX7_digest 66 = .ok (.iconst 0, 1) := by decide +kernel
theorem dX7_digest_67 : decode cX7_digest 67 = .ok (.istore_n 2, 1) := by decide +kernel
theorem dX7_digest_68 : decode cX7_digest 68 = .ok (.iload_n 2, 1) := by decide +kernel
theorem dX7_digest_69 : decode cX7_digest 69 = .ok (.iconst 4, 1) := by decide +kernel
theorem dX7_digest_70 : decode cX7_digest 70 = .ok (.if_icmp .gt 20, 3) := by decide +kernel
theorem dX7_digest_73 : decode cX7_digest 73 = .ok (.aload_n 0, 1) := by decide +kernel
theorem dX7_digest_74 : decode cX7_digest 74 = .ok (.aload_n 0, 1) := by decide +kernel
theorem dX7_digest_75 : decode cX7_digest 75 = .ok (.iload_n 1, 1) := by decide +kernel
theorem dX7_digest_76 : decode cX7_digest 76 = .ok (.iload_n 2, 1) := by decide +kernel
theorem dX7_digest_77 : decode cX7_digest 77 = .ok (.invokevirtual 282, 3) := by decide +kernel
theorem dX7_digest_80 : decode cX7_digest 80 = .ok (.i2l, 1) := by decide +kernel
theorem dX7_digest_81 : decode cX7_digest 81 = .ok (.invokevirtual 367, 3) := by decide +kernel
theorem dX7_digest_84 : decode cX7_digest 84 = .ok (.iinc 2 1, 3) := by decide +kernel
theorem dX7_digest_87 : decode cX7_digest 87 = .ok (.goto (-19), 3) := by decide +kernel
theorem dX7_digest_90 : decode cX7_digest 90 = .ok (.iinc 1 1, 3) := by decide +kernel
theorem dX7_digest_93 : decode cX7_digest 93 = .ok (.goto (-35), 3) := by decide +kernel
theorem dX7_digest_96 : decode cX7_digest 96 = .ok (.iconst 0, 1) := by decide +kernel
theorem dX7_digest_97 : decode cX7_digest 97 = .ok (.istore_n 1, 1) := by decide +kernel
theorem dX7_digest_98 : decode cX7_digest 98 = .ok (.iload_n 1, 1) := by decide +kernel
theorem dX7_digest_99 : decode cX7_digest 99 = .ok (.aload_n 0, 1) := by decide +kernel
theorem dX7_digest_100 : decode cX7_digest 100 = .ok (.getfield 85, 3) := by decide +kernel
theorem dX7_digest_103 : decode cX7_digest 103 = .ok (.if_icmp .ge 20, 3) := by decide +kernel
theorem dX7_digest_106 : decode cX7_digest 106 = .ok (.aload_n 0, 1) := by decide +kernel
theorem dX7_digest_107 : decode cX7_digest 107 = .ok (.aload_n 0, 1) := by decide +kernel
theorem dX7_digest_108 : decode cX7_digest 108 = .ok (.getfield 31, 3) := by decide +kernel
theorem dX7_digest_111 : decode cX7_digest 111 = .ok (.iload_n 1, 1) := by decide +kernel
theorem dX7_digest_112 : decode cX7_digest 112 = .ok (.iaload, 1) := by decide +kernel
theorem dX7_digest_113 : decode cX7_digest 113 = .ok (.i2l, 1) := by decide +kernel
theorem dX7_digest_114 : decode cX7_digest 114 = .ok (.invokevirtual 367, 3) := by decide +kernel
theorem dX7_digest_117 : decode cX7_digest 117 = .ok (.iinc 1 1, 3) := by decide +kernel
theorem dX7_digest_120 : decode cX7_digest 120 = .ok (.goto (-22), 3) := by decide +kernel
theorem dX7_digest_123 : decode cX7_digest 123 = .ok (.iconst 0, 1) := by decide +kernel
theorem dX7_digest_124 : decode cX7_digest 124 = .ok (.istore_n 1, 1) := by decide +kernel
theorem dX7_digest_125 : decode cX7_digest 125 = .ok (.iload_n 1, 1) := by decide +kernel
theorem dX7_digest_126 : decode cX7_digest 126 = .ok (.iconst 2, 1) := by decide +kernel
theorem dX7_digest_127 : decode cX7_digest 127 = .ok (.aload_n 0, 1) := by decide +kernel
theorem dX7_digest_128 : decode cX7_digest 128 = .ok (.getfield 94, 3) := by decide +kernel
theorem dX7_digest_131 : decode cX7_digest 131 = .ok (.imul, 1) := by decide +kernel
theorem dX7_digest_132 : decode cX7_digest 132 = .ok (.if_icmp .ge 20, 3) := by decide +kernel
theorem dX7_digest_135 : decode cX7_digest 135 = .ok (.aload_n 0, 1) := by decide +kernel
theorem dX7_digest_136 : decode cX7_digest 136 = .ok (.aload_n 0, 1) := by decide +kernel
theorem dX7_digest_137 : decode cX7_digest 137 = .ok (.getfield 34, 3) := by decide +kernel
theorem dX7_digest_140 : decode cX7_digest 140 = .ok (.iload_n 1, 1) := by decide +kernel
theorem dX7_digest_141 : decode cX7_digest 141 = .ok (.iaload, 1) := by decide +kernel
theorem dX7_digest_142 : decode cX7_digest 142 = .ok (.i2l, 1) := by decide +kernel
theorem dX7_digest_143 : decode cX7_digest 143 = .ok (.invokevirtual 367, 3) := by decide +kernel
theorem dX7_digest_146 : decode cX7_digest 146 = .ok (.iinc 1 1, 3) := by decide +kernel
theorem dX7_digest_149 : decode cX7_digest 149 = .ok (.goto (-24), 3) := by decide +kernel
theorem dX7_digest_152 : decode cX7_digest 152 = .ok (.iconst 0, 1) := by decide +kernel
theorem dX7_digest_153 : decode cX7_digest 153 = .ok (.istore_n 1, 1) := by decide +kernel
theorem dX7_digest_154 : decode cX7_digest 154 = .ok (.iload_n 1, 1) := by decide +kernel
theorem dX7_digest_155 : decode cX7_digest 155 = .ok (.iconst 4, 1) := by decide +kernel
theorem dX7_digest_156 : decode cX7_digest 156 = .ok (.aload_n 0, 1) := by decide +kernel
theorem dX7_digest_157 : decode cX7_digest 157 = .ok (.getfield 97, 3) := by decide +kernel
theorem dX7_digest_160 : decode cX7_digest 160 = .ok (.imul, 1) := by decide +kernel
theorem dX7_digest_161 : decode cX7_digest 161 = .ok (.if_icmp .ge 20, 3) := by decide +kernel
theorem dX7_digest_164 : decode cX7_digest 164 = .ok (.aload_n 0, 1) := by decide +kernel
theorem dX7_digest_165 : decode cX7_digest 165 = .ok (.aload_n 0, 1) := by decide +kernel
theorem dX7_digest_166 : decode cX7_digest 166 = .ok (.getfield 37, 3) := by decide +kernel
theorem dX7_digest_169 : decode cX7_digest 169 = .ok (.iload_n 1, 1) := by decide +kernel
theorem dX7_digest_170 : decode cX7_digest 170 = .ok (.iaload, 1) := by decide +kernel
theorem dX7_digest_171 : decode cX7_digest 171 = .ok (.i2l, 1) := by decide +kernel
theorem dX7_digest_172 : decode cX7_digest 172 = .ok (.invokevirtual 367, 3) := by decide +kernel
theorem dX7_digest_175 : decode cX7_digest 175 = .ok (.iinc 1 1, 3) := by decide +kernel
theorem dX7_digest_178 : decode cX7_digest 178 = .ok (.goto (-24), 3) := by decide +kernel
theorem dX7_digest_181 : decode cX7_digest 181 = .ok (.iconst 0, 1) := by decide +kernel
theorem dX7_digest_182 : decode cX7_digest 182 = .ok (.istore_n 1, 1) := by decide +kernel
theorem dX7_digest_183 : decode cX7_digest 183 = .ok (.iload_n 1, 1) := by decide +kernel
theorem dX7_digest_184 : decode cX7_digest 184 = .ok (.iconst 3, 1) := by decide +kernel
theorem dX7_digest_185 : decode cX7_digest 185 = .ok (.aload_n 0, 1) := by decide +kernel
theorem dX7_digest_186 : decode cX7_digest 186 = .ok (.getfield 100, 3) := by decide +kernel
theorem dX7_digest_189 : decode cX7_digest 189 = .ok (.imul, 1) := by decide +kernel
theorem dX7_digest_190 : decode cX7_digest 190 = .ok (.if_icmp .ge 20, 3) := by decide +kernel
theorem dX7_digest_193 : decode cX7_digest 193 = .ok (.aload_n 0, 1) := by decide +kernel
theorem dX7_digest_194 : decode cX7_digest 194 = .ok (.aload_n 0, 1) := by decide +kernel
theorem dX7_digest_195 : decode cX7_digest 195 = .ok (.getfield 40, 3) := by decide +kernel
theorem dX7_digest_198 : decode cX7_digest 198 = .ok (.iload_n 1, 1) := by decide +kernel
theorem dX7_digest_199 : decode cX7_digest 199 = .ok (.iaload, 1) := by decide +kernel
theorem dX7_digest_200 : decode cX7_digest 200 = .ok (.i2l, 1) := by decide +kernel
theorem dX7_digest_201 : decode cX7_digest 201 = .ok (.invokevirtual 367, 3) := by decide +kernel
theorem dX7_digest_204 : decode cX7_digest 204 = .ok (.iinc 1 1, 3) := by decide +kernel
theorem dX7_digest_207 : decode cX7_digest 207 = .ok (.goto (-24), 3) := by decide +kernel
theorem dX7_digest_210 : decode cX7_digest 210 = .ok (.aload_n 0, 1) := by decide +kernel
theorem dX7_digest_211 : decode cX7_digest 211 = .ok (.aload_n 0, 1) := by decide +kernel
theorem dX7_digest_212 : decode cX7_digest 212 = .ok (.getfield 333, 3) := by decide +kernel
theorem dX7_digest_215 : decode cX7_digest 215 = .ok (.invokevirtual 367, 3) := by decide +kernel
theorem dX7_digest_218 : decode cX7_digest 218 = .ok (.aload_n 0, 1) := by decide +kernel
theorem dX7_digest_219 : decode cX7_digest 219 = .ok (.aload_n 0, 1) := by decide +kernel
theorem dX7_digest_220 : decode cX7_digest 220 = .ok (.getfield 68, 3) := by decide +kernel
theorem dX7_digest_223 : decode cX7_digest 223 = .ok (.invokevirtual 367, 3) := by decide +kernel
theorem dX7_digest_226 : decode cX7_digest 226 = .ok (.aload_n 0, 1) := by decide +kernel
theorem dX7_digest_227 : decode cX7_digest 227 = .ok (.getfield 362, 3) := by decide +kernel
theorem dX7_digest_230 : decode cX7_digest 230 = .ok (.lreturn, 1) := by decide +kernel
