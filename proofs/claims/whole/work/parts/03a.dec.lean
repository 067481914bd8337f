theorem dX0_init_0 : decode cX0_init 0 = .ok (.aload_n 0, 1) := by decide +kernel
theorem dX0_init_1 : decode cX0_init 1 = .ok (.invokespecial 3, 3) := by decide +kernel
theorem dX0_init_4 : decode cX0_init 4 = .ok (.aload_n 0, 1) := by decide +kernel
theorem dX0_init_5 : decode cX0_init 5 = .ok (.bipush 8, 2) := by decide +kernel
theorem dX0_init_7 : decode cX0_init 7 = .ok (.newarray .int, 2) := by decide +kernel
theorem dX0_init_9 : decode cX0_init 9 = .ok (.putfield 9, 3) := by decide +kernel
theorem dX0_init_12 : decode cX0_init 12 = .ok (.aload_n 0, 1) := by decide +kernel
theorem dX0_init_13 : decode cX0_init 13 = .ok (.bipush 8, 2) := by decide +kernel
theorem dX0_init_15 : decode cX0_init 15 = .ok (.newarray .int, 2) := by decide +kernel
theorem dX0_init_17 : decode cX0_init 17 = .ok (.putfield 15, 3) := by decide +kernel
theorem dX0_init_20 : decode cX0_init 20 = .ok (.return_, 1) := by decide +kernel
theorem dX0_load_0 : decode cX0_load 0 = .ok (.aload_n 1, 1) := by decide +kernel
theorem dX0_load_1 : decode cX0_load 1 = .ok (.iconst 0, 1) := by decide +kernel
theorem dX0_load_2 : decode cX0_load 2 = .ok (.aload_n 0, 1) := by decide +kernel
theorem dX0_load_3 : decode cX0_load 3 = .ok (.getfield 9, 3) := by decide +kernel
theorem dX0_load_6 : decode cX0_load 6 = .ok (.iconst 0, 1) := by decide +kernel
theorem dX0_load_7 : decode cX0_load 7 = .ok (.bipush 8, 2) := by decide +kernel
theorem dX0_load_9 : decode cX0_load 9 = .ok (.invokestatic 18, 3) := by decide +kernel
theorem dX0_load_12 : decode cX0_load 12 = .ok (.aload_n 0, 1) := by decide +kernel
theorem dX0_load_13 : decode cX0_load 13 = .ok (.iconst 0, 1) := by decide +kernel
theorem dX0_load_14 : decode cX0_load 14 = .ok (.putfield 24, 3) := by decide +kernel
theorem dX0_load_17 : decode cX0_load 17 = .ok (.return_, 1) := by decide +kernel
theorem dX0_arrive_0 : decode cX0_arrive 0 = .ok (.aload_n 0, 1) := by decide +kernel
theorem dX0_arrive_1 : decode cX0_arrive 1 = .ok (.getfield 9, 3) := by decide +kernel
theorem dX0_arrive_4 : decode cX0_arrive 4 = .ok (.iconst 0, 1) := by decide +kernel
theorem dX0_arrive_5 : decode cX0_arrive 5 = .ok (.aload_n 0, 1) := by decide +kernel
theorem dX0_arrive_6 : decode cX0_arrive 6 = .ok (.getfield 15, 3) := by decide +kernel
theorem dX0_arrive_9 : decode cX0_arrive 9 = .ok (.iconst 0, 1) := by decide +kernel
theorem dX0_arrive_10 : decode cX0_arrive 10 = .ok (.bipush 8, 2) := by decide +kernel
theorem dX0_arrive_12 : decode cX0_arrive 12 = .ok (.invokestatic 18, 3) := by decide +kernel
theorem dX0_arrive_15 : decode cX0_arrive 15 = .ok (.return_, 1) := by decide +kernel
theorem dX1_init_0 : decode cX1_init 0 = .ok (.aload_n 0, 1) := by decide +kernel
theorem dX1_init_1 : decode cX1_init 1 = .ok (.invokespecial 3, 3) := by decide +kernel
theorem dX1_init_4 : decode cX1_init 4 = .ok (.aload_n 0, 1) := by decide +kernel
theorem dX1_init_5 : decode cX1_init 5 = .ok (.bipush 8, 2) := by decide +kernel
theorem dX1_init_7 : decode cX1_init 7 = .ok (.newarray .int, 2) := by decide +kernel
theorem dX1_init_9 : decode cX1_init 9 = .ok (.putfield 9, 3) := by decide +kernel
theorem dX1_init_12 : decode cX1_init 12 = .ok (.aload_n 0, 1) := by decide +kernel
theorem dX1_init_13 : decode cX1_init 13 = .ok (.bipush 8, 2) := by decide +kernel
theorem dX1_init_15 : decode cX1_init 15 = .ok (.newarray .int, 2) := by decide +kernel
theorem dX1_init_17 : decode cX1_init 17 = .ok (.putfield 15, 3) := by decide +kernel
theorem dX1_init_20 : decode cX1_init 20 = .ok (.aload_n 0, 1) := by decide +kernel
theorem dX1_init_21 : decode cX1_init 21 = .ok (.aload_n 1, 1) := by decide +kernel
theorem dX1_init_22 : decode cX1_init 22 = .ok (.putfield 18, 3) := by decide +kernel
theorem dX1_init_25 : decode cX1_init 25 = .ok (.return_, 1) := by decide +kernel
theorem dX1_synchronize_0 : decode cX1_synchronize 0 = .ok (.aload_n 0, 1) := by decide +kernel
theorem dX1_synchronize_1 : decode cX1_synchronize 1 = .ok (.getfield 18, 3) := by decide +kernel
theorem dX1_synchronize_4 : decode cX1_synchronize 4 = .ok (.invokevirtual 22, 3) := by decide +kernel
theorem dX1_synchronize_7 : decode cX1_synchronize 7 = .ok (.iconst 1, 1) := by decide +kernel
theorem dX1_synchronize_8 : decode cX1_synchronize 8 = .ok (.isub, 1) := by decide +kernel
theorem dX1_synchronize_9 : decode cX1_synchronize 9 = .ok (.istore_n 1, 1) := by decide +kernel
theorem dX1_synchronize_10 : decode cX1_synchronize 10 = .ok (.iload_n 1, 1) := by decide +kernel
theorem dX1_synchronize_11 : decode cX1_synchronize 11 = .ok (.ifCond .ge 6, 3) := by decide +kernel
theorem dX1_synchronize_14 : decode cX1_synchronize 14 = .ok (.bipush (-2), 2) := by decide +kernel
theorem dX1_synchronize_16 : decode cX1_synchronize 16 = .ok (.ireturn, 1) := by decide +kernel
theorem dX1_synchronize_17 : decode cX1_synchronize 17 = .ok (.aload_n 0, 1) := by decide +kernel
theorem dX1_synchronize_18 : decode cX1_synchronize 18 = .ok (.iload_n 1, 1) := by decide +kernel
theorem dX1_synchronize_19 : decode cX1_synchronize 19 = .ok (.invokevirtual 28, 3) := by decide +kernel
theorem dX1_synchronize_22 : decode cX1_synchronize 22 = .ok (.aload_n 0, 1) := by decide +kernel
theorem dX1_synchronize_23 : decode cX1_synchronize 23 = .ok (.iload_n 1, 1) := by decide +kernel
theorem dX1_synchronize_24 : decode cX1_synchronize 24 = .ok (.invokevirtual 32, 3) := by decide +kernel
theorem dX1_synchronize_27 : decode cX1_synchronize 27 = .ok (.aload_n 0, 1) := by decide +kernel
theorem dX1_synchronize_28 : decode cX1_synchronize 28 = .ok (.iload_n 1, 1) := by decide +kernel
theorem dX1_synchronize_29 : decode cX1_synchronize 29 = .ok (.invokevirtual 35, 3) := by decide +kernel
theorem dX1_synchronize_32 : decode cX1_synchronize 32 = .ok (.aload_n 0, 1) := by decide +kernel
theorem dX1_synchronize_33 : decode cX1_synchronize 33 = .ok (.getfield 15, 3) := by decide +kernel
theorem dX1_synchronize_36 : decode cX1_synchronize 36 = .ok (.iconst 0, 1) := by decide +kernel
theorem dX1_synchronize_37 : decode cX1_synchronize 37 = .ok (.iaload, 1) := by decide +kernel
theorem dX1_synchronize_38 : decode cX1_synchronize 38 = .ok (.aload_n 0, 1) := by decide +kernel
theorem dX1_synchronize_39 : decode cX1_synchronize 39 = .ok (.getfield 18, 3) := by decide +kernel
theorem dX1_synchronize_42 : decode cX1_synchronize 42 = .ok (.iconst 0, 1) := by decide +kernel
theorem dX1_synchronize_43 : decode cX1_synchronize 43 = .ok (.invokevirtual 38, 3) := by decide +kernel
theorem dX1_synchronize_46 : decode cX1_synchronize 46 = .ok (.iadd, 1) := by decide +kernel
theorem dX1_synchronize_47 : decode cX1_synchronize 47 = .ok (.aload_n 0, 1) := by decide +kernel
theorem dX1_synchronize_48 : decode cX1_synchronize 48 = .ok (.iconst 0, 1) := by decide +kernel
theorem dX1_synchronize_49 : decode cX1_synchronize 49 = .ok (.iload_n 1, 1) := by decide +kernel
theorem dX1_synchronize_50 : decode cX1_synchronize 50 = .ok (.invokevirtual 42, 3) := by decide +kernel
theorem dX1_synchronize_53 : decode cX1_synchronize 53 = .ok (.iadd, 1) := by decide +kernel
theorem dX1_synchronize_54 : decode cX1_synchronize 54 = .ok (.istore_n 2, 1) := by decide +kernel
theorem dX1_synchronize_55 : decode cX1_synchronize 55 = .ok (.aload_n 0, 1) := by decide +kernel
theorem dX1_synchronize_56 : decode cX1_synchronize 56 = .ok (.getfield 18, 3) := by decide +kernel
theorem dX1_synchronize_59 : decode cX1_synchronize 59 = .ok (.iload_n 2, 1) := by decide +kernel
theorem dX1_synchronize_60 : decode cX1_synchronize 60 = .ok (.aload_n 0, 1) := by decide +kernel
theorem dX1_synchronize_61 : decode cX1_synchronize 61 = .ok (.getfield 18, 3) := by decide +kernel
theorem dX1_synchronize_64 : decode cX1_synchronize 64 = .ok (.invokevirtual 46, 3) := by decide +kernel
theorem dX1_synchronize_67 : decode cX1_synchronize 67 = .ok (.isub, 1) := by decide +kernel
theorem dX1_synchronize_68 : decode cX1_synchronize 68 = .ok (.invokevirtual 49, 3) := by decide +kernel
theorem dX1_synchronize_71 : decode cX1_synchronize 71 = .ok (.aload_n 0, 1) := by decide +kernel
theorem dX1_synchronize_72 : decode cX1_synchronize 72 = .ok (.getfield 18, 3) := by decide +kernel
theorem dX1_synchronize_75 : decode cX1_synchronize 75 = .ok (.getfield 52, 3) := by decide +kernel
theorem dX1_synchronize_78 : decode cX1_synchronize 78 = .ok (.iload_n 1, 1) := by decide +kernel
theorem dX1_synchronize_79 : decode cX1_synchronize 79 = .ok (.aaload, 1) := by decide +kernel
theorem dX1_synchronize_80 : decode cX1_synchronize 80 = .ok (.getfield 56, 3) := by decide +kernel
theorem dX1_synchronize_83 : decode cX1_synchronize 83 = .ok (.ireturn, 1) := by decide +kernel
theorem dX1_turnBefore_0 : decode cX1_turnBefore 0 = .ok (.iload_n 1, 1) := by decide +kernel
theorem dX1_turnBefore_1 : decode cX1_turnBefore 1 = .ok (.iload_n 2, 1) := by decide +kernel
theorem dX1_turnBefore_2 : decode cX1_turnBefore 2 = .ok (.if_icmp .ne 7, 3) := by decide +kernel
theorem dX1_turnBefore_5 : decode cX1_turnBefore 5 = .ok (.iconst 0, 1) := by decide +kernel
theorem dX1_turnBefore_6 : decode cX1_turnBefore 6 = .ok (.goto 10, 3) := by decide +kernel
theorem dX1_turnBefore_9 : decode cX1_turnBefore 9 = .ok (.aload_n 0, 1) := by decide +kernel
theorem dX1_turnBefore_10 : decode cX1_turnBefore 10 = .ok (.getfield 18, 3) := by decide +kernel
theorem dX1_turnBefore_13 : decode cX1_turnBefore 13 = .ok (.invokevirtual 62, 3) := by decide +kernel
theorem dX1_turnBefore_16 : decode cX1_turnBefore 16 = .ok (.ireturn, 1) := by decide +kernel
theorem dX1_setTimes_0 : decode cX1_setTimes 0 = .ok (.iconst 0, 1) := by decide +kernel
theorem dX1_setTimes_1 : decode cX1_setTimes 1 = .ok (.istore_n 2, 1) := by decide +kernel
theorem dX1_setTimes_2 : decode cX1_setTimes 2 = .ok (.iload_n 2, 1) := by decide +kernel
theorem dX1_setTimes_3 : decode cX1_setTimes 3 = .ok (.iload_n 1, 1) := by decide +kernel
theorem dX1_setTimes_4 : decode cX1_setTimes 4 = .ok (.if_icmp .gt 23, 3) := by decide +kernel
theorem dX1_setTimes_7 : decode cX1_setTimes 7 = .ok (.aload_n 0, 1) := by decide +kernel
theorem dX1_setTimes_8 : decode cX1_setTimes 8 = .ok (.getfield 9, 3) := by decide +kernel
theorem dX1_setTimes_11 : decode cX1_setTimes 11 = .ok (.iload_n 2, 1) := by decide +kernel
theorem dX1_setTimes_12 : decode cX1_setTimes 12 = .ok (.aload_n 0, 1) := by decide +kernel
theorem dX1_setTimes_13 : decode cX1_setTimes 13 = .ok (.getfield 18, 3) := by decide +kernel
theorem dX1_setTimes_16 : decode cX1_setTimes 16 = .ok (.iload_n 2, 1) := by decide +kernel
theorem dX1_setTimes_17 : decode cX1_setTimes 17 = .ok (.invokevirtual 65, 3) := by decide +kernel
theorem dX1_setTimes_20 : decode cX1_setTimes 20 = .ok (.iastore, 1) := by decide +kernel
theorem dX1_setTimes_21 : decode cX1_setTimes 21 = .ok (.iinc 2 1, 3) := by decide +kernel
theorem dX1_setTimes_24 : decode cX1_setTimes 24 = .ok (.goto (-22), 3) := by decide +kernel
theorem dX1_setTimes_27 : decode cX1_setTimes 27 = .ok (.iload_n 1, 1) := by decide +kernel
theorem dX1_setTimes_28 : decode cX1_setTimes 28 = .ok (.istore_n 2, 1) := by decide +kernel
theorem dX1_setTimes_29 : decode cX1_setTimes 29 = .ok (.iload_n 2, 1) := by decide +kernel
theorem dX1_setTimes_30 : decode cX1_setTimes 30 = .ok (.ifCond .lt 65, 3) := by decide +kernel
theorem dX1_setTimes_33 : decode cX1_setTimes 33 = .ok (.aload_n 0, 1) := by decide +kernel
theorem dX1_setTimes_34 : decode cX1_setTimes 34 = .ok (.getfield 15, 3) := by decide +kernel
theorem dX1_setTimes_37 : decode cX1_setTimes 37 = .ok (.iload_n 2, 1) := by decide +kernel
theorem dX1_setTimes_38 : decode cX1_setTimes 38 = .ok (.iload_n 2, 1) := by decide +kernel
theorem dX1_setTimes_39 : decode cX1_setTimes 39 = .ok (.iload_n 1, 1) := by decide +kernel
theorem dX1_setTimes_40 : decode cX1_setTimes 40 = .ok (.if_icmp .ne 20, 3) := by decide +kernel
theorem dX1_setTimes_43 : decode cX1_setTimes 43 = .ok (.aload_n 0, 1) := by decide +kernel
theorem dX1_setTimes_44 : decode cX1_setTimes 44 = .ok (.getfield 9, 3) := by decide +kernel
theorem dX1_setTimes_47 : decode cX1_setTimes 47 = .ok (.iload_n 2, 1) := by decide +kernel
theorem dX1_setTimes_48 : decode cX1_setTimes 48 = .ok (.iaload, 1) := by decide +kernel
theorem dX1_setTimes_49 : decode cX1_setTimes 49 = .ok (.aload_n 0, 1) := by decide +kernel
theorem dX1_setTimes_50 : decode cX1_setTimes 50 = .ok (.getfield 18, 3) := by decide +kernel
theorem dX1_setTimes_53 : decode cX1_setTimes 53 = .ok (.invokevirtual 68, 3) := by decide +kernel
theorem dX1_setTimes_56 : decode cX1_setTimes 56 = .ok (.iadd, 1) := by decide +kernel
theorem dX1_setTimes_57 : decode cX1_setTimes 57 = .ok (.goto 31, 3) := by decide +kernel
theorem dX1_setTimes_60 : decode cX1_setTimes 60 = .ok (.aload_n 0, 1) := by decide +kernel
theorem dX1_setTimes_61 : decode cX1_setTimes 61 = .ok (.getfield 15, 3) := by decide +kernel
theorem dX1_setTimes_64 : decode cX1_setTimes 64 = .ok (.iload_n 2, 1) := by decide +kernel
theorem dX1_setTimes_65 : decode cX1_setTimes 65 = .ok (.iconst 1, 1) := by decide +kernel
theorem dX1_setTimes_66 : decode cX1_setTimes 66 = .ok (.iadd, 1) := by decide +kernel
theorem dX1_setTimes_67 : decode cX1_setTimes 67 = .ok (.iaload, 1) := by decide +kernel
theorem dX1_setTimes_68 : decode cX1_setTimes 68 = .ok (.aload_n 0, 1) := by decide +kernel
theorem dX1_setTimes_69 : decode cX1_setTimes 69 = .ok (.getfield 18, 3) := by decide +kernel
theorem dX1_setTimes_72 : decode cX1_setTimes 72 = .ok (.iload_n 2, 1) := by decide +kernel
theorem dX1_setTimes_73 : decode cX1_setTimes 73 = .ok (.iconst 1, 1) := by decide +kernel
theorem dX1_setTimes_74 : decode cX1_setTimes 74 = .ok (.iadd, 1) := by decide +kernel
theorem dX1_setTimes_75 : decode cX1_setTimes 75 = .ok (.invokevirtual 38, 3) := by decide +kernel
theorem dX1_setTimes_78 : decode cX1_setTimes 78 = .ok (.iadd, 1) := by decide +kernel
theorem dX1_setTimes_79 : decode cX1_setTimes 79 = .ok (.aload_n 0, 1) := by decide +kernel
theorem dX1_setTimes_80 : decode cX1_setTimes 80 = .ok (.iload_n 2, 1) := by decide +kernel
theorem dX1_setTimes_81 : decode cX1_setTimes 81 = .ok (.iconst 1, 1) := by decide +kernel
theorem dX1_setTimes_82 : decode cX1_setTimes 82 = .ok (.iadd, 1) := by decide +kernel
theorem dX1_setTimes_83 : decode cX1_setTimes 83 = .ok (.iload_n 1, 1) := by decide +kernel
theorem dX1_setTimes_84 : decode cX1_setTimes 84 = .ok (.invokevirtual 42, 3) := by decide +kernel
theorem dX1_setTimes_87 : decode cX1_setTimes 87 = .ok (.iadd, 1) := by decide +kernel
theorem dX1_setTimes_88 : decode cX1_setTimes 88 = .ok (.iastore, 1) := by decide +kernel
theorem dX1_setTimes_89 : decode cX1_setTimes 89 = .ok (.iinc 2 (-1), 3) := by decide +kernel
theorem dX1_setTimes_92 : decode cX1_setTimes 92 = .ok (.goto (-63), 3) := by decide +kernel
theorem dX1_setTimes_95 : decode cX1_setTimes 95 = .ok (.return_, 1) := by decide +kernel
theorem dX1_setDelays_0 : decode cX1_setDelays 0 = .ok (.aload_n 0, 1) := by decide +kernel
theorem dX1_setDelays_1 : decode cX1_setDelays 1 = .ok (.getfield 18, 3) := by decide +kernel
theorem dX1_setDelays_4 : decode cX1_setDelays 4 = .ok (.getfield 52, 3) := by decide +kernel
theorem dX1_setDelays_7 : decode cX1_setDelays 7 = .ok (.iconst 0, 1) := by decide +kernel
theorem dX1_setDelays_8 : decode cX1_setDelays 8 = .ok (.aaload, 1) := by decide +kernel
theorem dX1_setDelays_9 : decode cX1_setDelays 9 = .ok (.iconst 0, 1) := by decide +kernel
theorem dX1_setDelays_10 : decode cX1_setDelays 10 = .ok (.putfield 56, 3) := by decide +kernel
theorem dX1_setDelays_13 : decode cX1_setDelays 13 = .ok (.iconst 1, 1) := by decide +kernel
theorem dX1_setDelays_14 : decode cX1_setDelays 14 = .ok (.istore_n 2, 1) := by decide +kernel
theorem dX1_setDelays_15 : decode cX1_setDelays 15 = .ok (.iload_n 2, 1) := by decide +kernel
theorem dX1_setDelays_16 : decode cX1_setDelays 16 = .ok (.iload_n 1, 1) := by decide +kernel
theorem dX1_setDelays_17 : decode cX1_setDelays 17 = .ok (.if_icmp .gt 84, 3) := by decide +kernel
theorem dX1_setDelays_20 : decode cX1_setDelays 20 = .ok (.aload_n 0, 1) := by decide +kernel
theorem dX1_setDelays_21 : decode cX1_setDelays 21 = .ok (.iload_n 2, 1) := by decide +kernel
theorem dX1_setDelays_22 : decode cX1_setDelays 22 = .ok (.iconst 1, 1) := by decide +kernel
theorem dX1_setDelays_23 : decode cX1_setDelays 23 = .ok (.isub, 1) := by decide +kernel
theorem dX1_setDelays_24 : decode cX1_setDelays 24 = .ok (.invokevirtual 71, 3) := by decide +kernel
theorem dX1_setDelays_27 : decode cX1_setDelays 27 = .ok (.aload_n 0, 1) := by decide +kernel
theorem dX1_setDelays_28 : decode cX1_setDelays 28 = .ok (.iload_n 2, 1) := by decide +kernel
theorem dX1_setDelays_29 : decode cX1_setDelays 29 = .ok (.invokevirtual 71, 3) := by decide +kernel
theorem dX1_setDelays_32 : decode cX1_setDelays 32 = .ok (.isub, 1) := by decide +kernel
theorem dX1_setDelays_33 : decode cX1_setDelays 33 = .ok (.aload_n 0, 1) := by decide +kernel
theorem dX1_setDelays_34 : decode cX1_setDelays 34 = .ok (.getfield 18, 3) := by decide +kernel
theorem dX1_setDelays_37 : decode cX1_setDelays 37 = .ok (.invokevirtual 68, 3) := by decide +kernel
theorem dX1_setDelays_40 : decode cX1_setDelays 40 = .ok (.isub, 1) := by decide +kernel
theorem dX1_setDelays_41 : decode cX1_setDelays 41 = .ok (.aload_n 0, 1) := by decide +kernel
theorem dX1_setDelays_42 : decode cX1_setDelays 42 = .ok (.iload_n 2, 1) := by decide +kernel
theorem dX1_setDelays_43 : decode cX1_setDelays 43 = .ok (.iload_n 1, 1) := by decide +kernel
theorem dX1_setDelays_44 : decode cX1_setDelays 44 = .ok (.invokevirtual 42, 3) := by decide +kernel
theorem dX1_setDelays_47 : decode cX1_setDelays 47 = .ok (.isub, 1) := by decide +kernel
theorem dX1_setDelays_48 : decode cX1_setDelays 48 = .ok (.istore_n 3, 1) := by decide +kernel
theorem dX1_setDelays_49 : decode cX1_setDelays 49 = .ok (.aload_n 0, 1) := by decide +kernel
theorem dX1_setDelays_50 : decode cX1_setDelays 50 = .ok (.getfield 18, 3) := by decide +kernel
theorem dX1_setDelays_53 : decode cX1_setDelays 53 = .ok (.invokevirtual 68, 3) := by decide +kernel
theorem dX1_setDelays_56 : decode cX1_setDelays 56 = .ok (.iconst 0, 1) := by decide +kernel
theorem dX1_setDelays_57 : decode cX1_setDelays 57 = .ok (.iload_n 3, 1) := by decide +kernel
theorem dX1_setDelays_58 : decode cX1_setDelays 58 = .ok (.invokestatic 74, 3) := by decide +kernel
theorem dX1_setDelays_61 : decode cX1_setDelays 61 = .ok (.iconst 2, 1) := by decide +kernel
theorem dX1_setDelays_62 : decode cX1_setDelays 62 = .ok (.idiv, 1) := by decide +kernel
theorem dX1_setDelays_63 : decode cX1_setDelays 63 = .ok (.iadd, 1) := by decide +kernel
theorem dX1_setDelays_64 : decode cX1_setDelays 64 = .ok (.istore 4, 2) := by decide +kernel
theorem dX1_setDelays_66 : decode cX1_setDelays 66 = .ok (.aload_n 0, 1) := by decide +kernel
theorem dX1_setDelays_67 : decode cX1_setDelays 67 = .ok (.getfield 18, 3) := by decide +kernel
theorem dX1_setDelays_70 : decode cX1_setDelays 70 = .ok (.getfield 52, 3) := by decide +kernel
theorem dX1_setDelays_73 : decode cX1_setDelays 73 = .ok (.iload_n 2, 1) := by decide +kernel
theorem dX1_setDelays_74 : decode cX1_setDelays 74 = .ok (.aaload, 1) := by decide +kernel
theorem dX1_setDelays_75 : decode cX1_setDelays 75 = .ok (.aload_n 0, 1) := by decide +kernel
theorem dX1_setDelays_76 : decode cX1_setDelays 76 = .ok (.getfield 18, 3) := by decide +kernel
theorem dX1_setDelays_79 : decode cX1_setDelays 79 = .ok (.getfield 52, 3) := by decide +kernel
theorem dX1_setDelays_82 : decode cX1_setDelays 82 = .ok (.iload_n 2, 1) := by decide +kernel
theorem dX1_setDelays_83 : decode cX1_setDelays 83 = .ok (.iconst 1, 1) := by decide +kernel
theorem dX1_setDelays_84 : decode cX1_setDelays 84 = .ok (.isub, 1) := by decide +kernel
theorem dX1_setDelays_85 : decode cX1_setDelays 85 = .ok (.aaload, 1) := by decide +kernel
theorem dX1_setDelays_86 : decode cX1_setDelays 86 = .ok (.getfield 56, 3) := by decide +kernel
theorem dX1_setDelays_89 : decode cX1_setDelays 89 = .ok (.iload 4, 2) := by decide +kernel
theorem dX1_setDelays_91 : decode cX1_setDelays 91 = .ok (.iadd, 1) := by decide +kernel
theorem dX1_setDelays_92 : decode cX1_setDelays 92 = .ok (.putfield 56, 3) := by decide +kernel
theorem dX1_setDelays_95 : decode cX1_setDelays 95 = .ok (.iinc 2 1, 3) := by decide +kernel
theorem dX1_setDelays_98 : decode cX1_setDelays 98 = .ok (.goto (-83), 3) := by decide +kernel
theorem dX1_setDelays_101 : decode cX1_setDelays 101 = .ok (.return_, 1) := by decide +kernel
theorem dX1_gap_0 : decode cX1_gap 0 = .ok (.aload_n 0, 1) := by decide +kernel
theorem dX1_gap_1 : decode cX1_gap 1 = .ok (.getfield 18, 3) := by decide +kernel
theorem dX1_gap_4 : decode cX1_gap 4 = .ok (.getfield 52, 3) := by decide +kernel
theorem dX1_gap_7 : decode cX1_gap 7 = .ok (.iload_n 1, 1) := by decide +kernel
theorem dX1_gap_8 : decode cX1_gap 8 = .ok (.aaload, 1) := by decide +kernel
theorem dX1_gap_9 : decode cX1_gap 9 = .ok (.astore_n 2, 1) := by decide +kernel
theorem dX1_gap_10 : decode cX1_gap 10 = .ok (.aload_n 2, 1) := by decide +kernel
theorem dX1_gap_11 : decode cX1_gap 11 = .ok (.aload_n 0, 1) := by decide +kernel
theorem dX1_gap_12 : decode cX1_gap 12 = .ok (.getfield 15, 3) := by decide +kernel
theorem dX1_gap_15 : decode cX1_gap 15 = .ok (.iload_n 1, 1) := by decide +kernel
theorem dX1_gap_16 : decode cX1_gap 16 = .ok (.iaload, 1) := by decide +kernel
theorem dX1_gap_17 : decode cX1_gap 17 = .ok (.invokevirtual 79, 3) := by decide +kernel
theorem dX1_gap_20 : decode cX1_gap 20 = .ok (.aload_n 2, 1) := by decide +kernel
theorem dX1_gap_21 : decode cX1_gap 21 = .ok (.aload_n 0, 1) := by decide +kernel
theorem dX1_gap_22 : decode cX1_gap 22 = .ok (.getfield 9, 3) := by decide +kernel
theorem dX1_gap_25 : decode cX1_gap 25 = .ok (.iload_n 1, 1) := by decide +kernel
theorem dX1_gap_26 : decode cX1_gap 26 = .ok (.iaload, 1) := by decide +kernel
theorem dX1_gap_27 : decode cX1_gap 27 = .ok (.invokevirtual 79, 3) := by decide +kernel
theorem dX1_gap_30 : decode cX1_gap 30 = .ok (.isub, 1) := by decide +kernel
theorem dX1_gap_31 : decode cX1_gap 31 = .ok (.ireturn, 1) := by decide +kernel
theorem dX1_setOffsets_0 : decode cX1_setOffsets 0 = .ok (.aload_n 0, 1) := by decide +kernel
theorem dX1_setOffsets_1 : decode cX1_setOffsets 1 = .ok (.getfield 18, 3) := by decide +kernel
theorem dX1_setOffsets_4 : decode cX1_setOffsets 4 = .ok (.getfield 52, 3) := by decide +kernel
theorem dX1_setOffsets_7 : decode cX1_setOffsets 7 = .ok (.iconst 0, 1) := by decide +kernel
theorem dX1_setOffsets_8 : decode cX1_setOffsets 8 = .ok (.aaload, 1) := by decide +kernel
theorem dX1_setOffsets_9 : decode cX1_setOffsets 9 = .ok (.aload_n 0, 1) := by decide +kernel
theorem dX1_setOffsets_10 : decode cX1_setOffsets 10 = .ok (.getfield 9, 3) := by decide +kernel
theorem dX1_setOffsets_13 : decode cX1_setOffsets 13 = .ok (.iconst 0, 1) := by decide +kernel
theorem dX1_setOffsets_14 : decode cX1_setOffsets 14 = .ok (.iaload, 1) := by decide +kernel
theorem dX1_setOffsets_15 : decode cX1_setOffsets 15 = .ok (.invokevirtual 79, 3) := by decide +kernel
theorem dX1_setOffsets_18 : decode cX1_setOffsets 18 = .ok (.istore_n 2, 1) := by decide +kernel
theorem dX1_setOffsets_19 : decode cX1_setOffsets 19 = .ok (.iconst 0, 1) := by decide +kernel
theorem dX1_setOffsets_20 : decode cX1_setOffsets 20 = .ok (.istore_n 3, 1) := by decide +kernel
theorem dX1_setOffsets_21 : decode cX1_setOffsets 21 = .ok (.iload_n 3, 1) := by decide +kernel
theorem dX1_setOffsets_22 : decode cX1_setOffsets 22 = .ok (.iload_n 1, 1) := by decide +kernel
theorem dX1_setOffsets_23 : decode cX1_setOffsets 23 = .ok (.if_icmp .gt 44, 3) := by decide +kernel
theorem dX1_setOffsets_26 : decode cX1_setOffsets 26 = .ok (.aload_n 0, 1) := by decide +kernel
theorem dX1_setOffsets_27 : decode cX1_setOffsets 27 = .ok (.getfield 18, 3) := by decide +kernel
theorem dX1_setOffsets_30 : decode cX1_setOffsets 30 = .ok (.getfield 52, 3) := by decide +kernel
theorem dX1_setOffsets_33 : decode cX1_setOffsets 33 = .ok (.iload_n 3, 1) := by decide +kernel
theorem dX1_setOffsets_34 : decode cX1_setOffsets 34 = .ok (.aaload, 1) := by decide +kernel
theorem dX1_setOffsets_35 : decode cX1_setOffsets 35 = .ok (.astore 4, 2) := by decide +kernel
theorem dX1_setOffsets_37 : decode cX1_setOffsets 37 = .ok (.aload 4, 2) := by decide +kernel
theorem dX1_setOffsets_39 : decode cX1_setOffsets 39 = .ok (.iload_n 2, 1) := by decide +kernel
theorem dX1_setOffsets_40 : decode cX1_setOffsets 40 = .ok (.aload 4, 2) := by decide +kernel
theorem dX1_setOffsets_42 : decode cX1_setOffsets 42 = .ok (.getfield 56, 3) := by decide +kernel
theorem dX1_setOffsets_45 : decode cX1_setOffsets 45 = .ok (.iadd, 1) := by decide +kernel
theorem dX1_setOffsets_46 : decode cX1_setOffsets 46 = .ok (.aload 4, 2) := by decide +kernel
theorem dX1_setOffsets_48 : decode cX1_setOffsets 48 = .ok (.aload_n 0, 1) := by decide +kernel
theorem dX1_setOffsets_49 : decode cX1_setOffsets 49 = .ok (.getfield 9, 3) := by decide +kernel
theorem dX1_setOffsets_52 : decode cX1_setOffsets 52 = .ok (.iload_n 3, 1) := by decide +kernel
theorem dX1_setOffsets_53 : decode cX1_setOffsets 53 = .ok (.iaload, 1) := by decide +kernel
theorem dX1_setOffsets_54 : decode cX1_setOffsets 54 = .ok (.invokevirtual 79, 3) := by decide +kernel
theorem dX1_setOffsets_57 : decode cX1_setOffsets 57 = .ok (.isub, 1) := by decide +kernel
theorem dX1_setOffsets_58 : decode cX1_setOffsets 58 = .ok (.putfield 82, 3) := by decide +kernel
theorem dX1_setOffsets_61 : decode cX1_setOffsets 61 = .ok (.iinc 3 1, 3) := by decide +kernel
theorem dX1_setOffsets_64 : decode cX1_setOffsets 64 = .ok (.goto (-43), 3) := by decide +kernel
theorem dX1_setOffsets_67 : decode cX1_setOffsets 67 = .ok (.return_, 1) := by decide +kernel
theorem dX1_correct_0 : decode cX1_correct 0 = .ok (.aload_n 0, 1) := by decide +kernel
theorem dX1_correct_1 : decode cX1_correct 1 = .ok (.getfield 18, 3) := by decide +kernel
theorem dX1_correct_4 : decode cX1_correct 4 = .ok (.invokevirtual 22, 3) := by decide +kernel
theorem dX1_correct_7 : decode cX1_correct 7 = .ok (.istore_n 2, 1) := by decide +kernel
theorem dX1_correct_8 : decode cX1_correct 8 = .ok (.iload_n 2, 1) := by decide +kernel
theorem dX1_correct_9 : decode cX1_correct 9 = .ok (.iconst 2, 1) := by decide +kernel
theorem dX1_correct_10 : decode cX1_correct 10 = .ok (.if_icmp .ge 6, 3) := by decide +kernel
theorem dX1_correct_13 : decode cX1_correct 13 = .ok (.bipush (-2), 2) := by decide +kernel
theorem dX1_correct_15 : decode cX1_correct 15 = .ok (.ireturn, 1) := by decide +kernel
theorem dX1_correct_16 : decode cX1_correct 16 = .ok (.aload_n 0, 1) := by decide +kernel
theorem dX1_correct_17 : decode cX1_correct 17 = .ok (.getfield 18, 3) := by decide +kernel
theorem dX1_correct_20 : decode cX1_correct 20 = .ok (.getfield 52, 3) := by decide +kernel
theorem dX1_correct_23 : decode cX1_correct 23 = .ok (.iconst 0, 1) := by decide +kernel
theorem dX1_correct_24 : decode cX1_correct 24 = .ok (.aaload, 1) := by decide +kernel
theorem dX1_correct_25 : decode cX1_correct 25 = .ok (.aload_n 0, 1) := by decide +kernel
theorem dX1_correct_26 : decode cX1_correct 26 = .ok (.getfield 18, 3) := by decide +kernel
theorem dX1_correct_29 : decode cX1_correct 29 = .ok (.iconst 0, 1) := by decide +kernel
theorem dX1_correct_30 : decode cX1_correct 30 = .ok (.invokevirtual 65, 3) := by decide +kernel
theorem dX1_correct_33 : decode cX1_correct 33 = .ok (.invokevirtual 85, 3) := by decide +kernel
theorem dX1_correct_36 : decode cX1_correct 36 = .ok (.istore_n 3, 1) := by decide +kernel
theorem dX1_correct_37 : decode cX1_correct 37 = .ok (.iconst 0, 1) := by decide +kernel
theorem dX1_correct_38 : decode cX1_correct 38 = .ok (.istore 4, 2) := by decide +kernel
theorem dX1_correct_40 : decode cX1_correct 40 = .ok (.iconst 1, 1) := by decide +kernel
theorem dX1_correct_41 : decode cX1_correct 41 = .ok (.istore 5, 2) := by decide +kernel
theorem dX1_correct_43 : decode cX1_correct 43 = .ok (.iload 5, 2) := by decide +kernel
theorem dX1_correct_45 : decode cX1_correct 45 = .ok (.iload_n 2, 1) := by decide +kernel
theorem dX1_correct_46 : decode cX1_correct 46 = .ok (.if_icmp .ge 78, 3) := by decide +kernel
theorem dX1_correct_49 : decode cX1_correct 49 = .ok (.aload_n 0, 1) := by decide +kernel
theorem dX1_correct_50 : decode cX1_correct 50 = .ok (.getfield 18, 3) := by decide +kernel
theorem dX1_correct_53 : decode cX1_correct 53 = .ok (.getfield 52, 3) := by decide +kernel
theorem dX1_correct_56 : decode cX1_correct 56 = .ok (.iload 5, 2) := by decide +kernel
theorem dX1_correct_58 : decode cX1_correct 58 = .ok (.aaload, 1) := by decide +kernel
theorem dX1_correct_59 : decode cX1_correct 59 = .ok (.astore 6, 2) := by decide +kernel
theorem dX1_correct_61 : decode cX1_correct 61 = .ok (.iload_n 3, 1) := by decide +kernel
theorem dX1_correct_62 : decode cX1_correct 62 = .ok (.aload 6, 2) := by decide +kernel
theorem dX1_correct_64 : decode cX1_correct 64 = .ok (.getfield 56, 3) := by decide +kernel
theorem dX1_correct_67 : decode cX1_correct 67 = .ok (.iadd, 1) := by decide +kernel
theorem dX1_correct_68 : decode cX1_correct 68 = .ok (.aload 6, 2) := by decide +kernel
theorem dX1_correct_70 : decode cX1_correct 70 = .ok (.aload_n 0, 1) := by decide +kernel
theorem dX1_correct_71 : decode cX1_correct 71 = .ok (.getfield 18, 3) := by decide +kernel
theorem dX1_correct_74 : decode cX1_correct 74 = .ok (.iload 5, 2) := by decide +kernel
theorem dX1_correct_76 : decode cX1_correct 76 = .ok (.invokevirtual 65, 3) := by decide +kernel
theorem dX1_correct_79 : decode cX1_correct 79 = .ok (.invokevirtual 85, 3) := by decide +kernel
theorem dX1_correct_82 : decode cX1_correct 82 = .ok (.isub, 1) := by decide +kernel
theorem dX1_correct_83 : decode cX1_correct 83 = .ok (.istore 7, 2) := by decide +kernel
theorem dX1_correct_85 : decode cX1_correct 85 = .ok (.aload 6, 2) := by decide +kernel
theorem dX1_correct_87 : decode cX1_correct 87 = .ok (.dup, 1) := by decide +kernel
theorem dX1_correct_88 : decode cX1_correct 88 = .ok (.getfield 82, 3) := by decide +kernel
theorem dX1_correct_91 : decode cX1_correct 91 = .ok (.iload_n 1, 1) := by decide +kernel
theorem dX1_correct_92 : decode cX1_correct 92 = .ok (.ineg, 1) := by decide +kernel
theorem dX1_correct_93 : decode cX1_correct 93 = .ok (.iload_n 1, 1) := by decide +kernel
theorem dX1_correct_94 : decode cX1_correct 94 = .ok (.iload 7, 2) := by decide +kernel
theorem dX1_correct_96 : decode cX1_correct 96 = .ok (.invokestatic 88, 3) := by decide +kernel
theorem dX1_correct_99 : decode cX1_correct 99 = .ok (.invokestatic 74, 3) := by decide +kernel
theorem dX1_correct_102 : decode cX1_correct 102 = .ok (.iadd, 1) := by decide +kernel
theorem dX1_correct_103 : decode cX1_correct 103 = .ok (.putfield 82, 3) := by decide +kernel
theorem dX1_correct_106 : decode cX1_correct 106 = .ok (.iload 4, 2) := by decide +kernel
theorem dX1_correct_108 : decode cX1_correct 108 = .ok (.iload 7, 2) := by decide +kernel
theorem dX1_correct_110 : decode cX1_correct 110 = .ok (.invokestatic 91, 3) := by decide +kernel
theorem dX1_correct_113 : decode cX1_correct 113 = .ok (.invokestatic 74, 3) := by decide +kernel
theorem dX1_correct_116 : decode cX1_correct 116 = .ok (.istore 4, 2) := by decide +kernel
theorem dX1_correct_118 : decode cX1_correct 118 = .ok (.iinc 5 1, 3) := by decide +kernel
theorem dX1_correct_121 : decode cX1_correct 121 = .ok (.goto (-78), 3) := by decide +kernel
theorem dX1_correct_124 : decode cX1_correct 124 = .ok (.aload_n 0, 1) := by decide +kernel
theorem dX1_correct_125 : decode cX1_correct 125 = .ok (.getfield 18, 3) := by decide +kernel
theorem dX1_correct_128 : decode cX1_correct 128 = .ok (.aload_n 0, 1) := by decide +kernel
theorem dX1_correct_129 : decode cX1_correct 129 = .ok (.getfield 18, 3) := by decide +kernel
theorem dX1_correct_132 : decode cX1_correct 132 = .ok (.invokevirtual 94, 3) := by decide +kernel
theorem dX1_correct_135 : decode cX1_correct 135 = .ok (.invokevirtual 49, 3) := by decide +kernel
theorem dX1_correct_138 : decode cX1_correct 138 = .ok (.iload 4, 2) := by decide +kernel
theorem dX1_correct_140 : decode cX1_correct 140 = .ok (.ireturn, 1) := by decide +kernel
theorem dX1_spread_0 : decode cX1_spread 0 = .ok (.aload_n 0, 1) := by decide +kernel
theorem dX1_spread_1 : decode cX1_spread 1 = .ok (.getfield 18, 3) := by decide +kernel
theorem dX1_spread_4 : decode cX1_spread 4 = .ok (.getfield 52, 3) := by decide +kernel
theorem dX1_spread_7 : decode cX1_spread 7 = .ok (.iconst 0, 1) := by decide +kernel
theorem dX1_spread_8 : decode cX1_spread 8 = .ok (.aaload, 1) := by decide +kernel
theorem dX1_spread_9 : decode cX1_spread 9 = .ok (.aload_n 0, 1) := by decide +kernel
theorem dX1_spread_10 : decode cX1_spread 10 = .ok (.getfield 18, 3) := by decide +kernel
theorem dX1_spread_13 : decode cX1_spread 13 = .ok (.invokevirtual 46, 3) := by decide +kernel
theorem dX1_spread_16 : decode cX1_spread 16 = .ok (.invokevirtual 85, 3) := by decide +kernel
theorem dX1_spread_19 : decode cX1_spread 19 = .ok (.istore_n 1, 1) := by decide +kernel
theorem dX1_spread_20 : decode cX1_spread 20 = .ok (.iload_n 1, 1) := by decide +kernel
theorem dX1_spread_21 : decode cX1_spread 21 = .ok (.istore_n 2, 1) := by decide +kernel
theorem dX1_spread_22 : decode cX1_spread 22 = .ok (.iconst 1, 1) := by decide +kernel
theorem dX1_spread_23 : decode cX1_spread 23 = .ok (.istore_n 3, 1) := by decide +kernel
theorem dX1_spread_24 : decode cX1_spread 24 = .ok (.iload_n 3, 1) := by decide +kernel
theorem dX1_spread_25 : decode cX1_spread 25 = .ok (.aload_n 0, 1) := by decide +kernel
theorem dX1_spread_26 : decode cX1_spread 26 = .ok (.getfield 18, 3) := by decide +kernel
theorem dX1_spread_29 : decode cX1_spread 29 = .ok (.invokevirtual 97, 3) := by decide +kernel
theorem dX1_spread_32 : decode cX1_spread 32 = .ok (.if_icmp .ge 44, 3) := by decide +kernel
theorem dX1_spread_35 : decode cX1_spread 35 = .ok (.aload_n 0, 1) := by decide +kernel
theorem dX1_spread_36 : decode cX1_spread 36 = .ok (.getfield 18, 3) := by decide +kernel
theorem dX1_spread_39 : decode cX1_spread 39 = .ok (.getfield 52, 3) := by decide +kernel
theorem dX1_spread_42 : decode cX1_spread 42 = .ok (.iload_n 3, 1) := by decide +kernel
theorem dX1_spread_43 : decode cX1_spread 43 = .ok (.aaload, 1) := by decide +kernel
theorem dX1_spread_44 : decode cX1_spread 44 = .ok (.aload_n 0, 1) := by decide +kernel
theorem dX1_spread_45 : decode cX1_spread 45 = .ok (.getfield 18, 3) := by decide +kernel
theorem dX1_spread_48 : decode cX1_spread 48 = .ok (.invokevirtual 46, 3) := by decide +kernel
theorem dX1_spread_51 : decode cX1_spread 51 = .ok (.invokevirtual 85, 3) := by decide +kernel
theorem dX1_spread_54 : decode cX1_spread 54 = .ok (.istore 4, 2) := by decide +kernel
theorem dX1_spread_56 : decode cX1_spread 56 = .ok (.iload_n 1, 1) := by decide +kernel
theorem dX1_spread_57 : decode cX1_spread 57 = .ok (.iload 4, 2) := by decide +kernel
theorem dX1_spread_59 : decode cX1_spread 59 = .ok (.invokestatic 88, 3) := by decide +kernel
theorem dX1_spread_62 : decode cX1_spread 62 = .ok (.istore_n 1, 1) := by decide +kernel
theorem dX1_spread_63 : decode cX1_spread 63 = .ok (.iload_n 2, 1) := by decide +kernel
theorem dX1_spread_64 : decode cX1_spread 64 = .ok (.iload 4, 2) := by decide +kernel
theorem dX1_spread_66 : decode cX1_spread 66 = .ok (.invokestatic 74, 3) := by decide +kernel
theorem dX1_spread_69 : decode cX1_spread 69 = .ok (.istore_n 2, 1) := by decide +kernel
theorem dX1_spread_70 : decode cX1_spread 70 = .ok (.iinc 3 1, 3) := by decide +kernel
theorem dX1_spread_73 : decode cX1_spread 73 = .ok (.goto (-49), 3) := by decide +kernel
theorem dX1_spread_76 : decode cX1_spread 76 = .ok (.iload_n 2, 1) := by decide +kernel
theorem dX1_spread_77 : decode cX1_spread 77 = .ok (.iload_n 1, 1) := by decide +kernel
theorem dX1_spread_78 : decode cX1_spread 78 = .ok (.isub, 1) := by decide +kernel
theorem dX1_spread_79 : decode cX1_spread 79 = .ok (.ireturn, 1) := by decide +kernel
theorem dX2_init_0 : decode cX2_init 0 = .ok (.aload_n 0, 1) := by decide +kernel
theorem dX2_init_1 : decode cX2_init 1 = .ok (.invokespecial 3, 3) := by decide +kernel
theorem dX2_init_4 : decode cX2_init 4 = .ok (.aload_n 0, 1) := by decide +kernel
theorem dX2_init_5 : decode cX2_init 5 = .ok (.bipush 8, 2) := by decide +kernel
theorem dX2_init_7 : decode cX2_init 7 = .ok (.newarray .int, 2) := by decide +kernel
theorem dX2_init_9 : decode cX2_init 9 = .ok (.putfield 9, 3) := by decide +kernel
theorem dX2_init_12 : decode cX2_init 12 = .ok (.aload_n 0, 1) := by decide +kernel
theorem dX2_init_13 : decode cX2_init 13 = .ok (.new 15, 3) := by decide +kernel
theorem dX2_init_16 : decode cX2_init 16 = .ok (.dup, 1) := by decide +kernel
theorem dX2_init_17 : decode cX2_init 17 = .ok (.invokespecial 17, 3) := by decide +kernel
theorem dX2_init_20 : decode cX2_init 20 = .ok (.putfield 18, 3) := by decide +kernel
theorem dX2_init_23 : decode cX2_init 23 = .ok (.aload_n 0, 1) := by decide +kernel
theorem dX2_init_24 : decode cX2_init 24 = .ok (.new 15, 3) := by decide +kernel
theorem dX2_init_27 : decode cX2_init 27 = .ok (.dup, 1) := by decide +kernel
theorem dX2_init_28 : decode cX2_init 28 = .ok (.invokespecial 17, 3) := by decide +kernel
theorem dX2_init_31 : decode cX2_init 31 = .ok (.putfield 22, 3) := by decide +kernel
theorem dX2_init_34 : decode cX2_init 34 = .ok (.aload_n 0, 1) := by decide +kernel
theorem dX2_init_35 : decode cX2_init 35 = .ok (.bipush 8, 2) := by decide +kernel
theorem dX2_init_37 : decode cX2_init 37 = .ok (.newarray .int, 2) := by decide +kernel
theorem dX2_init_39 : decode cX2_init 39 = .ok (.putfield 25, 3) := by decide +kernel
theorem dX2_init_42 : decode cX2_init 42 = .ok (.return_, 1) := by decide +kernel
theorem dX2_begin_0 : decode cX2_begin 0 = .ok (.aload_n 0, 1) := by decide +kernel
theorem dX2_begin_1 : decode cX2_begin 1 = .ok (.iconst 0, 1) := by decide +kernel
theorem dX2_begin_2 : decode cX2_begin 2 = .ok (.putfield 28, 3) := by decide +kernel
theorem dX2_begin_5 : decode cX2_begin 5 = .ok (.aload_n 0, 1) := by decide +kernel
theorem dX2_begin_6 : decode cX2_begin 6 = .ok (.iconst 0, 1) := by decide +kernel
theorem dX2_begin_7 : decode cX2_begin 7 = .ok (.putfield 32, 3) := by decide +kernel
theorem dX2_begin_10 : decode cX2_begin 10 = .ok (.aload_n 0, 1) := by decide +kernel
theorem dX2_begin_11 : decode cX2_begin 11 = .ok (.getfield 9, 3) := by decide +kernel
theorem dX2_begin_14 : decode cX2_begin 14 = .ok (.iconst 0, 1) := by decide +kernel
theorem dX2_begin_15 : decode cX2_begin 15 = .ok (.invokestatic 35, 3) := by decide +kernel
theorem dX2_begin_18 : decode cX2_begin 18 = .ok (.return_, 1) := by decide +kernel
theorem dX2_order_0 : decode cX2_order 0 = .ok (.aload_n 0, 1) := by decide +kernel
theorem dX2_order_1 : decode cX2_order 1 = .ok (.iload_n 1, 1) := by decide +kernel
theorem dX2_order_2 : decode cX2_order 2 = .ok (.putfield 28, 3) := by decide +kernel
theorem dX2_order_5 : decode cX2_order 5 = .ok (.aload_n 0, 1) := by decide +kernel
theorem dX2_order_6 : decode cX2_order 6 = .ok (.iload_n 2, 1) := by decide +kernel
theorem dX2_order_7 : decode cX2_order 7 = .ok (.putfield 41, 3) := by decide +kernel
theorem dX2_order_10 : decode cX2_order 10 = .ok (.aload_n 0, 1) := by decide +kernel
theorem dX2_order_11 : decode cX2_order 11 = .ok (.iload_n 3, 1) := by decide +kernel
theorem dX2_order_12 : decode cX2_order 12 = .ok (.putfield 44, 3) := by decide +kernel
theorem dX2_order_15 : decode cX2_order 15 = .ok (.aload_n 0, 1) := by decide +kernel
theorem dX2_order_16 : decode cX2_order 16 = .ok (.iload 4, 2) := by decide +kernel
theorem dX2_order_18 : decode cX2_order 18 = .ok (.putfield 47, 3) := by decide +kernel
theorem dX2_order_21 : decode cX2_order 21 = .ok (.return_, 1) := by decide +kernel
theorem dX2_leave_0 : decode cX2_leave 0 = .ok (.aload_n 0, 1) := by decide +kernel
theorem dX2_leave_1 : decode cX2_leave 1 = .ok (.getfield 18, 3) := by decide +kernel
theorem dX2_leave_4 : decode cX2_leave 4 = .ok (.aload_n 0, 1) := by decide +kernel
theorem dX2_leave_5 : decode cX2_leave 5 = .ok (.getfield 9, 3) := by decide +kernel
theorem dX2_leave_8 : decode cX2_leave 8 = .ok (.invokevirtual 50, 3) := by decide +kernel
theorem dX2_leave_11 : decode cX2_leave 11 = .ok (.aload_n 0, 1) := by decide +kernel
theorem dX2_leave_12 : decode cX2_leave 12 = .ok (.getfield 22, 3) := by decide +kernel
theorem dX2_leave_15 : decode cX2_leave 15 = .ok (.aload_n 0, 1) := by decide +kernel
theorem dX2_leave_16 : decode cX2_leave 16 = .ok (.getfield 9, 3) := by decide +kernel
theorem dX2_leave_19 : decode cX2_leave 19 = .ok (.invokevirtual 50, 3) := by decide +kernel
theorem dX2_leave_22 : decode cX2_leave 22 = .ok (.return_, 1) := by decide +kernel
theorem dX2_edit_0 : decode cX2_edit 0 = .ok (.aload_n 0, 1) := by decide +kernel
theorem dX2_edit_1 : decode cX2_edit 1 = .ok (.getfield 28, 3) := by decide +kernel
theorem dX2_edit_4 : decode cX2_edit 4 = .ok (.ifCond .eq 12, 3) := by decide +kernel
theorem dX2_edit_7 : decode cX2_edit 7 = .ok (.aload_n 0, 1) := by decide +kernel
theorem dX2_edit_8 : decode cX2_edit 8 = .ok (.aload_n 2, 1) := by decide +kernel
theorem dX2_edit_9 : decode cX2_edit 9 = .ok (.iload_n 3, 1) := by decide +kernel
theorem dX2_edit_10 : decode cX2_edit 10 = .ok (.invokevirtual 54, 3) := by decide +kernel
theorem dX2_edit_13 : decode cX2_edit 13 = .ok (.ifCond .ne 4, 3) := by decide +kernel
theorem dX2_edit_16 : decode cX2_edit 16 = .ok (.return_, 1) := by decide +kernel
theorem dX2_edit_17 : decode cX2_edit 17 = .ok (.aload_n 0, 1) := by decide +kernel
theorem dX2_edit_18 : decode cX2_edit 18 = .ok (.getfield 28, 3) := by decide +kernel
theorem dX2_edit_21 : decode cX2_edit 21 = .ok (.iconst 1, 1) := by decide +kernel
theorem dX2_edit_22 : decode cX2_edit 22 = .ok (.isub, 1) := by decide +kernel
theorem dX2_edit_23 : decode cX2_edit 23 = .ok (.iconst 3, 1) := by decide +kernel
theorem dX2_edit_24 : decode cX2_edit 24 = .ok (.irem, 1) := by decide +kernel
theorem dX2_edit_25 : decode cX2_edit 25 = .ok (.istore 4, 2) := by decide +kernel
theorem dX2_edit_27 : decode cX2_edit 27 = .ok (.iload 4, 2) := by decide +kernel
theorem dX2_edit_29 : decode cX2_edit 29 = .ok (.iconst 1, 1) := by decide +kernel
theorem dX2_edit_30 : decode cX2_edit 30 = .ok (.if_icmp .eq 7, 3) := by decide +kernel
theorem dX2_edit_33 : decode cX2_edit 33 = .ok (.iconst 1, 1) := by decide +kernel
theorem dX2_edit_34 : decode cX2_edit 34 = .ok (.goto 4, 3) := by decide +kernel
theorem dX2_edit_37 : decode cX2_edit 37 = .ok (.iconst 0, 1) := by decide +kernel
theorem dX2_edit_38 : decode cX2_edit 38 = .ok (.istore 5, 2) := by decide +kernel
theorem dX2_edit_40 : decode cX2_edit 40 = .ok (.iload 4, 2) := by decide +kernel
theorem dX2_edit_42 : decode cX2_edit 42 = .ok (.ifCond .eq 7, 3) := by decide +kernel
theorem dX2_edit_45 : decode cX2_edit 45 = .ok (.iconst 1, 1) := by decide +kernel
theorem dX2_edit_46 : decode cX2_edit 46 = .ok (.goto 4, 3) := by decide +kernel
theorem dX2_edit_49 : decode cX2_edit 49 = .ok (.iconst 0, 1) := by decide +kernel
theorem dX2_edit_50 : decode cX2_edit 50 = .ok (.istore 6, 2) := by decide +kernel
theorem dX2_edit_52 : decode cX2_edit 52 = .ok (.aload_n 1, 1) := by decide +kernel
theorem dX2_edit_53 : decode cX2_edit 53 = .ok (.invokevirtual 58, 3) := by decide +kernel
theorem dX2_edit_56 : decode cX2_edit 56 = .ok (.iload 5, 2) := by decide +kernel
theorem dX2_edit_58 : decode cX2_edit 58 = .ok (.ifCond .eq 22, 3) := by decide +kernel
theorem dX2_edit_61 : decode cX2_edit 61 = .ok (.aload_n 0, 1) := by decide +kernel
theorem dX2_edit_62 : decode cX2_edit 62 = .ok (.aload_n 1, 1) := by decide +kernel
theorem dX2_edit_63 : decode cX2_edit 63 = .ok (.aload_n 2, 1) := by decide +kernel
theorem dX2_edit_64 : decode cX2_edit 64 = .ok (.invokevirtual 61, 3) := by decide +kernel
theorem dX2_edit_67 : decode cX2_edit 67 = .ok (.ifCond .eq 13, 3) := by decide +kernel
theorem dX2_edit_70 : decode cX2_edit 70 = .ok (.aload_n 1, 1) := by decide +kernel
theorem dX2_edit_71 : decode cX2_edit 71 = .ok (.dup, 1) := by decide +kernel
theorem dX2_edit_72 : decode cX2_edit 72 = .ok (.getfield 65, 3) := by decide +kernel
theorem dX2_edit_75 : decode cX2_edit 75 = .ok (.iconst 1, 1) := by decide +kernel
theorem dX2_edit_76 : decode cX2_edit 76 = .ok (.iadd, 1) := by decide +kernel
theorem dX2_edit_77 : decode cX2_edit 77 = .ok (.putfield 65, 3) := by decide +kernel
theorem dX2_edit_80 : decode cX2_edit 80 = .ok (.iload 6, 2) := by decide +kernel
theorem dX2_edit_82 : decode cX2_edit 82 = .ok (.ifCond .eq 31, 3) := by decide +kernel
theorem dX2_edit_85 : decode cX2_edit 85 = .ok (.aload_n 0, 1) := by decide +kernel
theorem dX2_edit_86 : decode cX2_edit 86 = .ok (.aload_n 1, 1) := by decide +kernel
theorem dX2_edit_87 : decode cX2_edit 87 = .ok (.aload_n 2, 1) := by decide +kernel
theorem dX2_edit_88 : decode cX2_edit 88 = .ok (.invokevirtual 68, 3) := by decide +kernel
theorem dX2_edit_91 : decode cX2_edit 91 = .ok (.ifCond .eq 22, 3) := by decide +kernel
theorem dX2_edit_94 : decode cX2_edit 94 = .ok (.aload_n 1, 1) := by decide +kernel
theorem dX2_edit_95 : decode cX2_edit 95 = .ok (.dup, 1) := by decide +kernel
theorem dX2_edit_96 : decode cX2_edit 96 = .ok (.getfield 65, 3) := by decide +kernel
theorem dX2_edit_99 : decode cX2_edit 99 = .ok (.iload 5, 2) := by decide +kernel
theorem dX2_edit_101 : decode cX2_edit 101 = .ok (.ifCond .eq 7, 3) := by decide +kernel
theorem dX2_edit_104 : decode cX2_edit 104 = .ok (.iconst 2, 1) := by decide +kernel
theorem dX2_edit_105 : decode cX2_edit 105 = .ok (.goto 4, 3) := by decide +kernel
theorem dX2_edit_108 : decode cX2_edit 108 = .ok (.iconst 1, 1) := by decide +kernel
theorem dX2_edit_109 : decode cX2_edit 109 = .ok (.iadd, 1) := by decide +kernel
theorem dX2_edit_110 : decode cX2_edit 110 = .ok (.putfield 65, 3) := by decide +kernel
theorem dX2_edit_113 : decode cX2_edit 113 = .ok (.return_, 1) := by decide +kernel
theorem dX2_addressing_0 : decode cX2_addressing 0 = .ok (.aload_n 0, 1) := by decide +kernel
theorem dX2_addressing_1 : decode cX2_addressing 1 = .ok (.getfield 28, 3) := by decide +kernel
theorem dX2_addressing_4 : decode cX2_addressing 4 = .ok (.iconst 1, 1) := by decide +kernel
theorem dX2_addressing_5 : decode cX2_addressing 5 = .ok (.isub, 1) := by decide +kernel
theorem dX2_addressing_6 : decode cX2_addressing 6 = .ok (.iconst 3, 1) := by decide +kernel
theorem dX2_addressing_7 : decode cX2_addressing 7 = .ok (.idiv, 1) := by decide +kernel
theorem dX2_addressing_8 : decode cX2_addressing 8 = .ok (.ireturn, 1) := by decide +kernel
theorem dX2_means_0 : decode cX2_means 0 = .ok (.aload_n 0, 1) := by decide +kernel
theorem dX2_means_1 : decode cX2_means 1 = .ok (.invokevirtual 71, 3) := by decide +kernel
theorem dX2_means_4 : decode cX2_means 4 = .ok (.istore_n 3, 1) := by decide +kernel
theorem dX2_means_5 : decode cX2_means 5 = .ok (.iload_n 3, 1) := by decide +kernel
theorem dX2_means_6 : decode cX2_means 6 = .ok (.ifCond .ne 17, 3) := by decide +kernel
theorem dX2_means_9 : decode cX2_means 9 = .ok (.iload_n 2, 1) := by decide +kernel
theorem dX2_means_10 : decode cX2_means 10 = .ok (.aload_n 0, 1) := by decide +kernel
theorem dX2_means_11 : decode cX2_means 11 = .ok (.getfield 41, 3) := by decide +kernel
theorem dX2_means_14 : decode cX2_means 14 = .ok (.if_icmp .ne 7, 3) := by decide +kernel
theorem dX2_means_17 : decode cX2_means 17 = .ok (.iconst 1, 1) := by decide +kernel
theorem dX2_means_18 : decode cX2_means 18 = .ok (.goto 4, 3) := by decide +kernel
theorem dX2_means_21 : decode cX2_means 21 = .ok (.iconst 0, 1) := by decide +kernel
theorem dX2_means_22 : decode cX2_means 22 = .ok (.ireturn, 1) := by decide +kernel
theorem dX2_means_23 : decode cX2_means 23 = .ok (.iload_n 3, 1) := by decide +kernel
theorem dX2_means_24 : decode cX2_means 24 = .ok (.iconst 1, 1) := by decide +kernel
theorem dX2_means_25 : decode cX2_means 25 = .ok (.if_icmp .ne 14, 3) := by decide +kernel
theorem dX2_means_28 : decode cX2_means 28 = .ok (.aload_n 1, 1) := by decide +kernel
theorem dX2_means_29 : decode cX2_means 29 = .ok (.getfield 75, 3) := by decide +kernel
theorem dX2_means_32 : decode cX2_means 32 = .ok (.aload_n 0, 1) := by decide +kernel
theorem dX2_means_33 : decode cX2_means 33 = .ok (.getfield 41, 3) := by decide +kernel
theorem dX2_means_36 : decode cX2_means 36 = .ok (.if_icmp .ne 7, 3) := by decide +kernel
theorem dX2_means_39 : decode cX2_means 39 = .ok (.iconst 1, 1) := by decide +kernel
theorem dX2_means_40 : decode cX2_means 40 = .ok (.goto 4, 3) := by decide +kernel
theorem dX2_means_43 : decode cX2_means 43 = .ok (.iconst 0, 1) := by decide +kernel
theorem dX2_means_44 : decode cX2_means 44 = .ok (.ireturn, 1) := by decide +kernel
theorem dX2_combines_0 : decode cX2_combines 0 = .ok (.aload_n 0, 1) := by decide +kernel
theorem dX2_combines_1 : decode cX2_combines 1 = .ok (.getfield 28, 3) := by decide +kernel
theorem dX2_combines_4 : decode cX2_combines 4 = .ok (.bipush 7, 2) := by decide +kernel
theorem dX2_combines_6 : decode cX2_combines 6 = .ok (.if_icmp .eq 12, 3) := by decide +kernel
theorem dX2_combines_9 : decode cX2_combines 9 = .ok (.aload_n 0, 1) := by decide +kernel
theorem dX2_combines_10 : decode cX2_combines 10 = .ok (.getfield 28, 3) := by decide +kernel
theorem dX2_combines_13 : decode cX2_combines 13 = .ok (.bipush 9, 2) := by decide +kernel
theorem dX2_combines_15 : decode cX2_combines 15 = .ok (.if_icmp .ne 7, 3) := by decide +kernel
theorem dX2_combines_18 : decode cX2_combines 18 = .ok (.iconst 1, 1) := by decide +kernel
theorem dX2_combines_19 : decode cX2_combines 19 = .ok (.goto 4, 3) := by decide +kernel
theorem dX2_combines_22 : decode cX2_combines 22 = .ok (.iconst 0, 1) := by decide +kernel
theorem dX2_combines_23 : decode cX2_combines 23 = .ok (.ireturn, 1) := by decide +kernel
theorem dX2_mayRead_0 : decode cX2_mayRead 0 = .ok (.aload_n 0, 1) := by decide +kernel
theorem dX2_mayRead_1 : decode cX2_mayRead 1 = .ok (.invokevirtual 71, 3) := by decide +kernel
theorem dX2_mayRead_4 : decode cX2_mayRead 4 = .ok (.iconst 3, 1) := by decide +kernel
theorem dX2_mayRead_5 : decode cX2_mayRead 5 = .ok (.if_icmp .ne 19, 3) := by decide +kernel
theorem dX2_mayRead_8 : decode cX2_mayRead 8 = .ok (.aload_n 1, 1) := by decide +kernel
theorem dX2_mayRead_9 : decode cX2_mayRead 9 = .ok (.getfield 80, 3) := by decide +kernel
theorem dX2_mayRead_12 : decode cX2_mayRead 12 = .ok (.iconst 2, 1) := by decide +kernel
theorem dX2_mayRead_13 : decode cX2_mayRead 13 = .ok (.if_icmp .lt 7, 3) := by decide +kernel
theorem dX2_mayRead_16 : decode cX2_mayRead 16 = .ok (.iconst 1, 1) := by decide +kernel
theorem dX2_mayRead_17 : decode cX2_mayRead 17 = .ok (.goto 26, 3) := by decide +kernel
theorem dX2_mayRead_20 : decode cX2_mayRead 20 = .ok (.iconst 0, 1) := by decide +kernel
theorem dX2_mayRead_21 : decode cX2_mayRead 21 = .ok (.goto 22, 3) := by decide +kernel
theorem dX2_mayRead_24 : decode cX2_mayRead 24 = .ok (.aload_n 0, 1) := by decide +kernel
theorem dX2_mayRead_25 : decode cX2_mayRead 25 = .ok (.getfield 44, 3) := by decide +kernel
theorem dX2_mayRead_28 : decode cX2_mayRead 28 = .ok (.aload_n 0, 1) := by decide +kernel
theorem dX2_mayRead_29 : decode cX2_mayRead 29 = .ok (.getfield 47, 3) := by decide +kernel
theorem dX2_mayRead_32 : decode cX2_mayRead 32 = .ok (.iadd, 1) := by decide +kernel
theorem dX2_mayRead_33 : decode cX2_mayRead 33 = .ok (.bipush 16, 2) := by decide +kernel
theorem dX2_mayRead_35 : decode cX2_mayRead 35 = .ok (.if_icmp .gt 7, 3) := by decide +kernel
theorem dX2_mayRead_38 : decode cX2_mayRead 38 = .ok (.iconst 1, 1) := by decide +kernel
theorem dX2_mayRead_39 : decode cX2_mayRead 39 = .ok (.goto 4, 3) := by decide +kernel
theorem dX2_mayRead_42 : decode cX2_mayRead 42 = .ok (.iconst 0, 1) := by decide +kernel
theorem dX2_mayRead_43 : decode cX2_mayRead 43 = .ok (.ireturn, 1) := by decide +kernel
theorem dX2_mayWrite_0 : decode cX2_mayWrite 0 = .ok (.aload_n 0, 1) := by decide +kernel
theorem dX2_mayWrite_1 : decode cX2_mayWrite 1 = .ok (.invokevirtual 71, 3) := by decide +kernel
theorem dX2_mayWrite_4 : decode cX2_mayWrite 4 = .ok (.iconst 3, 1) := by decide +kernel
theorem dX2_mayWrite_5 : decode cX2_mayWrite 5 = .ok (.if_icmp .ne 17, 3) := by decide +kernel
theorem dX2_mayWrite_8 : decode cX2_mayWrite 8 = .ok (.aload_n 1, 1) := by decide +kernel
theorem dX2_mayWrite_9 : decode cX2_mayWrite 9 = .ok (.getfield 80, 3) := by decide +kernel
theorem dX2_mayWrite_12 : decode cX2_mayWrite 12 = .ok (.iconst 3, 1) := by decide +kernel
theorem dX2_mayWrite_13 : decode cX2_mayWrite 13 = .ok (.if_icmp .ne 7, 3) := by decide +kernel
theorem dX2_mayWrite_16 : decode cX2_mayWrite 16 = .ok (.iconst 1, 1) := by decide +kernel
theorem dX2_mayWrite_17 : decode cX2_mayWrite 17 = .ok (.goto 4, 3) := by decide +kernel
theorem dX2_mayWrite_20 : decode cX2_mayWrite 20 = .ok (.iconst 0, 1) := by decide +kernel
theorem dX2_mayWrite_21 : decode cX2_mayWrite 21 = .ok (.ireturn, 1) := by decide +kernel
theorem dX2_mayWrite_22 : decode cX2_mayWrite 22 = .ok (.aload_n 0, 1) := by decide +kernel
theorem dX2_mayWrite_23 : decode cX2_mayWrite 23 = .ok (.getfield 44, 3) := by decide +kernel
theorem dX2_mayWrite_26 : decode cX2_mayWrite 26 = .ok (.iconst 4, 1) := by decide +kernel
theorem dX2_mayWrite_27 : decode cX2_mayWrite 27 = .ok (.if_icmp .lt 21, 3) := by decide +kernel
theorem dX2_mayWrite_30 : decode cX2_mayWrite 30 = .ok (.aload_n 0, 1) := by decide +kernel
theorem dX2_mayWrite_31 : decode cX2_mayWrite 31 = .ok (.getfield 44, 3) := by decide +kernel
theorem dX2_mayWrite_34 : decode cX2_mayWrite 34 = .ok (.aload_n 0, 1) := by decide +kernel
theorem dX2_mayWrite_35 : decode cX2_mayWrite 35 = .ok (.getfield 47, 3) := by decide +kernel
theorem dX2_mayWrite_38 : decode cX2_mayWrite 38 = .ok (.iadd, 1) := by decide +kernel
theorem dX2_mayWrite_39 : decode cX2_mayWrite 39 = .ok (.bipush 16, 2) := by decide +kernel
theorem dX2_mayWrite_41 : decode cX2_mayWrite 41 = .ok (.if_icmp .gt 7, 3) := by decide +kernel
theorem dX2_mayWrite_44 : decode cX2_mayWrite 44 = .ok (.iconst 1, 1) := by decide +kernel
theorem dX2_mayWrite_45 : decode cX2_mayWrite 45 = .ok (.goto 4, 3) := by decide +kernel
theorem dX2_mayWrite_48 : decode cX2_mayWrite 48 = .ok (.iconst 0, 1) := by decide +kernel
theorem dX2_mayWrite_49 : decode cX2_mayWrite 49 = .ok (.ireturn, 1) := by decide +kernel
theorem dX2_readInto_0 : decode cX2_readInto 0 = .ok (.aload_n 0, 1) := by decide +kernel
theorem dX2_readInto_1 : decode cX2_readInto 1 = .ok (.aload_n 2, 1) := by decide +kernel
theorem dX2_readInto_2 : decode cX2_readInto 2 = .ok (.invokevirtual 83, 3) := by decide +kernel
theorem dX2_readInto_5 : decode cX2_readInto 5 = .ok (.ifCond .ne 5, 3) := by decide +kernel
theorem dX2_readInto_8 : decode cX2_readInto 8 = .ok (.iconst 0, 1) := by decide +kernel
theorem dX2_readInto_9 : decode cX2_readInto 9 = .ok (.ireturn, 1) := by decide +kernel
theorem dX2_readInto_10 : decode cX2_readInto 10 = .ok (.iconst 0, 1) := by decide +kernel
theorem dX2_readInto_11 : decode cX2_readInto 11 = .ok (.istore_n 3, 1) := by decide +kernel
theorem dX2_readInto_12 : decode cX2_readInto 12 = .ok (.iconst 0, 1) := by decide +kernel
theorem dX2_readInto_13 : decode cX2_readInto 13 = .ok (.istore 4, 2) := by decide +kernel
theorem dX2_readInto_15 : decode cX2_readInto 15 = .ok (.iload 4, 2) := by decide +kernel
theorem dX2_readInto_17 : decode cX2_readInto 17 = .ok (.aload_n 0, 1) := by decide +kernel
theorem dX2_readInto_18 : decode cX2_readInto 18 = .ok (.getfield 47, 3) := by decide +kernel
theorem dX2_readInto_21 : decode cX2_readInto 21 = .ok (.if_icmp .ge 73, 3) := by decide +kernel
theorem dX2_readInto_24 : decode cX2_readInto 24 = .ok (.aload_n 0, 1) := by decide +kernel
theorem dX2_readInto_25 : decode cX2_readInto 25 = .ok (.iload 4, 2) := by decide +kernel
theorem dX2_readInto_27 : decode cX2_readInto 27 = .ok (.aload_n 2, 1) := by decide +kernel
theorem dX2_readInto_28 : decode cX2_readInto 28 = .ok (.getfield 87, 3) := by decide +kernel
theorem dX2_readInto_31 : decode cX2_readInto 31 = .ok (.invokevirtual 91, 3) := by decide +kernel
theorem dX2_readInto_34 : decode cX2_readInto 34 = .ok (.istore 5, 2) := by decide +kernel
theorem dX2_readInto_36 : decode cX2_readInto 36 = .ok (.iload 5, 2) := by decide +kernel
theorem dX2_readInto_38 : decode cX2_readInto 38 = .ok (.iconst 0, 1) := by decide +kernel
theorem dX2_readInto_39 : decode cX2_readInto 39 = .ok (.bipush 15, 2) := by decide +kernel
theorem dX2_readInto_41 : decode cX2_readInto 41 = .ok (.invokestatic 95, 3) := by decide +kernel
theorem dX2_readInto_44 : decode cX2_readInto 44 = .ok (.ifCond .eq 44, 3) := by decide +kernel
theorem dX2_readInto_47 : decode cX2_readInto 47 = .ok (.aload_n 1, 1) := by decide +kernel
theorem dX2_readInto_48 : decode cX2_readInto 48 = .ok (.getfield 99, 3) := by decide +kernel
theorem dX2_readInto_51 : decode cX2_readInto 51 = .ok (.iload 4, 2) := by decide +kernel
theorem dX2_readInto_53 : decode cX2_readInto 53 = .ok (.aload_n 0, 1) := by decide +kernel
theorem dX2_readInto_54 : decode cX2_readInto 54 = .ok (.invokevirtual 100, 3) := by decide +kernel
theorem dX2_readInto_57 : decode cX2_readInto 57 = .ok (.ifCond .eq 21, 3) := by decide +kernel
theorem dX2_readInto_60 : decode cX2_readInto 60 = .ok (.aload_n 1, 1) := by decide +kernel
theorem dX2_readInto_61 : decode cX2_readInto 61 = .ok (.getfield 99, 3) := by decide +kernel
theorem dX2_readInto_64 : decode cX2_readInto 64 = .ok (.iload 4, 2) := by decide +kernel
theorem dX2_readInto_66 : decode cX2_readInto 66 = .ok (.iaload, 1) := by decide +kernel
theorem dX2_readInto_67 : decode cX2_readInto 67 = .ok (.aload_n 2, 1) := by decide +kernel
theorem dX2_readInto_68 : decode cX2_readInto 68 = .ok (.getfield 104, 3) := by decide +kernel
theorem dX2_readInto_71 : decode cX2_readInto 71 = .ok (.iload 5, 2) := by decide +kernel
theorem dX2_readInto_73 : decode cX2_readInto 73 = .ok (.iaload, 1) := by decide +kernel
theorem dX2_readInto_74 : decode cX2_readInto 74 = .ok (.ior, 1) := by decide +kernel
theorem dX2_readInto_75 : decode cX2_readInto 75 = .ok (.goto 10, 3) := by decide +kernel
theorem dX2_readInto_78 : decode cX2_readInto 78 = .ok (.aload_n 2, 1) := by decide +kernel
theorem dX2_readInto_79 : decode cX2_readInto 79 = .ok (.getfield 104, 3) := by decide +kernel
theorem dX2_readInto_82 : decode cX2_readInto 82 = .ok (.iload 5, 2) := by decide +kernel
theorem dX2_readInto_84 : decode cX2_readInto 84 = .ok (.iaload, 1) := by decide +kernel
theorem dX2_readInto_85 : decode cX2_readInto 85 = .ok (.iastore, 1) := by decide +kernel
theorem dX2_readInto_86 : decode cX2_readInto 86 = .ok (.iconst 1, 1) := by decide +kernel
theorem dX2_readInto_87 : decode cX2_readInto 87 = .ok (.istore_n 3, 1) := by decide +kernel
theorem dX2_readInto_88 : decode cX2_readInto 88 = .ok (.iinc 4 1, 3) := by decide +kernel
theorem dX2_readInto_91 : decode cX2_readInto 91 = .ok (.goto (-76), 3) := by decide +kernel
theorem dX2_readInto_94 : decode cX2_readInto 94 = .ok (.iload_n 3, 1) := by decide +kernel
theorem dX2_readInto_95 : decode cX2_readInto 95 = .ok (.ireturn, 1) := by decide +kernel
theorem dX2_writeFrom_0 : decode cX2_writeFrom 0 = .ok (.aload_n 0, 1) := by decide +kernel
theorem dX2_writeFrom_1 : decode cX2_writeFrom 1 = .ok (.aload_n 2, 1) := by decide +kernel
theorem dX2_writeFrom_2 : decode cX2_writeFrom 2 = .ok (.invokevirtual 105, 3) := by decide +kernel
theorem dX2_writeFrom_5 : decode cX2_writeFrom 5 = .ok (.ifCond .ne 5, 3) := by decide +kernel
theorem dX2_writeFrom_8 : decode cX2_writeFrom 8 = .ok (.iconst 0, 1) := by decide +kernel
theorem dX2_writeFrom_9 : decode cX2_writeFrom 9 = .ok (.ireturn, 1) := by decide +kernel
theorem dX2_writeFrom_10 : decode cX2_writeFrom 10 = .ok (.iconst 0, 1) := by decide +kernel
theorem dX2_writeFrom_11 : decode cX2_writeFrom 11 = .ok (.istore_n 3, 1) := by decide +kernel
theorem dX2_writeFrom_12 : decode cX2_writeFrom 12 = .ok (.iconst 0, 1) := by decide +kernel
theorem dX2_writeFrom_13 : decode cX2_writeFrom 13 = .ok (.istore 4, 2) := by decide +kernel
theorem dX2_writeFrom_15 : decode cX2_writeFrom 15 = .ok (.iload 4, 2) := by decide +kernel
theorem dX2_writeFrom_17 : decode cX2_writeFrom 17 = .ok (.aload_n 0, 1) := by decide +kernel
theorem dX2_writeFrom_18 : decode cX2_writeFrom 18 = .ok (.getfield 47, 3) := by decide +kernel
theorem dX2_writeFrom_21 : decode cX2_writeFrom 21 = .ok (.if_icmp .ge 48, 3) := by decide +kernel
theorem dX2_writeFrom_24 : decode cX2_writeFrom 24 = .ok (.aload_n 0, 1) := by decide +kernel
theorem dX2_writeFrom_25 : decode cX2_writeFrom 25 = .ok (.iload 4, 2) := by decide +kernel
theorem dX2_writeFrom_27 : decode cX2_writeFrom 27 = .ok (.aload_n 2, 1) := by decide +kernel
theorem dX2_writeFrom_28 : decode cX2_writeFrom 28 = .ok (.getfield 108, 3) := by decide +kernel
theorem dX2_writeFrom_31 : decode cX2_writeFrom 31 = .ok (.invokevirtual 91, 3) := by decide +kernel
theorem dX2_writeFrom_34 : decode cX2_writeFrom 34 = .ok (.istore 5, 2) := by decide +kernel
theorem dX2_writeFrom_36 : decode cX2_writeFrom 36 = .ok (.iload 5, 2) := by decide +kernel
theorem dX2_writeFrom_38 : decode cX2_writeFrom 38 = .ok (.iconst 4, 1) := by decide +kernel
theorem dX2_writeFrom_39 : decode cX2_writeFrom 39 = .ok (.bipush 15, 2) := by decide +kernel
theorem dX2_writeFrom_41 : decode cX2_writeFrom 41 = .ok (.invokestatic 95, 3) := by decide +kernel
theorem dX2_writeFrom_44 : decode cX2_writeFrom 44 = .ok (.ifCond .eq 19, 3) := by decide +kernel
theorem dX2_writeFrom_47 : decode cX2_writeFrom 47 = .ok (.aload_n 2, 1) := by decide +kernel
theorem dX2_writeFrom_48 : decode cX2_writeFrom 48 = .ok (.getfield 104, 3) := by decide +kernel
theorem dX2_writeFrom_51 : decode cX2_writeFrom 51 = .ok (.iload 5, 2) := by decide +kernel
theorem dX2_writeFrom_53 : decode cX2_writeFrom 53 = .ok (.aload_n 1, 1) := by decide +kernel
theorem dX2_writeFrom_54 : decode cX2_writeFrom 54 = .ok (.getfield 111, 3) := by decide +kernel
theorem dX2_writeFrom_57 : decode cX2_writeFrom 57 = .ok (.iload 4, 2) := by decide +kernel
theorem dX2_writeFrom_59 : decode cX2_writeFrom 59 = .ok (.iaload, 1) := by decide +kernel
theorem dX2_writeFrom_60 : decode cX2_writeFrom 60 = .ok (.iastore, 1) := by decide +kernel
theorem dX2_writeFrom_61 : decode cX2_writeFrom 61 = .ok (.iconst 1, 1) := by decide +kernel
theorem dX2_writeFrom_62 : decode cX2_writeFrom 62 = .ok (.istore_n 3, 1) := by decide +kernel
theorem dX2_writeFrom_63 : decode cX2_writeFrom 63 = .ok (.iinc 4 1, 3) := by decide +kernel
theorem dX2_writeFrom_66 : decode cX2_writeFrom 66 = .ok (.goto (-51), 3) := by decide +kernel
theorem dX2_writeFrom_69 : decode cX2_writeFrom 69 = .ok (.iload_n 3, 1) := by decide +kernel
theorem dX2_writeFrom_70 : decode cX2_writeFrom 70 = .ok (.ireturn, 1) := by decide +kernel
theorem dX2_byteOver_0 : decode cX2_byteOver 0 = .ok (.aload_n 0, 1) := by decide +kernel
theorem dX2_byteOver_1 : decode cX2_byteOver 1 = .ok (.invokevirtual 71, 3) := by decide +kernel
theorem dX2_byteOver_4 : decode cX2_byteOver 4 = .ok (.iconst 3, 1) := by decide +kernel
theorem dX2_byteOver_5 : decode cX2_byteOver 5 = .ok (.if_icmp .ne 16, 3) := by decide +kernel
theorem dX2_byteOver_8 : decode cX2_byteOver 8 = .ok (.aload_n 2, 1) := by decide +kernel
theorem dX2_byteOver_9 : decode cX2_byteOver 9 = .ok (.aload_n 0, 1) := by decide +kernel
theorem dX2_byteOver_10 : decode cX2_byteOver 10 = .ok (.getfield 41, 3) := by decide +kernel
theorem dX2_byteOver_13 : decode cX2_byteOver 13 = .ok (.iload_n 1, 1) := by decide +kernel
theorem dX2_byteOver_14 : decode cX2_byteOver 14 = .ok (.iadd, 1) := by decide +kernel
theorem dX2_byteOver_15 : decode cX2_byteOver 15 = .ok (.invokevirtual 114, 3) := by decide +kernel
theorem dX2_byteOver_18 : decode cX2_byteOver 18 = .ok (.goto 9, 3) := by decide +kernel
theorem dX2_byteOver_21 : decode cX2_byteOver 21 = .ok (.aload_n 0, 1) := by decide +kernel
theorem dX2_byteOver_22 : decode cX2_byteOver 22 = .ok (.getfield 44, 3) := by decide +kernel
theorem dX2_byteOver_25 : decode cX2_byteOver 25 = .ok (.iload_n 1, 1) := by decide +kernel
theorem dX2_byteOver_26 : decode cX2_byteOver 26 = .ok (.iadd, 1) := by decide +kernel
theorem dX2_byteOver_27 : decode cX2_byteOver 27 = .ok (.ireturn, 1) := by decide +kernel
theorem dX2_comeHome_0 : decode cX2_comeHome 0 = .ok (.aload_n 0, 1) := by decide +kernel
theorem dX2_comeHome_1 : decode cX2_comeHome 1 = .ok (.aload_n 0, 1) := by decide +kernel
theorem dX2_comeHome_2 : decode cX2_comeHome 2 = .ok (.getfield 28, 3) := by decide +kernel
theorem dX2_comeHome_5 : decode cX2_comeHome 5 = .ok (.ifCond .ne 7, 3) := by decide +kernel
theorem dX2_comeHome_8 : decode cX2_comeHome 8 = .ok (.iconst 0, 1) := by decide +kernel
theorem dX2_comeHome_9 : decode cX2_comeHome 9 = .ok (.goto 7, 3) := by decide +kernel
theorem dX2_comeHome_12 : decode cX2_comeHome 12 = .ok (.aload_n 0, 1) := by decide +kernel
theorem dX2_comeHome_13 : decode cX2_comeHome 13 = .ok (.getfield 47, 3) := by decide +kernel
theorem dX2_comeHome_16 : decode cX2_comeHome 16 = .ok (.putfield 32, 3) := by decide +kernel
theorem dX2_comeHome_19 : decode cX2_comeHome 19 = .ok (.aload_n 0, 1) := by decide +kernel
theorem dX2_comeHome_20 : decode cX2_comeHome 20 = .ok (.iload_n 1, 1) := by decide +kernel
theorem dX2_comeHome_21 : decode cX2_comeHome 21 = .ok (.ifCond .eq 21, 3) := by decide +kernel
theorem dX2_comeHome_24 : decode cX2_comeHome 24 = .ok (.aload_n 0, 1) := by decide +kernel
theorem dX2_comeHome_25 : decode cX2_comeHome 25 = .ok (.getfield 18, 3) := by decide +kernel
theorem dX2_comeHome_28 : decode cX2_comeHome 28 = .ok (.getfield 65, 3) := by decide +kernel
theorem dX2_comeHome_31 : decode cX2_comeHome 31 = .ok (.aload_n 0, 1) := by decide +kernel
theorem dX2_comeHome_32 : decode cX2_comeHome 32 = .ok (.getfield 22, 3) := by decide +kernel
theorem dX2_comeHome_35 : decode cX2_comeHome 35 = .ok (.getfield 65, 3) := by decide +kernel
theorem dX2_comeHome_38 : decode cX2_comeHome 38 = .ok (.iadd, 1) := by decide +kernel
theorem dX2_comeHome_39 : decode cX2_comeHome 39 = .ok (.goto 10, 3) := by decide +kernel
theorem dX2_comeHome_42 : decode cX2_comeHome 42 = .ok (.aload_n 0, 1) := by decide +kernel
theorem dX2_comeHome_43 : decode cX2_comeHome 43 = .ok (.getfield 18, 3) := by decide +kernel
theorem dX2_comeHome_46 : decode cX2_comeHome 46 = .ok (.getfield 65, 3) := by decide +kernel
theorem dX2_comeHome_49 : decode cX2_comeHome 49 = .ok (.putfield 119, 3) := by decide +kernel
theorem dX2_comeHome_52 : decode cX2_comeHome 52 = .ok (.iconst 0, 1) := by decide +kernel
theorem dX2_comeHome_53 : decode cX2_comeHome 53 = .ok (.istore_n 2, 1) := by decide +kernel
theorem dX2_comeHome_54 : decode cX2_comeHome 54 = .ok (.iload_n 2, 1) := by decide +kernel
theorem dX2_comeHome_55 : decode cX2_comeHome 55 = .ok (.aload_n 0, 1) := by decide +kernel
theorem dX2_comeHome_56 : decode cX2_comeHome 56 = .ok (.getfield 32, 3) := by decide +kernel
theorem dX2_comeHome_59 : decode cX2_comeHome 59 = .ok (.if_icmp .ge 36, 3) := by decide +kernel
theorem dX2_comeHome_62 : decode cX2_comeHome 62 = .ok (.aload_n 0, 1) := by decide +kernel
theorem dX2_comeHome_63 : decode cX2_comeHome 63 = .ok (.getfield 25, 3) := by decide +kernel
theorem dX2_comeHome_66 : decode cX2_comeHome 66 = .ok (.iload_n 2, 1) := by decide +kernel
theorem dX2_comeHome_67 : decode cX2_comeHome 67 = .ok (.iload_n 1, 1) := by decide +kernel
theorem dX2_comeHome_68 : decode cX2_comeHome 68 = .ok (.ifCond .eq 11, 3) := by decide +kernel
theorem dX2_comeHome_71 : decode cX2_comeHome 71 = .ok (.aload_n 0, 1) := by decide +kernel
theorem dX2_comeHome_72 : decode cX2_comeHome 72 = .ok (.iload_n 2, 1) := by decide +kernel
theorem dX2_comeHome_73 : decode cX2_comeHome 73 = .ok (.invokevirtual 122, 3) := by decide +kernel
theorem dX2_comeHome_76 : decode cX2_comeHome 76 = .ok (.goto 12, 3) := by decide +kernel
theorem dX2_comeHome_79 : decode cX2_comeHome 79 = .ok (.aload_n 0, 1) := by decide +kernel
theorem dX2_comeHome_80 : decode cX2_comeHome 80 = .ok (.getfield 18, 3) := by decide +kernel
theorem dX2_comeHome_83 : decode cX2_comeHome 83 = .ok (.getfield 99, 3) := by decide +kernel
theorem dX2_comeHome_86 : decode cX2_comeHome 86 = .ok (.iload_n 2, 1) := by decide +kernel
theorem dX2_comeHome_87 : decode cX2_comeHome 87 = .ok (.iaload, 1) := by decide +kernel
theorem dX2_comeHome_88 : decode cX2_comeHome 88 = .ok (.iastore, 1) := by decide +kernel
theorem dX2_comeHome_89 : decode cX2_comeHome 89 = .ok (.iinc 2 1, 3) := by decide +kernel
theorem dX2_comeHome_92 : decode cX2_comeHome 92 = .ok (.goto (-38), 3) := by decide +kernel
theorem dX2_comeHome_95 : decode cX2_comeHome 95 = .ok (.return_, 1) := by decide +kernel
theorem dX2_joinedByte_0 : decode cX2_joinedByte 0 = .ok (.aload_n 0, 1) := by decide +kernel
theorem dX2_joinedByte_1 : decode cX2_joinedByte 1 = .ok (.invokevirtual 100, 3) := by decide +kernel
theorem dX2_joinedByte_4 : decode cX2_joinedByte 4 = .ok (.ifCond .eq 23, 3) := by decide +kernel
theorem dX2_joinedByte_7 : decode cX2_joinedByte 7 = .ok (.aload_n 0, 1) := by decide +kernel
theorem dX2_joinedByte_8 : decode cX2_joinedByte 8 = .ok (.getfield 18, 3) := by decide +kernel
theorem dX2_joinedByte_11 : decode cX2_joinedByte 11 = .ok (.getfield 99, 3) := by decide +kernel
theorem dX2_joinedByte_14 : decode cX2_joinedByte 14 = .ok (.iload_n 1, 1) := by decide +kernel
theorem dX2_joinedByte_15 : decode cX2_joinedByte 15 = .ok (.iaload, 1) := by decide +kernel
theorem dX2_joinedByte_16 : decode cX2_joinedByte 16 = .ok (.aload_n 0, 1) := by decide +kernel
theorem dX2_joinedByte_17 : decode cX2_joinedByte 17 = .ok (.getfield 22, 3) := by decide +kernel
theorem dX2_joinedByte_20 : decode cX2_joinedByte 20 = .ok (.getfield 99, 3) := by decide +kernel
theorem dX2_joinedByte_23 : decode cX2_joinedByte 23 = .ok (.iload_n 1, 1) := by decide +kernel
theorem dX2_joinedByte_24 : decode cX2_joinedByte 24 = .ok (.iaload, 1) := by decide +kernel
theorem dX2_joinedByte_25 : decode cX2_joinedByte 25 = .ok (.ior, 1) := by decide +kernel
theorem dX2_joinedByte_26 : decode cX2_joinedByte 26 = .ok (.ireturn, 1) := by decide +kernel
theorem dX2_joinedByte_27 : decode cX2_joinedByte 27 = .ok (.aload_n 0, 1) := by decide +kernel
theorem dX2_joinedByte_28 : decode cX2_joinedByte 28 = .ok (.getfield 18, 3) := by decide +kernel
theorem dX2_joinedByte_31 : decode cX2_joinedByte 31 = .ok (.getfield 99, 3) := by decide +kernel
theorem dX2_joinedByte_34 : decode cX2_joinedByte 34 = .ok (.iload_n 1, 1) := by decide +kernel
theorem dX2_joinedByte_35 : decode cX2_joinedByte 35 = .ok (.iaload, 1) := by decide +kernel
theorem dX2_joinedByte_36 : decode cX2_joinedByte 36 = .ok (.aload_n 0, 1) := by decide +kernel
theorem dX2_joinedByte_37 : decode cX2_joinedByte 37 = .ok (.getfield 9, 3) := by decide +kernel
theorem dX2_joinedByte_40 : decode cX2_joinedByte 40 = .ok (.iload_n 1, 1) := by decide +kernel
theorem dX2_joinedByte_41 : decode cX2_joinedByte 41 = .ok (.iaload, 1) := by decide +kernel
theorem dX2_joinedByte_42 : decode cX2_joinedByte 42 = .ok (.if_icmp .eq 15, 3) := by decide +kernel
theorem dX2_joinedByte_45 : decode cX2_joinedByte 45 = .ok (.aload_n 0, 1) := by decide +kernel
theorem dX2_joinedByte_46 : decode cX2_joinedByte 46 = .ok (.getfield 18, 3) := by decide +kernel
theorem dX2_joinedByte_49 : decode cX2_joinedByte 49 = .ok (.getfield 99, 3) := by decide +kernel
theorem dX2_joinedByte_52 : decode cX2_joinedByte 52 = .ok (.iload_n 1, 1) := by decide +kernel
theorem dX2_joinedByte_53 : decode cX2_joinedByte 53 = .ok (.iaload, 1) := by decide +kernel
theorem dX2_joinedByte_54 : decode cX2_joinedByte 54 = .ok (.goto 12, 3) := by decide +kernel
theorem dX2_joinedByte_57 : decode cX2_joinedByte 57 = .ok (.aload_n 0, 1) := by decide +kernel
theorem dX2_joinedByte_58 : decode cX2_joinedByte 58 = .ok (.getfield 22, 3) := by decide +kernel
theorem dX2_joinedByte_61 : decode cX2_joinedByte 61 = .ok (.getfield 99, 3) := by decide +kernel
theorem dX2_joinedByte_64 : decode cX2_joinedByte 64 = .ok (.iload_n 1, 1) := by decide +kernel
theorem dX2_joinedByte_65 : decode cX2_joinedByte 65 = .ok (.iaload, 1) := by decide +kernel
theorem dX2_joinedByte_66 : decode cX2_joinedByte 66 = .ok (.ireturn, 1) := by decide +kernel
theorem dX2_likeness_0 : decode cX2_likeness 0 = .ok (.aload_n 0, 1) := by decide +kernel
theorem dX2_likeness_1 : decode cX2_likeness 1 = .ok (.getfield 28, 3) := by decide +kernel
theorem dX2_likeness_4 : decode cX2_likeness 4 = .ok (.bipush 100, 2) := by decide +kernel
theorem dX2_likeness_6 : decode cX2_likeness 6 = .ok (.imul, 1) := by decide +kernel
theorem dX2_likeness_7 : decode cX2_likeness 7 = .ok (.aload_n 0, 1) := by decide +kernel
theorem dX2_likeness_8 : decode cX2_likeness 8 = .ok (.getfield 41, 3) := by decide +kernel
theorem dX2_likeness_11 : decode cX2_likeness 11 = .ok (.iadd, 1) := by decide +kernel
theorem dX2_likeness_12 : decode cX2_likeness 12 = .ok (.bipush 16, 2) := by decide +kernel
theorem dX2_likeness_14 : decode cX2_likeness 14 = .ok (.imul, 1) := by decide +kernel
theorem dX2_likeness_15 : decode cX2_likeness 15 = .ok (.aload_n 0, 1) := by decide +kernel
theorem dX2_likeness_16 : decode cX2_likeness 16 = .ok (.getfield 44, 3) := by decide +kernel
theorem dX2_likeness_19 : decode cX2_likeness 19 = .ok (.iadd, 1) := by decide +kernel
theorem dX2_likeness_20 : decode cX2_likeness 20 = .ok (.bipush 10, 2) := by decide +kernel
theorem dX2_likeness_22 : decode cX2_likeness 22 = .ok (.imul, 1) := by decide +kernel
theorem dX2_likeness_23 : decode cX2_likeness 23 = .ok (.aload_n 0, 1) := by decide +kernel
theorem dX2_likeness_24 : decode cX2_likeness 24 = .ok (.getfield 47, 3) := by decide +kernel
theorem dX2_likeness_27 : decode cX2_likeness 27 = .ok (.iadd, 1) := by decide +kernel
theorem dX2_likeness_28 : decode cX2_likeness 28 = .ok (.ireturn, 1) := by decide +kernel
theorem dX3_init_0 : decode cX3_init 0 = .ok (.aload_n 0, 1) := by decide +kernel
theorem dX3_init_1 : decode cX3_init 1 = .ok (.invokespecial 3, 3) := by decide +kernel
theorem dX3_init_4 : decode cX3_init 4 = .ok (.aload_n 0, 1) := by decide +kernel
theorem dX3_init_5 : decode cX3_init 5 = .ok (.bipush 16, 2) := by decide +kernel
theorem dX3_init_7 : decode cX3_init 7 = .ok (.newarray .int, 2) := by decide +kernel
theorem dX3_init_9 : decode cX3_init 9 = .ok (.putfield 9, 3) := by decide +kernel
theorem dX3_init_12 : decode cX3_init 12 = .ok (.aload_n 0, 1) := by decide +kernel
theorem dX3_init_13 : decode cX3_init 13 = .ok (.new 15, 3) := by decide +kernel
theorem dX3_init_16 : decode cX3_init 16 = .ok (.dup, 1) := by decide +kernel
theorem dX3_init_17 : decode cX3_init 17 = .ok (.invokespecial 17, 3) := by decide +kernel
theorem dX3_init_20 : decode cX3_init 20 = .ok (.putfield 18, 3) := by decide +kernel
theorem dX3_init_23 : decode cX3_init 23 = .ok (.aload_n 0, 1) := by decide +kernel
theorem dX3_init_24 : decode cX3_init 24 = .ok (.new 15, 3) := by decide +kernel
theorem dX3_init_27 : decode cX3_init 27 = .ok (.dup, 1) := by decide +kernel
theorem dX3_init_28 : decode cX3_init 28 = .ok (.invokespecial 17, 3) := by decide +kernel
theorem dX3_init_31 : decode cX3_init 31 = .ok (.putfield 22, 3) := by decide +kernel
theorem dX3_init_34 : decode cX3_init 34 = .ok (.aload_n 0, 1) := by decide +kernel
theorem dX3_init_35 : decode cX3_init 35 = .ok (.new 25, 3) := by decide +kernel
theorem dX3_init_38 : decode cX3_init 38 = .ok (.dup, 1) := by decide +kernel
theorem dX3_init_39 : decode cX3_init 39 = .ok (.invokespecial 27, 3) := by decide +kernel
theorem dX3_init_42 : decode cX3_init 42 = .ok (.putfield 28, 3) := by decide +kernel
theorem dX3_init_45 : decode cX3_init 45 = .ok (.return_, 1) := by decide +kernel
theorem dX3_begin_0 : decode cX3_begin 0 = .ok (.aload_n 0, 1) := by decide +kernel
theorem dX3_begin_1 : decode cX3_begin 1 = .ok (.iload_n 1, 1) := by decide +kernel
theorem dX3_begin_2 : decode cX3_begin 2 = .ok (.putfield 32, 3) := by decide +kernel
theorem dX3_begin_5 : decode cX3_begin 5 = .ok (.aload_n 0, 1) := by decide +kernel
theorem dX3_begin_6 : decode cX3_begin 6 = .ok (.iload_n 2, 1) := by decide +kernel
theorem dX3_begin_7 : decode cX3_begin 7 = .ok (.putfield 36, 3) := by decide +kernel
theorem dX3_begin_10 : decode cX3_begin 10 = .ok (.aload_n 0, 1) := by decide +kernel
theorem dX3_begin_11 : decode cX3_begin 11 = .ok (.iload_n 3, 1) := by decide +kernel
theorem dX3_begin_12 : decode cX3_begin 12 = .ok (.putfield 39, 3) := by decide +kernel
theorem dX3_begin_15 : decode cX3_begin 15 = .ok (.aload_n 0, 1) := by decide +kernel
theorem dX3_begin_16 : decode cX3_begin 16 = .ok (.iconst 0, 1) := by decide +kernel
theorem dX3_begin_17 : decode cX3_begin 17 = .ok (.putfield 42, 3) := by decide +kernel
theorem dX3_begin_20 : decode cX3_begin 20 = .ok (.aload_n 0, 1) := by decide +kernel
theorem dX3_begin_21 : decode cX3_begin 21 = .ok (.iconst 0, 1) := by decide +kernel
theorem dX3_begin_22 : decode cX3_begin 22 = .ok (.putfield 45, 3) := by decide +kernel
theorem dX3_begin_25 : decode cX3_begin 25 = .ok (.aload_n 0, 1) := by decide +kernel
theorem dX3_begin_26 : decode cX3_begin 26 = .ok (.getfield 9, 3) := by decide +kernel
theorem dX3_begin_29 : decode cX3_begin 29 = .ok (.iconst 0, 1) := by decide +kernel
theorem dX3_begin_30 : decode cX3_begin 30 = .ok (.invokestatic 48, 3) := by decide +kernel
theorem dX3_begin_33 : decode cX3_begin 33 = .ok (.aload_n 0, 1) := by decide +kernel
theorem dX3_begin_34 : decode cX3_begin 34 = .ok (.getfield 18, 3) := by decide +kernel
theorem dX3_begin_37 : decode cX3_begin 37 = .ok (.invokevirtual 54, 3) := by decide +kernel
theorem dX3_begin_40 : decode cX3_begin 40 = .ok (.aload_n 0, 1) := by decide +kernel
theorem dX3_begin_41 : decode cX3_begin 41 = .ok (.getfield 22, 3) := by decide +kernel
theorem dX3_begin_44 : decode cX3_begin 44 = .ok (.invokevirtual 54, 3) := by decide +kernel
theorem dX3_begin_47 : decode cX3_begin 47 = .ok (.aload_n 0, 1) := by decide +kernel
theorem dX3_begin_48 : decode cX3_begin 48 = .ok (.iconst 0, 1) := by decide +kernel
theorem dX3_begin_49 : decode cX3_begin 49 = .ok (.invokevirtual 57, 3) := by decide +kernel
theorem dX3_begin_52 : decode cX3_begin 52 = .ok (.return_, 1) := by decide +kernel
theorem dX3_enter_0 : decode cX3_enter 0 = .ok (.aload_n 0, 1) := by decide +kernel
theorem dX3_enter_1 : decode cX3_enter 1 = .ok (.iload_n 1, 1) := by decide +kernel
theorem dX3_enter_2 : decode cX3_enter 2 = .ok (.putfield 61, 3) := by decide +kernel
theorem dX3_enter_5 : decode cX3_enter 5 = .ok (.iload_n 1, 1) := by decide +kernel
theorem dX3_enter_6 : decode cX3_enter 6 = .ok (.ifCond .ne 10, 3) := by decide +kernel
theorem dX3_enter_9 : decode cX3_enter 9 = .ok (.aload_n 0, 1) := by decide +kernel
theorem dX3_enter_10 : decode cX3_enter 10 = .ok (.getfield 28, 3) := by decide +kernel
theorem dX3_enter_13 : decode cX3_enter 13 = .ok (.invokevirtual 64, 3) := by decide +kernel
theorem dX3_enter_16 : decode cX3_enter 16 = .ok (.return_, 1) := by decide +kernel
theorem dX3_overlay_0 : decode cX3_overlay 0 = .ok (.iload_n 1, 1) := by decide +kernel
theorem dX3_overlay_1 : decode cX3_overlay 1 = .ok (.iconst 1, 1) := by decide +kernel
theorem dX3_overlay_2 : decode cX3_overlay 2 = .ok (.if_icmp .ne 10, 3) := by decide +kernel
theorem dX3_overlay_5 : decode cX3_overlay 5 = .ok (.aload_n 0, 1) := by decide +kernel
theorem dX3_overlay_6 : decode cX3_overlay 6 = .ok (.getfield 22, 3) := by decide +kernel
theorem dX3_overlay_9 : decode cX3_overlay 9 = .ok (.goto 7, 3) := by decide +kernel
theorem dX3_overlay_12 : decode cX3_overlay 12 = .ok (.aload_n 0, 1) := by decide +kernel
theorem dX3_overlay_13 : decode cX3_overlay 13 = .ok (.getfield 18, 3) := by decide +kernel
theorem dX3_overlay_16 : decode cX3_overlay 16 = .ok (.areturn, 1) := by decide +kernel
theorem dX3_ownClock_0 : decode cX3_ownClock 0 = .ok (.aload_n 0, 1) := by decide +kernel
theorem dX3_ownClock_1 : decode cX3_ownClock 1 = .ok (.getfield 36, 3) := by decide +kernel
theorem dX3_ownClock_4 : decode cX3_ownClock 4 = .ok (.iload_n 1, 1) := by decide +kernel
theorem dX3_ownClock_5 : decode cX3_ownClock 5 = .ok (.iadd, 1) := by decide +kernel
theorem dX3_ownClock_6 : decode cX3_ownClock 6 = .ok (.iload_n 1, 1) := by decide +kernel
theorem dX3_ownClock_7 : decode cX3_ownClock 7 = .ok (.aload_n 0, 1) := by decide +kernel
theorem dX3_ownClock_8 : decode cX3_ownClock 8 = .ok (.getfield 39, 3) := by decide +kernel
theorem dX3_ownClock_11 : decode cX3_ownClock 11 = .ok (.iconst 4, 1) := by decide +kernel
theorem dX3_ownClock_12 : decode cX3_ownClock 12 = .ok (.isub, 1) := by decide +kernel
theorem dX3_ownClock_13 : decode cX3_ownClock 13 = .ok (.imul, 1) := by decide +kernel
theorem dX3_ownClock_14 : decode cX3_ownClock 14 = .ok (.bipush 100, 2) := by decide +kernel
theorem dX3_ownClock_16 : decode cX3_ownClock 16 = .ok (.invokestatic 67, 3) := by decide +kernel
theorem dX3_ownClock_19 : decode cX3_ownClock 19 = .ok (.iadd, 1) := by decide +kernel
theorem dX3_ownClock_20 : decode cX3_ownClock 20 = .ok (.ireturn, 1) := by decide +kernel
theorem dX3_systemClock_0 : decode cX3_systemClock 0 = .ok (.aload_n 0, 1) := by decide +kernel
theorem dX3_systemClock_1 : decode cX3_systemClock 1 = .ok (.iload_n 1, 1) := by decide +kernel
theorem dX3_systemClock_2 : decode cX3_systemClock 2 = .ok (.invokevirtual 73, 3) := by decide +kernel
theorem dX3_systemClock_5 : decode cX3_systemClock 5 = .ok (.aload_n 0, 1) := by decide +kernel
theorem dX3_systemClock_6 : decode cX3_systemClock 6 = .ok (.getfield 42, 3) := by decide +kernel
theorem dX3_systemClock_9 : decode cX3_systemClock 9 = .ok (.iadd, 1) := by decide +kernel
theorem dX3_systemClock_10 : decode cX3_systemClock 10 = .ok (.ireturn, 1) := by decide +kernel
theorem dX3_showAt_0 : decode cX3_showAt 0 = .ok (.aload_n 0, 1) := by decide +kernel
theorem dX3_showAt_1 : decode cX3_showAt 1 = .ok (.iload_n 1, 1) := by decide +kernel
theorem dX3_showAt_2 : decode cX3_showAt 2 = .ok (.invokevirtual 77, 3) := by decide +kernel
theorem dX3_showAt_5 : decode cX3_showAt 5 = .ok (.ldc 80, 2) := by decide +kernel
theorem dX3_showAt_7 : decode cX3_showAt 7 = .ok (.invokestatic 81, 3) := by decide +kernel
theorem dX3_showAt_10 : decode cX3_showAt 10 = .ok (.istore_n 2, 1) := by decide +kernel
theorem dX3_showAt_11 : decode cX3_showAt 11 = .ok (.aload_n 0, 1) := by decide +kernel
theorem dX3_showAt_12 : decode cX3_showAt 12 = .ok (.getfield 9, 3) := by decide +kernel
theorem dX3_showAt_15 : decode cX3_showAt 15 = .ok (.iconst 0, 1) := by decide +kernel
theorem dX3_showAt_16 : decode cX3_showAt 16 = .ok (.aload_n 0, 1) := by decide +kernel
theorem dX3_showAt_17 : decode cX3_showAt 17 = .ok (.getfield 32, 3) := by decide +kernel
theorem dX3_showAt_20 : decode cX3_showAt 20 = .ok (.iastore, 1) := by decide +kernel
theorem dX3_showAt_21 : decode cX3_showAt 21 = .ok (.aload_n 0, 1) := by decide +kernel
theorem dX3_showAt_22 : decode cX3_showAt 22 = .ok (.getfield 9, 3) := by decide +kernel
theorem dX3_showAt_25 : decode cX3_showAt 25 = .ok (.iconst 1, 1) := by decide +kernel
theorem dX3_showAt_26 : decode cX3_showAt 26 = .ok (.aload_n 0, 1) := by decide +kernel
theorem dX3_showAt_27 : decode cX3_showAt 27 = .ok (.getfield 61, 3) := by decide +kernel
theorem dX3_showAt_30 : decode cX3_showAt 30 = .ok (.iastore, 1) := by decide +kernel
theorem dX3_showAt_31 : decode cX3_showAt 31 = .ok (.aload_n 0, 1) := by decide +kernel
theorem dX3_showAt_32 : decode cX3_showAt 32 = .ok (.getfield 9, 3) := by decide +kernel
theorem dX3_showAt_35 : decode cX3_showAt 35 = .ok (.iconst 2, 1) := by decide +kernel
theorem dX3_showAt_36 : decode cX3_showAt 36 = .ok (.iload_n 2, 1) := by decide +kernel
theorem dX3_showAt_37 : decode cX3_showAt 37 = .ok (.sipush 256, 3) := by decide +kernel
theorem dX3_showAt_40 : decode cX3_showAt 40 = .ok (.irem, 1) := by decide +kernel
theorem dX3_showAt_41 : decode cX3_showAt 41 = .ok (.iastore, 1) := by decide +kernel
theorem dX3_showAt_42 : decode cX3_showAt 42 = .ok (.aload_n 0, 1) := by decide +kernel
theorem dX3_showAt_43 : decode cX3_showAt 43 = .ok (.getfield 9, 3) := by decide +kernel
theorem dX3_showAt_46 : decode cX3_showAt 46 = .ok (.iconst 3, 1) := by decide +kernel
theorem dX3_showAt_47 : decode cX3_showAt 47 = .ok (.iload_n 2, 1) := by decide +kernel
theorem dX3_showAt_48 : decode cX3_showAt 48 = .ok (.sipush 256, 3) := by decide +kernel
theorem dX3_showAt_51 : decode cX3_showAt 51 = .ok (.idiv, 1) := by decide +kernel
theorem dX3_showAt_52 : decode cX3_showAt 52 = .ok (.iastore, 1) := by decide +kernel
theorem dX3_showAt_53 : decode cX3_showAt 53 = .ok (.return_, 1) := by decide +kernel
theorem dX4_init_0 : decode cX4_init 0 = .ok (.aload_n 0, 1) := by decide +kernel
theorem dX4_init_1 : decode cX4_init 1 = .ok (.invokespecial 3, 3) := by decide +kernel
theorem dX4_init_4 : decode cX4_init 4 = .ok (.aload_n 0, 1) := by decide +kernel
theorem dX4_init_5 : decode cX4_init 5 = .ok (.bipush 6, 2) := by decide +kernel
theorem dX4_init_7 : decode cX4_init 7 = .ok (.newarray .int, 2) := by decide +kernel
theorem dX4_init_9 : decode cX4_init 9 = .ok (.putfield 9, 3) := by decide +kernel
theorem dX4_init_12 : decode cX4_init 12 = .ok (.aload_n 0, 1) := by decide +kernel
theorem dX4_init_13 : decode cX4_init 13 = .ok (.bipush 6, 2) := by decide +kernel
theorem dX4_init_15 : decode cX4_init 15 = .ok (.newarray .int, 2) := by decide +kernel
theorem dX4_init_17 : decode cX4_init 17 = .ok (.putfield 15, 3) := by decide +kernel
theorem dX4_init_20 : decode cX4_init 20 = .ok (.return_, 1) := by decide +kernel
theorem dX4_empty_0 : decode cX4_empty 0 = .ok (.aload_n 0, 1) := by decide +kernel
theorem dX4_empty_1 : decode cX4_empty 1 = .ok (.iconst 0, 1) := by decide +kernel
theorem dX4_empty_2 : decode cX4_empty 2 = .ok (.putfield 18, 3) := by decide +kernel
theorem dX4_empty_5 : decode cX4_empty 5 = .ok (.return_, 1) := by decide +kernel
theorem dX4_size_0 : decode cX4_size 0 = .ok (.aload_n 0, 1) := by decide +kernel
theorem dX4_size_1 : decode cX4_size 1 = .ok (.getfield 18, 3) := by decide +kernel
theorem dX4_size_4 : decode cX4_size 4 = .ok (.ireturn, 1) := by decide +kernel
theorem dX4_indexOf_0 : decode cX4_indexOf 0 = .ok (.iconst 0, 1) := by decide +kernel
theorem dX4_indexOf_1 : decode cX4_indexOf 1 = .ok (.istore_n 2, 1) := by decide +kernel
theorem dX4_indexOf_2 : decode cX4_indexOf 2 = .ok (.iload_n 2, 1) := by decide +kernel
theorem dX4_indexOf_3 : decode cX4_indexOf 3 = .ok (.aload_n 0, 1) := by decide +kernel
theorem dX4_indexOf_4 : decode cX4_indexOf 4 = .ok (.getfield 18, 3) := by decide +kernel
theorem dX4_indexOf_7 : decode cX4_indexOf 7 = .ok (.if_icmp .ge 21, 3) := by decide +kernel
theorem dX4_indexOf_10 : decode cX4_indexOf 10 = .ok (.aload_n 0, 1) := by decide +kernel
theorem dX4_indexOf_11 : decode cX4_indexOf 11 = .ok (.getfield 9, 3) := by decide +kernel
theorem dX4_indexOf_14 : decode cX4_indexOf 14 = .ok (.iload_n 2, 1) := by decide +kernel
theorem dX4_indexOf_15 : decode cX4_indexOf 15 = .ok (.iaload, 1) := by decide +kernel
theorem dX4_indexOf_16 : decode cX4_indexOf 16 = .ok (.iload_n 1, 1) := by decide +kernel
theorem dX4_indexOf_17 : decode cX4_indexOf 17 = .ok (.if_icmp .ne 5, 3) := by decide +kernel
theorem dX4_indexOf_20 : decode cX4_indexOf 20 = .ok (.iload_n 2, 1) := by decide +kernel
theorem dX4_indexOf_21 : decode cX4_indexOf 21 = .ok (.ireturn, 1) := by decide +kernel
theorem dX4_indexOf_22 : decode cX4_indexOf 22 = .ok (.iinc 2 1, 3) := by decide +kernel
theorem dX4_indexOf_25 : decode cX4_indexOf 25 = .ok (.goto (-23), 3) := by decide +kernel
theorem dX4_indexOf_28 : decode cX4_indexOf 28 = .ok (.bipush (-4), 2) := by decide +kernel
theorem dX4_indexOf_30 : decode cX4_indexOf 30 = .ok (.ireturn, 1) := by decide +kernel
theorem dX4_counterOf_0 : decode cX4_counterOf 0 = .ok (.aload_n 0, 1) := by decide +kernel
theorem dX4_counterOf_1 : decode cX4_counterOf 1 = .ok (.iload_n 1, 1) := by decide +kernel
theorem dX4_counterOf_2 : decode cX4_counterOf 2 = .ok (.invokevirtual 22, 3) := by decide +kernel
theorem dX4_counterOf_5 : decode cX4_counterOf 5 = .ok (.istore_n 2, 1) := by decide +kernel
theorem dX4_counterOf_6 : decode cX4_counterOf 6 = .ok (.iload_n 2, 1) := by decide +kernel
theorem dX4_counterOf_7 : decode cX4_counterOf 7 = .ok (.ifCond .ge 8, 3) := by decide +kernel
theorem dX4_counterOf_10 : decode cX4_counterOf 10 = .ok (.bipush (-4), 2) := by decide +kernel
theorem dX4_counterOf_12 : decode cX4_counterOf 12 = .ok (.goto 9, 3) := by decide +kernel
theorem dX4_counterOf_15 : decode cX4_counterOf 15 = .ok (.aload_n 0, 1) := by decide +kernel
theorem dX4_counterOf_16 : decode cX4_counterOf 16 = .ok (.getfield 15, 3) := by decide +kernel
theorem dX4_counterOf_19 : decode cX4_counterOf 19 = .ok (.iload_n 2, 1) := by decide +kernel
theorem dX4_counterOf_20 : decode cX4_counterOf 20 = .ok (.iaload, 1) := by decide +kernel
theorem dX4_counterOf_21 : decode cX4_counterOf 21 = .ok (.ireturn, 1) := by decide +kernel
theorem dX4_remember_0 : decode cX4_remember 0 = .ok (.aload_n 0, 1) := by decide +kernel
theorem dX4_remember_1 : decode cX4_remember 1 = .ok (.iload_n 1, 1) := by decide +kernel
theorem dX4_remember_2 : decode cX4_remember 2 = .ok (.invokevirtual 22, 3) := by decide +kernel
theorem dX4_remember_5 : decode cX4_remember 5 = .ok (.istore_n 3, 1) := by decide +kernel
theorem dX4_remember_6 : decode cX4_remember 6 = .ok (.iload_n 3, 1) := by decide +kernel
theorem dX4_remember_7 : decode cX4_remember 7 = .ok (.ifCond .lt 20, 3) := by decide +kernel
theorem dX4_remember_10 : decode cX4_remember 10 = .ok (.aload_n 0, 1) := by decide +kernel
theorem dX4_remember_11 : decode cX4_remember 11 = .ok (.getfield 15, 3) := by decide +kernel
theorem dX4_remember_14 : decode cX4_remember 14 = .ok (.iload_n 3, 1) := by decide +kernel
theorem dX4_remember_15 : decode cX4_remember 15 = .ok (.aload_n 0, 1) := by decide +kernel
theorem dX4_remember_16 : decode cX4_remember 16 = .ok (.getfield 15, 3) := by decide +kernel
theorem dX4_remember_19 : decode cX4_remember 19 = .ok (.iload_n 3, 1) := by decide +kernel
theorem dX4_remember_20 : decode cX4_remember 20 = .ok (.iaload, 1) := by decide +kernel
theorem dX4_remember_21 : decode cX4_remember 21 = .ok (.iload_n 2, 1) := by decide +kernel
theorem dX4_remember_22 : decode cX4_remember 22 = .ok (.invokestatic 26, 3) := by decide +kernel
theorem dX4_remember_25 : decode cX4_remember 25 = .ok (.iastore, 1) := by decide +kernel
theorem dX4_remember_26 : decode cX4_remember 26 = .ok (.return_, 1) := by decide +kernel
theorem dX4_remember_27 : decode cX4_remember 27 = .ok (.aload_n 0, 1) := by decide +kernel
theorem dX4_remember_28 : decode cX4_remember 28 = .ok (.getfield 18, 3) := by decide +kernel
theorem dX4_remember_31 : decode cX4_remember 31 = .ok (.bipush 6, 2) := by decide +kernel
theorem dX4_remember_33 : decode cX4_remember 33 = .ok (.if_icmp .lt 7, 3) := by decide +kernel
theorem dX4_remember_36 : decode cX4_remember 36 = .ok (.aload_n 0, 1) := by decide +kernel
theorem dX4_remember_37 : decode cX4_remember 37 = .ok (.invokevirtual 32, 3) := by decide +kernel
theorem dX4_remember_40 : decode cX4_remember 40 = .ok (.aload_n 0, 1) := by decide +kernel
theorem dX4_remember_41 : decode cX4_remember 41 = .ok (.getfield 9, 3) := by decide +kernel
theorem dX4_remember_44 : decode cX4_remember 44 = .ok (.aload_n 0, 1) := by decide +kernel
theorem dX4_remember_45 : decode cX4_remember 45 = .ok (.getfield 18, 3) := by decide +kernel
theorem dX4_remember_48 : decode cX4_remember 48 = .ok (.iload_n 1, 1) := by decide +kernel
theorem dX4_remember_49 : decode cX4_remember 49 = .ok (.iastore, 1) := by decide +kernel
theorem dX4_remember_50 : decode cX4_remember 50 = .ok (.aload_n 0, 1) := by decide +kernel
theorem dX4_remember_51 : decode cX4_remember 51 = .ok (.getfield 15, 3) := by decide +kernel
theorem dX4_remember_54 : decode cX4_remember 54 = .ok (.aload_n 0, 1) := by decide +kernel
theorem dX4_remember_55 : decode cX4_remember 55 = .ok (.getfield 18, 3) := by decide +kernel
theorem dX4_remember_58 : decode cX4_remember 58 = .ok (.iload_n 2, 1) := by decide +kernel
theorem dX4_remember_59 : decode cX4_remember 59 = .ok (.iastore, 1) := by decide +kernel
theorem dX4_remember_60 : decode cX4_remember 60 = .ok (.aload_n 0, 1) := by decide +kernel
theorem dX4_remember_61 : decode cX4_remember 61 = .ok (.dup, 1) := by decide +kernel
theorem dX4_remember_62 : decode cX4_remember 62 = .ok (.getfield 18, 3) := by decide +kernel
theorem dX4_remember_65 : decode cX4_remember 65 = .ok (.iconst 1, 1) := by decide +kernel
theorem dX4_remember_66 : decode cX4_remember 66 = .ok (.iadd, 1) := by decide +kernel
theorem dX4_remember_67 : decode cX4_remember 67 = .ok (.putfield 18, 3) := by decide +kernel
theorem dX4_remember_70 : decode cX4_remember 70 = .ok (.return_, 1) := by decide +kernel
theorem dX4_forgetOldest_0 : decode cX4_forgetOldest 0 = .ok (.iconst 1, 1) := by decide +kernel
theorem dX4_forgetOldest_1 : decode cX4_forgetOldest 1 = .ok (.istore_n 1, 1) := by decide +kernel
theorem dX4_forgetOldest_2 : decode cX4_forgetOldest 2 = .ok (.iload_n 1, 1) := by decide +kernel
theorem dX4_forgetOldest_3 : decode cX4_forgetOldest 3 = .ok (.aload_n 0, 1) := by decide +kernel
theorem dX4_forgetOldest_4 : decode cX4_forgetOldest 4 = .ok (.getfield 18, 3) := by decide +kernel
theorem dX4_forgetOldest_7 : decode cX4_forgetOldest 7 = .ok (.if_icmp .ge 37, 3) := by decide +kernel
theorem dX4_forgetOldest_10 : decode cX4_forgetOldest 10 = .ok (.aload_n 0, 1) := by decide +kernel
theorem dX4_forgetOldest_11 : decode cX4_forgetOldest 11 = .ok (.getfield 9, 3) := by decide +kernel
theorem dX4_forgetOldest_14 : decode cX4_forgetOldest 14 = .ok (.iload_n 1, 1) := by decide +kernel
theorem dX4_forgetOldest_15 : decode cX4_forgetOldest 15 = .ok (.iconst 1, 1) := by decide +kernel
theorem dX4_forgetOldest_16 : decode cX4_forgetOldest 16 = .ok (.isub, 1) := by decide +kernel
theorem dX4_forgetOldest_17 : decode cX4_forgetOldest 17 = .ok (.aload_n 0, 1) := by decide +kernel
theorem dX4_forgetOldest_18 : decode cX4_forgetOldest 18 = .ok (.getfield 9, 3) := by decide +kernel
theorem dX4_forgetOldest_21 : decode cX4_forgetOldest 21 = .ok (.iload_n 1, 1) := by decide +kernel
theorem dX4_forgetOldest_22 : decode cX4_forgetOldest 22 = .ok (.iaload, 1) := by decide +kernel
theorem dX4_forgetOldest_23 : decode cX4_forgetOldest 23 = .ok (.iastore, 1) := by decide +kernel
theorem dX4_forgetOldest_24 : decode cX4_forgetOldest 24 = .ok (.aload_n 0, 1) := by decide +kernel
theorem dX4_forgetOldest_25 : decode cX4_forgetOldest 25 = .ok (.getfield 15, 3) := by decide +kernel
theorem dX4_forgetOldest_28 : decode cX4_forgetOldest 28 = .ok (.iload_n 1, 1) := by decide +kernel
theorem dX4_forgetOldest_29 : decode cX4_forgetOldest 29 = .ok (.iconst 1, 1) := by decide +kernel
theorem dX4_forgetOldest_30 : decode cX4_forgetOldest 30 = .ok (.isub, 1) := by decide +kernel
theorem dX4_forgetOldest_31 : decode cX4_forgetOldest 31 = .ok (.aload_n 0, 1) := by decide +kernel
theorem dX4_forgetOldest_32 : decode cX4_forgetOldest 32 = .ok (.getfield 15, 3) := by decide +kernel
theorem dX4_forgetOldest_35 : decode cX4_forgetOldest 35 = .ok (.iload_n 1, 1) := by decide +kernel
theorem dX4_forgetOldest_36 : decode cX4_forgetOldest 36 = .ok (.iaload, 1) := by decide +kernel
theorem dX4_forgetOldest_37 : decode cX4_forgetOldest 37 = .ok (.iastore, 1) := by decide +kernel
theorem dX4_forgetOldest_38 : decode cX4_forgetOldest 38 = .ok (.iinc 1 1, 3) := by decide +kernel
theorem dX4_forgetOldest_41 : decode cX4_forgetOldest 41 = .ok (.goto (-39), 3) := by decide +kernel
theorem dX4_forgetOldest_44 : decode cX4_forgetOldest 44 = .ok (.aload_n 0, 1) := by decide +kernel
theorem dX4_forgetOldest_45 : decode cX4_forgetOldest 45 = .ok (.dup, 1) := by decide +kernel
theorem dX4_forgetOldest_46 : decode cX4_forgetOldest 46 = .ok (.getfield 18, 3) := by decide +kernel
theorem dX4_forgetOldest_49 : decode cX4_forgetOldest 49 = .ok (.iconst 1, 1) := by decide +kernel
theorem dX4_forgetOldest_50 : decode cX4_forgetOldest 50 = .ok (.isub, 1) := by decide +kernel
theorem dX4_forgetOldest_51 : decode cX4_forgetOldest 51 = .ok (.putfield 18, 3) := by decide +kernel
theorem dX4_forgetOldest_54 : decode cX4_forgetOldest 54 = .ok (.return_, 1) := by decide +kernel
theorem dX5_init_0 : decode cX5_init 0 = .ok (.aload_n 0, 1) := by decide +kernel
theorem dX5_init_1 : decode cX5_init 1 = .ok (.invokespecial 3, 3) := by decide +kernel
theorem dX5_init_4 : decode cX5_init 4 = .ok (.aload_n 0, 1) := by decide +kernel
theorem dX5_init_5 : decode cX5_init 5 = .ok (.new 9, 3) := by decide +kernel
theorem dX5_init_8 : decode cX5_init 8 = .ok (.dup, 1) := by decide +kernel
theorem dX5_init_9 : decode cX5_init 9 = .ok (.invokespecial 11, 3) := by decide +kernel
theorem dX5_init_12 : decode cX5_init 12 = .ok (.putfield 12, 3) := by decide +kernel
theorem dX5_init_15 : decode cX5_init 15 = .ok (.aload_n 0, 1) := by decide +kernel
theorem dX5_init_16 : decode cX5_init 16 = .ok (.new 9, 3) := by decide +kernel
theorem dX5_init_19 : decode cX5_init 19 = .ok (.dup, 1) := by decide +kernel
theorem dX5_init_20 : decode cX5_init 20 = .ok (.invokespecial 11, 3) := by decide +kernel
theorem dX5_init_23 : decode cX5_init 23 = .ok (.putfield 18, 3) := by decide +kernel
theorem dX5_init_26 : decode cX5_init 26 = .ok (.return_, 1) := by decide +kernel
theorem dX5_begin_0 : decode cX5_begin 0 = .ok (.aload_n 0, 1) := by decide +kernel
theorem dX5_begin_1 : decode cX5_begin 1 = .ok (.getfield 12, 3) := by decide +kernel
theorem dX5_begin_4 : decode cX5_begin 4 = .ok (.invokevirtual 21, 3) := by decide +kernel
theorem dX5_begin_7 : decode cX5_begin 7 = .ok (.aload_n 0, 1) := by decide +kernel
theorem dX5_begin_8 : decode cX5_begin 8 = .ok (.getfield 18, 3) := by decide +kernel
theorem dX5_begin_11 : decode cX5_begin 11 = .ok (.invokevirtual 21, 3) := by decide +kernel
theorem dX5_begin_14 : decode cX5_begin 14 = .ok (.aload_n 0, 1) := by decide +kernel
theorem dX5_begin_15 : decode cX5_begin 15 = .ok (.iconst 0, 1) := by decide +kernel
theorem dX5_begin_16 : decode cX5_begin 16 = .ok (.putfield 24, 3) := by decide +kernel
theorem dX5_begin_19 : decode cX5_begin 19 = .ok (.aload_n 0, 1) := by decide +kernel
theorem dX5_begin_20 : decode cX5_begin 20 = .ok (.iconst 0, 1) := by decide +kernel
theorem dX5_begin_21 : decode cX5_begin 21 = .ok (.putfield 28, 3) := by decide +kernel
theorem dX5_begin_24 : decode cX5_begin 24 = .ok (.aload_n 0, 1) := by decide +kernel
theorem dX5_begin_25 : decode cX5_begin 25 = .ok (.iconst 1, 1) := by decide +kernel
theorem dX5_begin_26 : decode cX5_begin 26 = .ok (.putfield 31, 3) := by decide +kernel
theorem dX5_begin_29 : decode cX5_begin 29 = .ok (.aload_n 0, 1) := by decide +kernel
theorem dX5_begin_30 : decode cX5_begin 30 = .ok (.iconst 1, 1) := by decide +kernel
theorem dX5_begin_31 : decode cX5_begin 31 = .ok (.putfield 34, 3) := by decide +kernel
theorem dX5_begin_34 : decode cX5_begin 34 = .ok (.aload_n 0, 1) := by decide +kernel
theorem dX5_begin_35 : decode cX5_begin 35 = .ok (.iconst 0, 1) := by decide +kernel
theorem dX5_begin_36 : decode cX5_begin 36 = .ok (.putfield 37, 3) := by decide +kernel
theorem dX5_begin_39 : decode cX5_begin 39 = .ok (.aload_n 0, 1) := by decide +kernel
theorem dX5_begin_40 : decode cX5_begin 40 = .ok (.iconst 0, 1) := by decide +kernel
theorem dX5_begin_41 : decode cX5_begin 41 = .ok (.putfield 40, 3) := by decide +kernel
theorem dX5_begin_44 : decode cX5_begin 44 = .ok (.return_, 1) := by decide +kernel
theorem dX5_give_0 : decode cX5_give 0 = .ok (.aload_n 0, 1) := by decide +kernel
theorem dX5_give_1 : decode cX5_give 1 = .ok (.getfield 31, 3) := by decide +kernel
theorem dX5_give_4 : decode cX5_give 4 = .ok (.aload_n 0, 1) := by decide +kernel
theorem dX5_give_5 : decode cX5_give 5 = .ok (.getfield 24, 3) := by decide +kernel
theorem dX5_give_8 : decode cX5_give 8 = .ok (.if_icmp .ne 8, 3) := by decide +kernel
theorem dX5_give_11 : decode cX5_give 11 = .ok (.aload_n 0, 1) := by decide +kernel
theorem dX5_give_12 : decode cX5_give 12 = .ok (.getfield 37, 3) := by decide +kernel
theorem dX5_give_15 : decode cX5_give 15 = .ok (.ireturn, 1) := by decide +kernel
theorem dX5_give_16 : decode cX5_give 16 = .ok (.aload_n 0, 1) := by decide +kernel
theorem dX5_give_17 : decode cX5_give 17 = .ok (.getfield 12, 3) := by decide +kernel
theorem dX5_give_20 : decode cX5_give 20 = .ok (.invokevirtual 43, 3) := by decide +kernel
theorem dX5_give_23 : decode cX5_give 23 = .ok (.ifCond .ne 5, 3) := by decide +kernel
theorem dX5_give_26 : decode cX5_give 26 = .ok (.iconst 0, 1) := by decide +kernel
theorem dX5_give_27 : decode cX5_give 27 = .ok (.ireturn, 1) := by decide +kernel
theorem dX5_give_28 : decode cX5_give 28 = .ok (.aload_n 0, 1) := by decide +kernel
theorem dX5_give_29 : decode cX5_give 29 = .ok (.aload_n 0, 1) := by decide +kernel
theorem dX5_give_30 : decode cX5_give 30 = .ok (.getfield 12, 3) := by decide +kernel
theorem dX5_give_33 : decode cX5_give 33 = .ok (.invokevirtual 47, 3) := by decide +kernel
theorem dX5_give_36 : decode cX5_give 36 = .ok (.putfield 37, 3) := by decide +kernel
theorem dX5_give_39 : decode cX5_give 39 = .ok (.aload_n 0, 1) := by decide +kernel
theorem dX5_give_40 : decode cX5_give 40 = .ok (.aload_n 0, 1) := by decide +kernel
theorem dX5_give_41 : decode cX5_give 41 = .ok (.getfield 31, 3) := by decide +kernel
theorem dX5_give_44 : decode cX5_give 44 = .ok (.putfield 24, 3) := by decide +kernel
theorem dX5_give_47 : decode cX5_give 47 = .ok (.aload_n 0, 1) := by decide +kernel
theorem dX5_give_48 : decode cX5_give 48 = .ok (.getfield 37, 3) := by decide +kernel
theorem dX5_give_51 : decode cX5_give 51 = .ok (.ireturn, 1) := by decide +kernel
theorem dX5_confirmGiven_0 : decode cX5_confirmGiven 0 = .ok (.aload_n 0, 1) := by decide +kernel
theorem dX5_confirmGiven_1 : decode cX5_confirmGiven 1 = .ok (.iconst 1, 1) := by decide +kernel
theorem dX5_confirmGiven_2 : decode cX5_confirmGiven 2 = .ok (.aload_n 0, 1) := by decide +kernel
theorem dX5_confirmGiven_3 : decode cX5_confirmGiven 3 = .ok (.getfield 31, 3) := by decide +kernel
theorem dX5_confirmGiven_6 : decode cX5_confirmGiven 6 = .ok (.isub, 1) := by decide +kernel
theorem dX5_confirmGiven_7 : decode cX5_confirmGiven 7 = .ok (.putfield 31, 3) := by decide +kernel
theorem dX5_confirmGiven_10 : decode cX5_confirmGiven 10 = .ok (.return_, 1) := by decide +kernel
theorem dX5_accept_0 : decode cX5_accept 0 = .ok (.aload_n 0, 1) := by decide +kernel
theorem dX5_accept_1 : decode cX5_accept 1 = .ok (.getfield 34, 3) := by decide +kernel
theorem dX5_accept_4 : decode cX5_accept 4 = .ok (.aload_n 0, 1) := by decide +kernel
theorem dX5_accept_5 : decode cX5_accept 5 = .ok (.getfield 28, 3) := by decide +kernel
theorem dX5_accept_8 : decode cX5_accept 8 = .ok (.if_icmp .ne 5, 3) := by decide +kernel
theorem dX5_accept_11 : decode cX5_accept 11 = .ok (.iconst 1, 1) := by decide +kernel
theorem dX5_accept_12 : decode cX5_accept 12 = .ok (.ireturn, 1) := by decide +kernel
theorem dX5_accept_13 : decode cX5_accept 13 = .ok (.aload_n 0, 1) := by decide +kernel
theorem dX5_accept_14 : decode cX5_accept 14 = .ok (.getfield 18, 3) := by decide +kernel
theorem dX5_accept_17 : decode cX5_accept 17 = .ok (.iload_n 1, 1) := by decide +kernel
theorem dX5_accept_18 : decode cX5_accept 18 = .ok (.invokevirtual 50, 3) := by decide +kernel
theorem dX5_accept_21 : decode cX5_accept 21 = .ok (.ifCond .ne 5, 3) := by decide +kernel
theorem dX5_accept_24 : decode cX5_accept 24 = .ok (.iconst 0, 1) := by decide +kernel
theorem dX5_accept_25 : decode cX5_accept 25 = .ok (.ireturn, 1) := by decide +kernel
theorem dX5_accept_26 : decode cX5_accept 26 = .ok (.aload_n 0, 1) := by decide +kernel
theorem dX5_accept_27 : decode cX5_accept 27 = .ok (.aload_n 0, 1) := by decide +kernel
theorem dX5_accept_28 : decode cX5_accept 28 = .ok (.getfield 34, 3) := by decide +kernel
theorem dX5_accept_31 : decode cX5_accept 31 = .ok (.putfield 28, 3) := by decide +kernel
theorem dX5_accept_34 : decode cX5_accept 34 = .ok (.iconst 1, 1) := by decide +kernel
theorem dX5_accept_35 : decode cX5_accept 35 = .ok (.ireturn, 1) := by decide +kernel
theorem dX5_confirmAccepted_0 : decode cX5_confirmAccepted 0 = .ok (.aload_n 0, 1) := by decide +kernel
theorem dX5_confirmAccepted_1 : decode cX5_confirmAccepted 1 = .ok (.iconst 1, 1) := by decide +kernel
theorem dX5_confirmAccepted_2 : decode cX5_confirmAccepted 2 = .ok (.aload_n 0, 1) := by decide +kernel
theorem dX5_confirmAccepted_3 : decode cX5_confirmAccepted 3 = .ok (.getfield 34, 3) := by decide +kernel
theorem dX5_confirmAccepted_6 : decode cX5_confirmAccepted 6 = .ok (.isub, 1) := by decide +kernel
theorem dX5_confirmAccepted_7 : decode cX5_confirmAccepted 7 = .ok (.putfield 34, 3) := by decide +kernel
theorem dX5_confirmAccepted_10 : decode cX5_confirmAccepted 10 = .ok (.aload_n 0, 1) := by decide +kernel
theorem dX5_confirmAccepted_11 : decode cX5_confirmAccepted 11 = .ok (.iconst 0, 1) := by decide +kernel
theorem dX5_confirmAccepted_12 : decode cX5_confirmAccepted 12 = .ok (.putfield 40, 3) := by decide +kernel
theorem dX5_confirmAccepted_15 : decode cX5_confirmAccepted 15 = .ok (.return_, 1) := by decide +kernel
theorem dX5_property_0 : decode cX5_property 0 = .ok (.iload_n 1, 1) := by decide +kernel
theorem dX5_property_1 : decode cX5_property 1 = .ok (.tableswitch 96 0 6 #[43, 51, 59, 64, 69, 74, 79], 43) := by decide +kernel
theorem dX5_property_44 : decode cX5_property 44 = .ok (.aload_n 0, 1) := by decide +kernel
theorem dX5_property_45 : decode cX5_property 45 = .ok (.getfield 12, 3) := by decide +kernel
theorem dX5_property_48 : decode cX5_property 48 = .ok (.invokevirtual 43, 3) := by decide +kernel
theorem dX5_property_51 : decode cX5_property 51 = .ok (.ireturn, 1) := by decide +kernel
theorem dX5_property_52 : decode cX5_property 52 = .ok (.aload_n 0, 1) := by decide +kernel
theorem dX5_property_53 : decode cX5_property 53 = .ok (.getfield 18, 3) := by decide +kernel
theorem dX5_property_56 : decode cX5_property 56 = .ok (.invokevirtual 43, 3) := by decide +kernel
theorem dX5_property_59 : decode cX5_property 59 = .ok (.ireturn, 1) := by decide +kernel
theorem dX5_property_60 : decode cX5_property 60 = .ok (.aload_n 0, 1) := by decide +kernel
theorem dX5_property_61 : decode cX5_property 61 = .ok (.getfield 24, 3) := by decide +kernel
theorem dX5_property_64 : decode cX5_property 64 = .ok (.ireturn, 1) := by decide +kernel
theorem dX5_property_65 : decode cX5_property 65 = .ok (.aload_n 0, 1) := by decide +kernel
theorem dX5_property_66 : decode cX5_property 66 = .ok (.getfield 28, 3) := by decide +kernel
theorem dX5_property_69 : decode cX5_property 69 = .ok (.ireturn, 1) := by decide +kernel
theorem dX5_property_70 : decode cX5_property 70 = .ok (.aload_n 0, 1) := by decide +kernel
theorem dX5_property_71 : decode cX5_property 71 = .ok (.getfield 31, 3) := by decide +kernel
theorem dX5_property_74 : decode cX5_property 74 = .ok (.ireturn, 1) := by decide +kernel
theorem dX5_property_75 : decode cX5_property 75 = .ok (.aload_n 0, 1) := by decide +kernel
theorem dX5_property_76 : decode cX5_property 76 = .ok (.getfield 34, 3) := by decide +kernel
theorem dX5_property_79 : decode cX5_property 79 = .ok (.ireturn, 1) := by decide +kernel
theorem dX5_property_80 : decode cX5_property 80 = .ok (.aload_n 0, 1) := by decide +kernel
theorem dX5_property_81 : decode cX5_property 81 = .ok (.getfield 37, 3) := by decide +kernel
theorem dX5_property_84 : decode cX5_property 84 = .ok (.ifCond .ne 8, 3) := by decide +kernel
theorem dX5_property_87 : decode cX5_property 87 = .ok (.bipush (-4), 2) := by decide +kernel
theorem dX5_property_89 : decode cX5_property 89 = .ok (.goto 7, 3) := by decide +kernel
theorem dX5_property_92 : decode cX5_property 92 = .ok (.aload_n 0, 1) := by decide +kernel
theorem dX5_property_93 : decode cX5_property 93 = .ok (.getfield 37, 3) := by decide +kernel
theorem dX5_property_96 : decode cX5_property 96 = .ok (.ireturn, 1) := by decide +kernel
theorem dX5_property_97 : decode cX5_property 97 = .ok (.aload_n 0, 1) := by decide +kernel
theorem dX5_property_98 : decode cX5_property 98 = .ok (.getfield 40, 3) := by decide +kernel
theorem dX5_property_101 : decode cX5_property 101 = .ok (.ifCond .ne 8, 3) := by decide +kernel
theorem dX5_property_104 : decode cX5_property 104 = .ok (.bipush (-4), 2) := by decide +kernel
theorem dX5_property_106 : decode cX5_property 106 = .ok (.goto 7, 3) := by decide +kernel
theorem dX5_property_109 : decode cX5_property 109 = .ok (.aload_n 0, 1) := by decide +kernel
theorem dX5_property_110 : decode cX5_property 110 = .ok (.getfield 40, 3) := by decide +kernel
theorem dX5_property_113 : decode cX5_property 113 = .ok (.ireturn, 1) := by decide +kernel
theorem dX6_init_0 : decode cX6_init 0 = .ok (.aload_n 0, 1) := by decide +kernel
theorem dX6_init_1 : decode cX6_init 1 = .ok (.invokespecial 3, 3) := by decide +kernel
theorem dX6_init_4 : decode cX6_init 4 = .ok (.aload_n 0, 1) := by decide +kernel
theorem dX6_init_5 : decode cX6_init 5 = .ok (.iconst 4, 1) := by decide +kernel
theorem dX6_init_6 : decode cX6_init 6 = .ok (.anewarray 9, 3) := by decide +kernel
theorem dX6_init_9 : decode cX6_init 9 = .ok (.putfield 11, 3) := by decide +kernel
theorem dX6_init_12 : decode cX6_init 12 = .ok (.aload_n 0, 1) := by decide +kernel
theorem dX6_init_13 : decode cX6_init 13 = .ok (.new 17, 3) := by decide +kernel
theorem dX6_init_16 : decode cX6_init 16 = .ok (.dup, 1) := by decide +kernel
theorem dX6_init_17 : decode cX6_init 17 = .ok (.invokespecial 19, 3) := by decide +kernel
theorem dX6_init_20 : decode cX6_init 20 = .ok (.putfield 20, 3) := by decide +kernel
theorem dX6_init_23 : decode cX6_init 23 = .ok (.aload_n 0, 1) := by decide +kernel
theorem dX6_init_24 : decode cX6_init 24 = .ok (.aload_n 1, 1) := by decide +kernel
theorem dX6_init_25 : decode cX6_init 25 = .ok (.putfield 24, 3) := by decide +kernel
theorem dX6_init_28 : decode cX6_init 28 = .ok (.iconst 0, 1) := by decide +kernel
theorem dX6_init_29 : decode cX6_init 29 = .ok (.istore_n 2, 1) := by decide +kernel
theorem dX6_init_30 : decode cX6_init 30 = .ok (.iload_n 2, 1) := by decide +kernel
theorem dX6_init_31 : decode cX6_init 31 = .ok (.iconst 4, 1) := by decide +kernel
theorem dX6_init_32 : decode cX6_init 32 = .ok (.if_icmp .ge 22, 3) := by decide +kernel
theorem dX6_init_35 : decode cX6_init 35 = .ok (.aload_n 0, 1) := by decide +kernel
theorem dX6_init_36 : decode cX6_init 36 = .ok (.getfield 11, 3) := by decide +kernel
theorem dX6_init_39 : decode cX6_init 39 = .ok (.iload_n 2, 1) := by decide +kernel
theorem dX6_init_40 : decode cX6_init 40 = .ok (.new 9, 3) := by decide +kernel
theorem dX6_init_43 : decode cX6_init 43 = .ok (.dup, 1) := by decide +kernel
theorem dX6_init_44 : decode cX6_init 44 = .ok (.invokespecial 28, 3) := by decide +kernel
theorem dX6_init_47 : decode cX6_init 47 = .ok (.aastore, 1) := by decide +kernel
theorem dX6_init_48 : decode cX6_init 48 = .ok (.iinc 2 1, 3) := by decide +kernel
theorem dX6_init_51 : decode cX6_init 51 = .ok (.goto (-21), 3) := by decide +kernel
theorem dX6_init_54 : decode cX6_init 54 = .ok (.return_, 1) := by decide +kernel
theorem dX6_begin_0 : decode cX6_begin 0 = .ok (.iconst 0, 1) := by decide +kernel
theorem dX6_begin_1 : decode cX6_begin 1 = .ok (.istore_n 1, 1) := by decide +kernel
theorem dX6_begin_2 : decode cX6_begin 2 = .ok (.iload_n 1, 1) := by decide +kernel
theorem dX6_begin_3 : decode cX6_begin 3 = .ok (.iconst 4, 1) := by decide +kernel
theorem dX6_begin_4 : decode cX6_begin 4 = .ok (.if_icmp .ge 18, 3) := by decide +kernel
theorem dX6_begin_7 : decode cX6_begin 7 = .ok (.aload_n 0, 1) := by decide +kernel
theorem dX6_begin_8 : decode cX6_begin 8 = .ok (.getfield 11, 3) := by decide +kernel
theorem dX6_begin_11 : decode cX6_begin 11 = .ok (.iload_n 1, 1) := by decide +kernel
theorem dX6_begin_12 : decode cX6_begin 12 = .ok (.aaload, 1) := by decide +kernel
theorem dX6_begin_13 : decode cX6_begin 13 = .ok (.invokevirtual 29, 3) := by decide +kernel
theorem dX6_begin_16 : decode cX6_begin 16 = .ok (.iinc 1 1, 3) := by decide +kernel
theorem dX6_begin_19 : decode cX6_begin 19 = .ok (.goto (-17), 3) := by decide +kernel
theorem dX6_begin_22 : decode cX6_begin 22 = .ok (.aload_n 0, 1) := by decide +kernel
theorem dX6_begin_23 : decode cX6_begin 23 = .ok (.getfield 20, 3) := by decide +kernel
theorem dX6_begin_26 : decode cX6_begin 26 = .ok (.invokevirtual 32, 3) := by decide +kernel
theorem dX6_begin_29 : decode cX6_begin 29 = .ok (.aload_n 0, 1) := by decide +kernel
theorem dX6_begin_30 : decode cX6_begin 30 = .ok (.iconst 0, 1) := by decide +kernel
theorem dX6_begin_31 : decode cX6_begin 31 = .ok (.putfield 35, 3) := by decide +kernel
theorem dX6_begin_34 : decode cX6_begin 34 = .ok (.aload_n 0, 1) := by decide +kernel
theorem dX6_begin_35 : decode cX6_begin 35 = .ok (.iconst 0, 1) := by decide +kernel
theorem dX6_begin_36 : decode cX6_begin 36 = .ok (.putfield 39, 3) := by decide +kernel
theorem dX6_begin_39 : decode cX6_begin 39 = .ok (.return_, 1) := by decide +kernel
theorem dX6_find_0 : decode cX6_find 0 = .ok (.iload_n 1, 1) := by decide +kernel
theorem dX6_find_1 : decode cX6_find 1 = .ok (.ifCond .lt 17, 3) := by decide +kernel
theorem dX6_find_4 : decode cX6_find 4 = .ok (.iload_n 1, 1) := by decide +kernel
theorem dX6_find_5 : decode cX6_find 5 = .ok (.iconst 4, 1) := by decide +kernel
theorem dX6_find_6 : decode cX6_find 6 = .ok (.if_icmp .ge 12, 3) := by decide +kernel
theorem dX6_find_9 : decode cX6_find 9 = .ok (.aload_n 0, 1) := by decide +kernel
theorem dX6_find_10 : decode cX6_find 10 = .ok (.getfield 11, 3) := by decide +kernel
theorem dX6_find_13 : decode cX6_find 13 = .ok (.iload_n 1, 1) := by decide +kernel
theorem dX6_find_14 : decode cX6_find 14 = .ok (.aaload, 1) := by decide +kernel
theorem dX6_find_15 : decode cX6_find 15 = .ok (.goto 4, 3) := by decide +kernel
theorem dX6_find_18 : decode cX6_find 18 = .ok (.aconst_null, 1) := by decide +kernel
theorem dX6_find_19 : decode cX6_find 19 = .ok (.areturn, 1) := by decide +kernel
theorem dX6_hasCommands_0 : decode cX6_hasCommands 0 = .ok (.iconst 0, 1) := by decide +kernel
theorem dX6_hasCommands_1 : decode cX6_hasCommands 1 = .ok (.istore_n 1, 1) := by decide +kernel
theorem dX6_hasCommands_2 : decode cX6_hasCommands 2 = .ok (.iload_n 1, 1) := by decide +kernel
theorem dX6_hasCommands_3 : decode cX6_hasCommands 3 = .ok (.iconst 4, 1) := by decide +kernel
theorem dX6_hasCommands_4 : decode cX6_hasCommands 4 = .ok (.if_icmp .ge 23, 3) := by decide +kernel
theorem dX6_hasCommands_7 : decode cX6_hasCommands 7 = .ok (.aload_n 0, 1) := by decide +kernel
theorem dX6_hasCommands_8 : decode cX6_hasCommands 8 = .ok (.getfield 11, 3) := by decide +kernel
theorem dX6_hasCommands_11 : decode cX6_hasCommands 11 = .ok (.iload_n 1, 1) := by decide +kernel
theorem dX6_hasCommands_12 : decode cX6_hasCommands 12 = .ok (.aaload, 1) := by decide +kernel
theorem dX6_hasCommands_13 : decode cX6_hasCommands 13 = .ok (.getfield 42, 3) := by decide +kernel
theorem dX6_hasCommands_16 : decode cX6_hasCommands 16 = .ok (.ifCond .eq 5, 3) := by decide +kernel
theorem dX6_hasCommands_19 : decode cX6_hasCommands 19 = .ok (.iconst 1, 1) := by decide +kernel
theorem dX6_hasCommands_20 : decode cX6_hasCommands 20 = .ok (.ireturn, 1) := by decide +kernel
theorem dX6_hasCommands_21 : decode cX6_hasCommands 21 = .ok (.iinc 1 1, 3) := by decide +kernel
theorem dX6_hasCommands_24 : decode cX6_hasCommands 24 = .ok (.goto (-22), 3) := by decide +kernel
theorem dX6_hasCommands_27 : decode cX6_hasCommands 27 = .ok (.iconst 0, 1) := by decide +kernel
theorem dX6_hasCommands_28 : decode cX6_hasCommands 28 = .ok (.ireturn, 1) := by decide +kernel
theorem dX6_shortOnes_0 : decode cX6_shortOnes 0 = .ok (.aload_n 0, 1) := by decide +kernel
theorem dX6_shortOnes_1 : decode cX6_shortOnes 1 = .ok (.getfield 35, 3) := by decide +kernel
theorem dX6_shortOnes_4 : decode cX6_shortOnes 4 = .ok (.ireturn, 1) := by decide +kernel
theorem dX6_rememberedOnes_0 : decode cX6_rememberedOnes 0 = .ok (.aload_n 0, 1) := by decide +kernel
theorem dX6_rememberedOnes_1 : decode cX6_rememberedOnes 1 = .ok (.getfield 20, 3) := by decide +kernel
theorem dX6_rememberedOnes_4 : decode cX6_rememberedOnes 4 = .ok (.invokevirtual 45, 3) := by decide +kernel
theorem dX6_rememberedOnes_7 : decode cX6_rememberedOnes 7 = .ok (.ireturn, 1) := by decide +kernel
theorem dX6_framesToLose_0 : decode cX6_framesToLose 0 = .ok (.aload_n 0, 1) := by decide +kernel
theorem dX6_framesToLose_1 : decode cX6_framesToLose 1 = .ok (.getfield 39, 3) := by decide +kernel
theorem dX6_framesToLose_4 : decode cX6_framesToLose 4 = .ok (.ireturn, 1) := by decide +kernel
theorem dX6_replaceLosses_0 : decode cX6_replaceLosses 0 = .ok (.aload_n 0, 1) := by decide +kernel
theorem dX6_replaceLosses_1 : decode cX6_replaceLosses 1 = .ok (.getfield 39, 3) := by decide +kernel
theorem dX6_replaceLosses_4 : decode cX6_replaceLosses 4 = .ok (.istore_n 2, 1) := by decide +kernel
theorem dX6_replaceLosses_5 : decode cX6_replaceLosses 5 = .ok (.aload_n 0, 1) := by decide +kernel
theorem dX6_replaceLosses_6 : decode cX6_replaceLosses 6 = .ok (.iload_n 1, 1) := by decide +kernel
theorem dX6_replaceLosses_7 : decode cX6_replaceLosses 7 = .ok (.putfield 39, 3) := by decide +kernel
theorem dX6_replaceLosses_10 : decode cX6_replaceLosses 10 = .ok (.iload_n 2, 1) := by decide +kernel
theorem dX6_replaceLosses_11 : decode cX6_replaceLosses 11 = .ok (.ireturn, 1) := by decide +kernel
theorem dX6_expectedOf_0 : decode cX6_expectedOf 0 = .ok (.aload_n 0, 1) := by decide +kernel
theorem dX6_expectedOf_1 : decode cX6_expectedOf 1 = .ok (.getfield 20, 3) := by decide +kernel
theorem dX6_expectedOf_4 : decode cX6_expectedOf 4 = .ok (.aload_n 1, 1) := by decide +kernel
theorem dX6_expectedOf_5 : decode cX6_expectedOf 5 = .ok (.invokevirtual 49, 3) := by decide +kernel
theorem dX6_expectedOf_8 : decode cX6_expectedOf 8 = .ok (.invokevirtual 52, 3) := by decide +kernel
theorem dX6_expectedOf_11 : decode cX6_expectedOf 11 = .ok (.ireturn, 1) := by decide +kernel
theorem dX6_frameComesHome_0 : decode cX6_frameComesHome 0 = .ok (.aload_n 0, 1) := by decide +kernel
theorem dX6_frameComesHome_1 : decode cX6_frameComesHome 1 = .ok (.getfield 24, 3) := by decide +kernel
theorem dX6_frameComesHome_4 : decode cX6_frameComesHome 4 = .ok (.aload_n 0, 1) := by decide +kernel
theorem dX6_frameComesHome_5 : decode cX6_frameComesHome 5 = .ok (.getfield 24, 3) := by decide +kernel
theorem dX6_frameComesHome_8 : decode cX6_frameComesHome 8 = .ok (.invokevirtual 56, 3) := by decide +kernel
theorem dX6_frameComesHome_11 : decode cX6_frameComesHome 11 = .ok (.invokevirtual 61, 3) := by decide +kernel
theorem dX6_frameComesHome_14 : decode cX6_frameComesHome 14 = .ok (.aload_n 0, 1) := by decide +kernel
theorem dX6_frameComesHome_15 : decode cX6_frameComesHome 15 = .ok (.getfield 39, 3) := by decide +kernel
theorem dX6_frameComesHome_18 : decode cX6_frameComesHome 18 = .ok (.ifCond .le 15, 3) := by decide +kernel
theorem dX6_frameComesHome_21 : decode cX6_frameComesHome 21 = .ok (.aload_n 0, 1) := by decide +kernel
theorem dX6_frameComesHome_22 : decode cX6_frameComesHome 22 = .ok (.dup, 1) := by decide +kernel
theorem dX6_frameComesHome_23 : decode cX6_frameComesHome 23 = .ok (.getfield 39, 3) := by decide +kernel
theorem dX6_frameComesHome_26 : decode cX6_frameComesHome 26 = .ok (.iconst 1, 1) := by decide +kernel
theorem dX6_frameComesHome_27 : decode cX6_frameComesHome 27 = .ok (.isub, 1) := by decide +kernel
theorem dX6_frameComesHome_28 : decode cX6_frameComesHome 28 = .ok (.putfield 39, 3) := by decide +kernel
theorem dX6_frameComesHome_31 : decode cX6_frameComesHome 31 = .ok (.iconst 0, 1) := by decide +kernel
theorem dX6_frameComesHome_32 : decode cX6_frameComesHome 32 = .ok (.ireturn, 1) := by decide +kernel
theorem dX6_frameComesHome_33 : decode cX6_frameComesHome 33 = .ok (.iconst 1, 1) := by decide +kernel
theorem dX6_frameComesHome_34 : decode cX6_frameComesHome 34 = .ok (.ireturn, 1) := by decide +kernel
theorem dX6_sendFrame_0 : decode cX6_sendFrame 0 = .ok (.iconst 0, 1) := by decide +kernel
theorem dX6_sendFrame_1 : decode cX6_sendFrame 1 = .ok (.istore_n 1, 1) := by decide +kernel
theorem dX6_sendFrame_2 : decode cX6_sendFrame 2 = .ok (.iload_n 1, 1) := by decide +kernel
theorem dX6_sendFrame_3 : decode cX6_sendFrame 3 = .ok (.iconst 4, 1) := by decide +kernel
theorem dX6_sendFrame_4 : decode cX6_sendFrame 4 = .ok (.if_icmp .ge 18, 3) := by decide +kernel
theorem dX6_sendFrame_7 : decode cX6_sendFrame 7 = .ok (.aload_n 0, 1) := by decide +kernel
theorem dX6_sendFrame_8 : decode cX6_sendFrame 8 = .ok (.getfield 11, 3) := by decide +kernel
theorem dX6_sendFrame_11 : decode cX6_sendFrame 11 = .ok (.iload_n 1, 1) := by decide +kernel
theorem dX6_sendFrame_12 : decode cX6_sendFrame 12 = .ok (.aaload, 1) := by decide +kernel
theorem dX6_sendFrame_13 : decode cX6_sendFrame 13 = .ok (.invokevirtual 65, 3) := by decide +kernel
theorem dX6_sendFrame_16 : decode cX6_sendFrame 16 = .ok (.iinc 1 1, 3) := by decide +kernel
theorem dX6_sendFrame_19 : decode cX6_sendFrame 19 = .ok (.goto (-17), 3) := by decide +kernel
theorem dX6_sendFrame_22 : decode cX6_sendFrame 22 = .ok (.aload_n 0, 1) := by decide +kernel
theorem dX6_sendFrame_23 : decode cX6_sendFrame 23 = .ok (.invokevirtual 68, 3) := by decide +kernel
theorem dX6_sendFrame_26 : decode cX6_sendFrame 26 = .ok (.aload_n 0, 1) := by decide +kernel
theorem dX6_sendFrame_27 : decode cX6_sendFrame 27 = .ok (.invokevirtual 71, 3) := by decide +kernel
theorem dX6_sendFrame_30 : decode cX6_sendFrame 30 = .ok (.aload_n 0, 1) := by decide +kernel
theorem dX6_sendFrame_31 : decode cX6_sendFrame 31 = .ok (.invokevirtual 74, 3) := by decide +kernel
theorem dX6_sendFrame_34 : decode cX6_sendFrame 34 = .ok (.ifCond .eq 10, 3) := by decide +kernel
theorem dX6_sendFrame_37 : decode cX6_sendFrame 37 = .ok (.aload_n 0, 1) := by decide +kernel
theorem dX6_sendFrame_38 : decode cX6_sendFrame 38 = .ok (.invokevirtual 78, 3) := by decide +kernel
theorem dX6_sendFrame_41 : decode cX6_sendFrame 41 = .ok (.goto 5, 3) := by decide +kernel
theorem dX6_sendFrame_44 : decode cX6_sendFrame 44 = .ok (.bipush (-5), 2) := by decide +kernel
theorem dX6_sendFrame_46 : decode cX6_sendFrame 46 = .ok (.ireturn, 1) := by decide +kernel
theorem dX6_passA_0 : decode cX6_passA 0 = .ok (.aload_n 0, 1) := by decide +kernel
theorem dX6_passA_1 : decode cX6_passA 1 = .ok (.getfield 24, 3) := by decide +kernel
theorem dX6_passA_4 : decode cX6_passA 4 = .ok (.invokevirtual 81, 3) := by decide +kernel
theorem dX6_passA_7 : decode cX6_passA 7 = .ok (.istore_n 1, 1) := by decide +kernel
theorem dX6_passA_8 : decode cX6_passA 8 = .ok (.iconst 0, 1) := by decide +kernel
theorem dX6_passA_9 : decode cX6_passA 9 = .ok (.istore_n 2, 1) := by decide +kernel
theorem dX6_passA_10 : decode cX6_passA 10 = .ok (.iload_n 2, 1) := by decide +kernel
theorem dX6_passA_11 : decode cX6_passA 11 = .ok (.iload_n 1, 1) := by decide +kernel
theorem dX6_passA_12 : decode cX6_passA 12 = .ok (.if_icmp .ge 68, 3) := by decide +kernel
theorem dX6_passA_15 : decode cX6_passA 15 = .ok (.aload_n 0, 1) := by decide +kernel
theorem dX6_passA_16 : decode cX6_passA 16 = .ok (.getfield 24, 3) := by decide +kernel
theorem dX6_passA_19 : decode cX6_passA 19 = .ok (.getfield 84, 3) := by decide +kernel
theorem dX6_passA_22 : decode cX6_passA 22 = .ok (.iload_n 2, 1) := by decide +kernel
theorem dX6_passA_23 : decode cX6_passA 23 = .ok (.aaload, 1) := by decide +kernel
theorem dX6_passA_24 : decode cX6_passA 24 = .ok (.astore_n 3, 1) := by decide +kernel
theorem dX6_passA_25 : decode cX6_passA 25 = .ok (.aload_n 3, 1) := by decide +kernel
theorem dX6_passA_26 : decode cX6_passA 26 = .ok (.aload_n 0, 1) := by decide +kernel
theorem dX6_passA_27 : decode cX6_passA 27 = .ok (.getfield 24, 3) := by decide +kernel
theorem dX6_passA_30 : decode cX6_passA 30 = .ok (.iload_n 2, 1) := by decide +kernel
theorem dX6_passA_31 : decode cX6_passA 31 = .ok (.invokevirtual 88, 3) := by decide +kernel
theorem dX6_passA_34 : decode cX6_passA 34 = .ok (.invokevirtual 91, 3) := by decide +kernel
theorem dX6_passA_37 : decode cX6_passA 37 = .ok (.iconst 0, 1) := by decide +kernel
theorem dX6_passA_38 : decode cX6_passA 38 = .ok (.istore 4, 2) := by decide +kernel
theorem dX6_passA_40 : decode cX6_passA 40 = .ok (.iload 4, 2) := by decide +kernel
theorem dX6_passA_42 : decode cX6_passA 42 = .ok (.iconst 4, 1) := by decide +kernel
theorem dX6_passA_43 : decode cX6_passA 43 = .ok (.if_icmp .ge 31, 3) := by decide +kernel
theorem dX6_passA_46 : decode cX6_passA 46 = .ok (.aload_n 0, 1) := by decide +kernel
theorem dX6_passA_47 : decode cX6_passA 47 = .ok (.getfield 11, 3) := by decide +kernel
theorem dX6_passA_50 : decode cX6_passA 50 = .ok (.iload 4, 2) := by decide +kernel
theorem dX6_passA_52 : decode cX6_passA 52 = .ok (.aaload, 1) := by decide +kernel
theorem dX6_passA_53 : decode cX6_passA 53 = .ok (.aload_n 0, 1) := by decide +kernel
theorem dX6_passA_54 : decode cX6_passA 54 = .ok (.getfield 11, 3) := by decide +kernel
theorem dX6_passA_57 : decode cX6_passA 57 = .ok (.iload 4, 2) := by decide +kernel
theorem dX6_passA_59 : decode cX6_passA 59 = .ok (.aaload, 1) := by decide +kernel
theorem dX6_passA_60 : decode cX6_passA 60 = .ok (.getfield 96, 3) := by decide +kernel
theorem dX6_passA_63 : decode cX6_passA 63 = .ok (.aload_n 3, 1) := by decide +kernel
theorem dX6_passA_64 : decode cX6_passA 64 = .ok (.iload_n 2, 1) := by decide +kernel
theorem dX6_passA_65 : decode cX6_passA 65 = .ok (.invokevirtual 100, 3) := by decide +kernel
theorem dX6_passA_68 : decode cX6_passA 68 = .ok (.iinc 4 1, 3) := by decide +kernel
theorem dX6_passA_71 : decode cX6_passA 71 = .ok (.goto (-31), 3) := by decide +kernel
theorem dX6_passA_74 : decode cX6_passA 74 = .ok (.iinc 2 1, 3) := by decide +kernel
theorem dX6_passA_77 : decode cX6_passA 77 = .ok (.goto (-67), 3) := by decide +kernel
theorem dX6_passA_80 : decode cX6_passA 80 = .ok (.return_, 1) := by decide +kernel
theorem dX6_passB_0 : decode cX6_passB 0 = .ok (.aload_n 0, 1) := by decide +kernel
theorem dX6_passB_1 : decode cX6_passB 1 = .ok (.getfield 24, 3) := by decide +kernel
theorem dX6_passB_4 : decode cX6_passB 4 = .ok (.invokevirtual 104, 3) := by decide +kernel
theorem dX6_passB_7 : decode cX6_passB 7 = .ok (.istore_n 1, 1) := by decide +kernel
theorem dX6_passB_8 : decode cX6_passB 8 = .ok (.aload_n 0, 1) := by decide +kernel
theorem dX6_passB_9 : decode cX6_passB 9 = .ok (.getfield 24, 3) := by decide +kernel
theorem dX6_passB_12 : decode cX6_passB 12 = .ok (.invokevirtual 107, 3) := by decide +kernel
theorem dX6_passB_15 : decode cX6_passB 15 = .ok (.istore_n 2, 1) := by decide +kernel
theorem dX6_passB_16 : decode cX6_passB 16 = .ok (.iload_n 1, 1) := by decide +kernel
theorem dX6_passB_17 : decode cX6_passB 17 = .ok (.istore_n 3, 1) := by decide +kernel
theorem dX6_passB_18 : decode cX6_passB 18 = .ok (.iload_n 3, 1) := by decide +kernel
theorem dX6_passB_19 : decode cX6_passB 19 = .ok (.iload_n 2, 1) := by decide +kernel
theorem dX6_passB_20 : decode cX6_passB 20 = .ok (.if_icmp .ge 73, 3) := by decide +kernel
theorem dX6_passB_23 : decode cX6_passB 23 = .ok (.aload_n 0, 1) := by decide +kernel
theorem dX6_passB_24 : decode cX6_passB 24 = .ok (.getfield 24, 3) := by decide +kernel
theorem dX6_passB_27 : decode cX6_passB 27 = .ok (.getfield 84, 3) := by decide +kernel
theorem dX6_passB_30 : decode cX6_passB 30 = .ok (.iload_n 3, 1) := by decide +kernel
theorem dX6_passB_31 : decode cX6_passB 31 = .ok (.aaload, 1) := by decide +kernel
theorem dX6_passB_32 : decode cX6_passB 32 = .ok (.astore 4, 2) := by decide +kernel
theorem dX6_passB_34 : decode cX6_passB 34 = .ok (.aload 4, 2) := by decide +kernel
theorem dX6_passB_36 : decode cX6_passB 36 = .ok (.aload_n 0, 1) := by decide +kernel
theorem dX6_passB_37 : decode cX6_passB 37 = .ok (.getfield 24, 3) := by decide +kernel
theorem dX6_passB_40 : decode cX6_passB 40 = .ok (.iload_n 3, 1) := by decide +kernel
theorem dX6_passB_41 : decode cX6_passB 41 = .ok (.invokevirtual 108, 3) := by decide +kernel
theorem dX6_passB_44 : decode cX6_passB 44 = .ok (.invokevirtual 91, 3) := by decide +kernel
theorem dX6_passB_47 : decode cX6_passB 47 = .ok (.iconst 0, 1) := by decide +kernel
theorem dX6_passB_48 : decode cX6_passB 48 = .ok (.istore 5, 2) := by decide +kernel
theorem dX6_passB_50 : decode cX6_passB 50 = .ok (.iload 5, 2) := by decide +kernel
theorem dX6_passB_52 : decode cX6_passB 52 = .ok (.iconst 4, 1) := by decide +kernel
theorem dX6_passB_53 : decode cX6_passB 53 = .ok (.if_icmp .ge 34, 3) := by decide +kernel
theorem dX6_passB_56 : decode cX6_passB 56 = .ok (.aload_n 0, 1) := by decide +kernel
theorem dX6_passB_57 : decode cX6_passB 57 = .ok (.getfield 11, 3) := by decide +kernel
theorem dX6_passB_60 : decode cX6_passB 60 = .ok (.iload 5, 2) := by decide +kernel
theorem dX6_passB_62 : decode cX6_passB 62 = .ok (.aaload, 1) := by decide +kernel
theorem dX6_passB_63 : decode cX6_passB 63 = .ok (.aload_n 0, 1) := by decide +kernel
theorem dX6_passB_64 : decode cX6_passB 64 = .ok (.getfield 11, 3) := by decide +kernel
theorem dX6_passB_67 : decode cX6_passB 67 = .ok (.iload 5, 2) := by decide +kernel
theorem dX6_passB_69 : decode cX6_passB 69 = .ok (.aaload, 1) := by decide +kernel
theorem dX6_passB_70 : decode cX6_passB 70 = .ok (.getfield 111, 3) := by decide +kernel
theorem dX6_passB_73 : decode cX6_passB 73 = .ok (.aload 4, 2) := by decide +kernel
theorem dX6_passB_75 : decode cX6_passB 75 = .ok (.iload_n 3, 1) := by decide +kernel
theorem dX6_passB_76 : decode cX6_passB 76 = .ok (.iload_n 1, 1) := by decide +kernel
theorem dX6_passB_77 : decode cX6_passB 77 = .ok (.isub, 1) := by decide +kernel
theorem dX6_passB_78 : decode cX6_passB 78 = .ok (.invokevirtual 100, 3) := by decide +kernel
theorem dX6_passB_81 : decode cX6_passB 81 = .ok (.iinc 5 1, 3) := by decide +kernel
theorem dX6_passB_84 : decode cX6_passB 84 = .ok (.goto (-34), 3) := by decide +kernel
theorem dX6_passB_87 : decode cX6_passB 87 = .ok (.iinc 3 1, 3) := by decide +kernel
theorem dX6_passB_90 : decode cX6_passB 90 = .ok (.goto (-72), 3) := by decide +kernel
theorem dX6_passB_93 : decode cX6_passB 93 = .ok (.return_, 1) := by decide +kernel
theorem dX6_receive_0 : decode cX6_receive 0 = .ok (.aload_n 0, 1) := by decide +kernel
theorem dX6_receive_1 : decode cX6_receive 1 = .ok (.getfield 24, 3) := by decide +kernel
theorem dX6_receive_4 : decode cX6_receive 4 = .ok (.invokevirtual 114, 3) := by decide +kernel
theorem dX6_receive_7 : decode cX6_receive 7 = .ok (.ifCond .le 7, 3) := by decide +kernel
theorem dX6_receive_10 : decode cX6_receive 10 = .ok (.iconst 1, 1) := by decide +kernel
theorem dX6_receive_11 : decode cX6_receive 11 = .ok (.goto 4, 3) := by decide +kernel
theorem dX6_receive_14 : decode cX6_receive 14 = .ok (.iconst 0, 1) := by decide +kernel
theorem dX6_receive_15 : decode cX6_receive 15 = .ok (.istore_n 1, 1) := by decide +kernel
theorem dX6_receive_16 : decode cX6_receive 16 = .ok (.iconst 0, 1) := by decide +kernel
theorem dX6_receive_17 : decode cX6_receive 17 = .ok (.istore_n 2, 1) := by decide +kernel
theorem dX6_receive_18 : decode cX6_receive 18 = .ok (.iconst 0, 1) := by decide +kernel
theorem dX6_receive_19 : decode cX6_receive 19 = .ok (.istore_n 3, 1) := by decide +kernel
theorem dX6_receive_20 : decode cX6_receive 20 = .ok (.iload_n 3, 1) := by decide +kernel
theorem dX6_receive_21 : decode cX6_receive 21 = .ok (.iconst 4, 1) := by decide +kernel
theorem dX6_receive_22 : decode cX6_receive 22 = .ok (.if_icmp .ge 45, 3) := by decide +kernel
theorem dX6_receive_25 : decode cX6_receive 25 = .ok (.aload_n 0, 1) := by decide +kernel
theorem dX6_receive_26 : decode cX6_receive 26 = .ok (.getfield 11, 3) := by decide +kernel
theorem dX6_receive_29 : decode cX6_receive 29 = .ok (.iload_n 3, 1) := by decide +kernel
theorem dX6_receive_30 : decode cX6_receive 30 = .ok (.aaload, 1) := by decide +kernel
theorem dX6_receive_31 : decode cX6_receive 31 = .ok (.astore 4, 2) := by decide +kernel
theorem dX6_receive_33 : decode cX6_receive 33 = .ok (.aload 4, 2) := by decide +kernel
theorem dX6_receive_35 : decode cX6_receive 35 = .ok (.iload_n 1, 1) := by decide +kernel
theorem dX6_receive_36 : decode cX6_receive 36 = .ok (.invokevirtual 117, 3) := by decide +kernel
theorem dX6_receive_39 : decode cX6_receive 39 = .ok (.aload 4, 2) := by decide +kernel
theorem dX6_receive_41 : decode cX6_receive 41 = .ok (.getfield 42, 3) := by decide +kernel
theorem dX6_receive_44 : decode cX6_receive 44 = .ok (.ifCond .eq 17, 3) := by decide +kernel
theorem dX6_receive_47 : decode cX6_receive 47 = .ok (.iload_n 2, 1) := by decide +kernel
theorem dX6_receive_48 : decode cX6_receive 48 = .ok (.aload 4, 2) := by decide +kernel
theorem dX6_receive_50 : decode cX6_receive 50 = .ok (.getfield 121, 3) := by decide +kernel
theorem dX6_receive_53 : decode cX6_receive 53 = .ok (.iadd, 1) := by decide +kernel
theorem dX6_receive_54 : decode cX6_receive 54 = .ok (.istore_n 2, 1) := by decide +kernel
theorem dX6_receive_55 : decode cX6_receive 55 = .ok (.aload_n 0, 1) := by decide +kernel
theorem dX6_receive_56 : decode cX6_receive 56 = .ok (.aload 4, 2) := by decide +kernel
theorem dX6_receive_58 : decode cX6_receive 58 = .ok (.invokevirtual 124, 3) := by decide +kernel
theorem dX6_receive_61 : decode cX6_receive 61 = .ok (.iinc 3 1, 3) := by decide +kernel
theorem dX6_receive_64 : decode cX6_receive 64 = .ok (.goto (-44), 3) := by decide +kernel
theorem dX6_receive_67 : decode cX6_receive 67 = .ok (.iload_n 2, 1) := by decide +kernel
theorem dX6_receive_68 : decode cX6_receive 68 = .ok (.ireturn, 1) := by decide +kernel
theorem dX6_compare_0 : decode cX6_compare 0 = .ok (.aload_n 1, 1) := by decide +kernel
theorem dX6_compare_1 : decode cX6_compare 1 = .ok (.getfield 121, 3) := by decide +kernel
theorem dX6_compare_4 : decode cX6_compare 4 = .ok (.aload_n 0, 1) := by decide +kernel
theorem dX6_compare_5 : decode cX6_compare 5 = .ok (.aload_n 1, 1) := by decide +kernel
theorem dX6_compare_6 : decode cX6_compare 6 = .ok (.invokevirtual 128, 3) := by decide +kernel
theorem dX6_compare_9 : decode cX6_compare 9 = .ok (.if_icmp .ge 13, 3) := by decide +kernel
theorem dX6_compare_12 : decode cX6_compare 12 = .ok (.aload_n 0, 1) := by decide +kernel
theorem dX6_compare_13 : decode cX6_compare 13 = .ok (.dup, 1) := by decide +kernel
theorem dX6_compare_14 : decode cX6_compare 14 = .ok (.getfield 35, 3) := by decide +kernel
theorem dX6_compare_17 : decode cX6_compare 17 = .ok (.iconst 1, 1) := by decide +kernel
theorem dX6_compare_18 : decode cX6_compare 18 = .ok (.iadd, 1) := by decide +kernel
theorem dX6_compare_19 : decode cX6_compare 19 = .ok (.putfield 35, 3) := by decide +kernel
theorem dX6_compare_22 : decode cX6_compare 22 = .ok (.aload_n 0, 1) := by decide +kernel
theorem dX6_compare_23 : decode cX6_compare 23 = .ok (.getfield 20, 3) := by decide +kernel
theorem dX6_compare_26 : decode cX6_compare 26 = .ok (.aload_n 1, 1) := by decide +kernel
theorem dX6_compare_27 : decode cX6_compare 27 = .ok (.invokevirtual 49, 3) := by decide +kernel
theorem dX6_compare_30 : decode cX6_compare 30 = .ok (.aload_n 1, 1) := by decide +kernel
theorem dX6_compare_31 : decode cX6_compare 31 = .ok (.getfield 121, 3) := by decide +kernel
theorem dX6_compare_34 : decode cX6_compare 34 = .ok (.invokevirtual 132, 3) := by decide +kernel
theorem dX6_compare_37 : decode cX6_compare 37 = .ok (.return_, 1) := by decide +kernel
theorem dX7_init_0 : decode cX7_init 0 = .ok (.aload_n 0, 1) := by decide +kernel
theorem dX7_init_1 : decode cX7_init 1 = .ok (.invokespecial 3, 3) := by decide +kernel
theorem dX7_init_4 : decode cX7_init 4 = .ok (.return_, 1) := by decide +kernel
theorem dX7_lie_0 : decode cX7_lie 0 = .ok (.aload_n 0, 1) := by decide +kernel
theorem dX7_lie_1 : decode cX7_lie 1 = .ok (.iload_n 1, 1) := by decide +kernel
theorem dX7_lie_2 : decode cX7_lie 2 = .ok (.putfield 9, 3) := by decide +kernel
theorem dX7_lie_5 : decode cX7_lie 5 = .ok (.aload_n 0, 1) := by decide +kernel
theorem dX7_lie_6 : decode cX7_lie 6 = .ok (.iload_n 2, 1) := by decide +kernel
theorem dX7_lie_7 : decode cX7_lie 7 = .ok (.putfield 15, 3) := by decide +kernel
theorem dX7_lie_10 : decode cX7_lie 10 = .ok (.aload_n 0, 1) := by decide +kernel
theorem dX7_lie_11 : decode cX7_lie 11 = .ok (.iload_n 3, 1) := by decide +kernel
theorem dX7_lie_12 : decode cX7_lie 12 = .ok (.putfield 18, 3) := by decide +kernel
theorem dX7_lie_15 : decode cX7_lie 15 = .ok (.return_, 1) := by decide +kernel
theorem dX7_remove_0 : decode cX7_remove 0 = .ok (.aload_n 0, 1) := by decide +kernel
theorem dX7_remove_1 : decode cX7_remove 1 = .ok (.iconst 0, 1) := by decide +kernel
theorem dX7_remove_2 : decode cX7_remove 2 = .ok (.putfield 15, 3) := by decide +kernel
theorem dX7_remove_5 : decode cX7_remove 5 = .ok (.return_, 1) := by decide +kernel
theorem dX7_exists_0 : decode cX7_exists 0 = .ok (.aload_n 0, 1) := by decide +kernel
theorem dX7_exists_1 : decode cX7_exists 1 = .ok (.getfield 15, 3) := by decide +kernel
theorem dX7_exists_4 : decode cX7_exists 4 = .ok (.ifCond .le 7, 3) := by decide +kernel
theorem dX7_exists_7 : decode cX7_exists 7 = .ok (.iconst 1, 1) := by decide +kernel
theorem dX7_exists_8 : decode cX7_exists 8 = .ok (.goto 4, 3) := by decide +kernel
theorem dX7_exists_11 : decode cX7_exists 11 = .ok (.iconst 0, 1) := by decide +kernel
theorem dX7_exists_12 : decode cX7_exists 12 = .ok (.ireturn, 1) := by decide +kernel
theorem dX7_meets_0 : decode cX7_meets 0 = .ok (.aload_n 0, 1) := by decide +kernel
theorem dX7_meets_1 : decode cX7_meets 1 = .ok (.invokevirtual 21, 3) := by decide +kernel
theorem dX7_meets_4 : decode cX7_meets 4 = .ok (.ifCond .eq 30, 3) := by decide +kernel
theorem dX7_meets_7 : decode cX7_meets 7 = .ok (.aload_n 0, 1) := by decide +kernel
theorem dX7_meets_8 : decode cX7_meets 8 = .ok (.getfield 9, 3) := by decide +kernel
theorem dX7_meets_11 : decode cX7_meets 11 = .ok (.iload_n 1, 1) := by decide +kernel
theorem dX7_meets_12 : decode cX7_meets 12 = .ok (.iload_n 2, 1) := by decide +kernel
theorem dX7_meets_13 : decode cX7_meets 13 = .ok (.iadd, 1) := by decide +kernel
theorem dX7_meets_14 : decode cX7_meets 14 = .ok (.if_icmp .ge 20, 3) := by decide +kernel
theorem dX7_meets_17 : decode cX7_meets 17 = .ok (.iload_n 1, 1) := by decide +kernel
theorem dX7_meets_18 : decode cX7_meets 18 = .ok (.aload_n 0, 1) := by decide +kernel
theorem dX7_meets_19 : decode cX7_meets 19 = .ok (.getfield 9, 3) := by decide +kernel
theorem dX7_meets_22 : decode cX7_meets 22 = .ok (.aload_n 0, 1) := by decide +kernel
theorem dX7_meets_23 : decode cX7_meets 23 = .ok (.getfield 15, 3) := by decide +kernel
theorem dX7_meets_26 : decode cX7_meets 26 = .ok (.iadd, 1) := by decide +kernel
theorem dX7_meets_27 : decode cX7_meets 27 = .ok (.if_icmp .ge 7, 3) := by decide +kernel
theorem dX7_meets_30 : decode cX7_meets 30 = .ok (.iconst 1, 1) := by decide +kernel
theorem dX7_meets_31 : decode cX7_meets 31 = .ok (.goto 4, 3) := by decide +kernel
theorem dX7_meets_34 : decode cX7_meets 34 = .ok (.iconst 0, 1) := by decide +kernel
theorem dX7_meets_35 : decode cX7_meets 35 = .ok (.ireturn, 1) := by decide +kernel
theorem dX7_byteOver_0 : decode cX7_byteOver 0 = .ok (.iload_n 1, 1) := by decide +kernel
theorem dX7_byteOver_1 : decode cX7_byteOver 1 = .ok (.aload_n 0, 1) := by decide +kernel
theorem dX7_byteOver_2 : decode cX7_byteOver 2 = .ok (.getfield 9, 3) := by decide +kernel
theorem dX7_byteOver_5 : decode cX7_byteOver 5 = .ok (.if_icmp .lt 30, 3) := by decide +kernel
theorem dX7_byteOver_8 : decode cX7_byteOver 8 = .ok (.iload_n 1, 1) := by decide +kernel
theorem dX7_byteOver_9 : decode cX7_byteOver 9 = .ok (.aload_n 0, 1) := by decide +kernel
theorem dX7_byteOver_10 : decode cX7_byteOver 10 = .ok (.getfield 9, 3) := by decide +kernel
theorem dX7_byteOver_13 : decode cX7_byteOver 13 = .ok (.aload_n 0, 1) := by decide +kernel
theorem dX7_byteOver_14 : decode cX7_byteOver 14 = .ok (.getfield 15, 3) := by decide +kernel
theorem dX7_byteOver_17 : decode cX7_byteOver 17 = .ok (.iadd, 1) := by decide +kernel
theorem dX7_byteOver_18 : decode cX7_byteOver 18 = .ok (.if_icmp .ge 17, 3) := by decide +kernel
theorem dX7_byteOver_21 : decode cX7_byteOver 21 = .ok (.aload_n 0, 1) := by decide +kernel
theorem dX7_byteOver_22 : decode cX7_byteOver 22 = .ok (.getfield 18, 3) := by decide +kernel
theorem dX7_byteOver_25 : decode cX7_byteOver 25 = .ok (.iload_n 1, 1) := by decide +kernel
theorem dX7_byteOver_26 : decode cX7_byteOver 26 = .ok (.aload_n 0, 1) := by decide +kernel
theorem dX7_byteOver_27 : decode cX7_byteOver 27 = .ok (.getfield 9, 3) := by decide +kernel
theorem dX7_byteOver_30 : decode cX7_byteOver 30 = .ok (.isub, 1) := by decide +kernel
theorem dX7_byteOver_31 : decode cX7_byteOver 31 = .ok (.iadd, 1) := by decide +kernel
theorem dX7_byteOver_32 : decode cX7_byteOver 32 = .ok (.goto 5, 3) := by decide +kernel
theorem dX7_byteOver_35 : decode cX7_byteOver 35 = .ok (.bipush (-4), 2) := by decide +kernel
theorem dX7_byteOver_37 : decode cX7_byteOver 37 = .ok (.ireturn, 1) := by decide +kernel
theorem dX8_init_0 : decode cX8_init 0 = .ok (.aload_n 0, 1) := by decide +kernel
theorem dX8_init_1 : decode cX8_init 1 = .ok (.invokespecial 3, 3) := by decide +kernel
theorem dX8_init_4 : decode cX8_init 4 = .ok (.aload_n 0, 1) := by decide +kernel
theorem dX8_init_5 : decode cX8_init 5 = .ok (.iconst 4, 1) := by decide +kernel
theorem dX8_init_6 : decode cX8_init 6 = .ok (.newarray .int, 2) := by decide +kernel
theorem dX8_init_8 : decode cX8_init 8 = .ok (.putfield 9, 3) := by decide +kernel
theorem dX8_init_11 : decode cX8_init 11 = .ok (.return_, 1) := by decide +kernel
theorem dX8_size_0 : decode cX8_size 0 = .ok (.aload_n 0, 1) := by decide +kernel
theorem dX8_size_1 : decode cX8_size 1 = .ok (.getfield 15, 3) := by decide +kernel
theorem dX8_size_4 : decode cX8_size 4 = .ok (.ireturn, 1) := by decide +kernel
theorem dX8_empty_0 : decode cX8_empty 0 = .ok (.aload_n 0, 1) := by decide +kernel
theorem dX8_empty_1 : decode cX8_empty 1 = .ok (.iconst 0, 1) := by decide +kernel
theorem dX8_empty_2 : decode cX8_empty 2 = .ok (.putfield 15, 3) := by decide +kernel
theorem dX8_empty_5 : decode cX8_empty 5 = .ok (.return_, 1) := by decide +kernel
theorem dX8_append_0 : decode cX8_append 0 = .ok (.aload_n 0, 1) := by decide +kernel
theorem dX8_append_1 : decode cX8_append 1 = .ok (.getfield 15, 3) := by decide +kernel
theorem dX8_append_4 : decode cX8_append 4 = .ok (.iconst 4, 1) := by decide +kernel
theorem dX8_append_5 : decode cX8_append 5 = .ok (.if_icmp .lt 5, 3) := by decide +kernel
theorem dX8_append_8 : decode cX8_append 8 = .ok (.iconst 0, 1) := by decide +kernel
theorem dX8_append_9 : decode cX8_append 9 = .ok (.ireturn, 1) := by decide +kernel
theorem dX8_append_10 : decode cX8_append 10 = .ok (.aload_n 0, 1) := by decide +kernel
theorem dX8_append_11 : decode cX8_append 11 = .ok (.getfield 9, 3) := by decide +kernel
theorem dX8_append_14 : decode cX8_append 14 = .ok (.aload_n 0, 1) := by decide +kernel
theorem dX8_append_15 : decode cX8_append 15 = .ok (.getfield 15, 3) := by decide +kernel
theorem dX8_append_18 : decode cX8_append 18 = .ok (.iload_n 1, 1) := by decide +kernel
theorem dX8_append_19 : decode cX8_append 19 = .ok (.iastore, 1) := by decide +kernel
theorem dX8_append_20 : decode cX8_append 20 = .ok (.aload_n 0, 1) := by decide +kernel
theorem dX8_append_21 : decode cX8_append 21 = .ok (.dup, 1) := by decide +kernel
theorem dX8_append_22 : decode cX8_append 22 = .ok (.getfield 15, 3) := by decide +kernel
theorem dX8_append_25 : decode cX8_append 25 = .ok (.iconst 1, 1) := by decide +kernel
theorem dX8_append_26 : decode cX8_append 26 = .ok (.iadd, 1) := by decide +kernel
theorem dX8_append_27 : decode cX8_append 27 = .ok (.putfield 15, 3) := by decide +kernel
theorem dX8_append_30 : decode cX8_append 30 = .ok (.iconst 1, 1) := by decide +kernel
theorem dX8_append_31 : decode cX8_append 31 = .ok (.ireturn, 1) := by decide +kernel
theorem dX8_removeOldest_0 : decode cX8_removeOldest 0 = .ok (.aload_n 0, 1) := by decide +kernel
theorem dX8_removeOldest_1 : decode cX8_removeOldest 1 = .ok (.getfield 15, 3) := by decide +kernel
theorem dX8_removeOldest_4 : decode cX8_removeOldest 4 = .ok (.ifCond .ne 5, 3) := by decide +kernel
theorem dX8_removeOldest_7 : decode cX8_removeOldest 7 = .ok (.iconst 0, 1) := by decide +kernel
theorem dX8_removeOldest_8 : decode cX8_removeOldest 8 = .ok (.ireturn, 1) := by decide +kernel
theorem dX8_removeOldest_9 : decode cX8_removeOldest 9 = .ok (.aload_n 0, 1) := by decide +kernel
theorem dX8_removeOldest_10 : decode cX8_removeOldest 10 = .ok (.getfield 9, 3) := by decide +kernel
theorem dX8_removeOldest_13 : decode cX8_removeOldest 13 = .ok (.iconst 0, 1) := by decide +kernel
theorem dX8_removeOldest_14 : decode cX8_removeOldest 14 = .ok (.iaload, 1) := by decide +kernel
theorem dX8_removeOldest_15 : decode cX8_removeOldest 15 = .ok (.istore_n 1, 1) := by decide +kernel
theorem dX8_removeOldest_16 : decode cX8_removeOldest 16 = .ok (.iconst 1, 1) := by decide +kernel
theorem dX8_removeOldest_17 : decode cX8_removeOldest 17 = .ok (.istore_n 2, 1) := by decide +kernel
theorem dX8_removeOldest_18 : decode cX8_removeOldest 18 = .ok (.iload_n 2, 1) := by decide +kernel
theorem dX8_removeOldest_19 : decode cX8_removeOldest 19 = .ok (.aload_n 0, 1) := by decide +kernel
theorem dX8_removeOldest_20 : decode cX8_removeOldest 20 = .ok (.getfield 15, 3) := by decide +kernel
theorem dX8_removeOldest_23 : decode cX8_removeOldest 23 = .ok (.if_icmp .ge 23, 3) := by decide +kernel
theorem dX8_removeOldest_26 : decode cX8_removeOldest 26 = .ok (.aload_n 0, 1) := by decide +kernel
theorem dX8_removeOldest_27 : decode cX8_removeOldest 27 = .ok (.getfield 9, 3) := by decide +kernel
theorem dX8_removeOldest_30 : decode cX8_removeOldest 30 = .ok (.iload_n 2, 1) := by decide +kernel
theorem dX8_removeOldest_31 : decode cX8_removeOldest 31 = .ok (.iconst 1, 1) := by decide +kernel
theorem dX8_removeOldest_32 : decode cX8_removeOldest 32 = .ok (.isub, 1) := by decide +kernel
theorem dX8_removeOldest_33 : decode cX8_removeOldest 33 = .ok (.aload_n 0, 1) := by decide +kernel
theorem dX8_removeOldest_34 : decode cX8_removeOldest 34 = .ok (.getfield 9, 3) := by decide +kernel
theorem dX8_removeOldest_37 : decode cX8_removeOldest 37 = .ok (.iload_n 2, 1) := by decide +kernel
theorem dX8_removeOldest_38 : decode cX8_removeOldest 38 = .ok (.iaload, 1) := by decide +kernel
theorem dX8_removeOldest_39 : decode cX8_removeOldest 39 = .ok (.iastore, 1) := by decide +kernel
theorem dX8_removeOldest_40 : decode cX8_removeOldest 40 = .ok (.iinc 2 1, 3) := by decide +kernel
theorem dX8_removeOldest_43 : decode cX8_removeOldest 43 = .ok (.goto (-25), 3) := by decide +kernel
theorem dX8_removeOldest_46 : decode cX8_removeOldest 46 = .ok (.aload_n 0, 1) := by decide +kernel
theorem dX8_removeOldest_47 : decode cX8_removeOldest 47 = .ok (.dup, 1) := by decide +kernel
theorem dX8_removeOldest_48 : decode cX8_removeOldest 48 = .ok (.getfield 15, 3) := by decide +kernel
theorem dX8_removeOldest_51 : decode cX8_removeOldest 51 = .ok (.iconst 1, 1) := by decide +kernel
theorem dX8_removeOldest_52 : decode cX8_removeOldest 52 = .ok (.isub, 1) := by decide +kernel
theorem dX8_removeOldest_53 : decode cX8_removeOldest 53 = .ok (.putfield 15, 3) := by decide +kernel
theorem dX8_removeOldest_56 : decode cX8_removeOldest 56 = .ok (.iload_n 1, 1) := by decide +kernel
theorem dX8_removeOldest_57 : decode cX8_removeOldest 57 = .ok (.ireturn, 1) := by decide +kernel
theorem dX9_init_0 : decode cX9_init 0 = .ok (.aload_n 0, 1) := by decide +kernel
theorem dX9_init_1 : decode cX9_init 1 = .ok (.invokespecial 3, 3) := by decide +kernel
theorem dX9_init_4 : decode cX9_init 4 = .ok (.aload_n 0, 1) := by decide +kernel
theorem dX9_init_5 : decode cX9_init 5 = .ok (.bipush 8, 2) := by decide +kernel
theorem dX9_init_7 : decode cX9_init 7 = .ok (.anewarray 9, 3) := by decide +kernel
theorem dX9_init_10 : decode cX9_init 10 = .ok (.putfield 11, 3) := by decide +kernel
theorem dX9_init_13 : decode cX9_init 13 = .ok (.aload_n 0, 1) := by decide +kernel
theorem dX9_init_14 : decode cX9_init 14 = .ok (.bipush 9, 2) := by decide +kernel
theorem dX9_init_16 : decode cX9_init 16 = .ok (.newarray .int, 2) := by decide +kernel
theorem dX9_init_18 : decode cX9_init 18 = .ok (.putfield 17, 3) := by decide +kernel
theorem dX9_init_21 : decode cX9_init 21 = .ok (.aload_n 0, 1) := by decide +kernel
theorem dX9_init_22 : decode cX9_init 22 = .ok (.bipush 9, 2) := by decide +kernel
theorem dX9_init_24 : decode cX9_init 24 = .ok (.newarray .int, 2) := by decide +kernel
theorem dX9_init_26 : decode cX9_init 26 = .ok (.putfield 21, 3) := by decide +kernel
theorem dX9_init_29 : decode cX9_init 29 = .ok (.iconst 0, 1) := by decide +kernel
theorem dX9_init_30 : decode cX9_init 30 = .ok (.istore_n 1, 1) := by decide +kernel
theorem dX9_init_31 : decode cX9_init 31 = .ok (.iload_n 1, 1) := by decide +kernel
theorem dX9_init_32 : decode cX9_init 32 = .ok (.bipush 8, 2) := by decide +kernel
theorem dX9_init_34 : decode cX9_init 34 = .ok (.if_icmp .ge 22, 3) := by decide +kernel
theorem dX9_init_37 : decode cX9_init 37 = .ok (.aload_n 0, 1) := by decide +kernel
theorem dX9_init_38 : decode cX9_init 38 = .ok (.getfield 11, 3) := by decide +kernel
theorem dX9_init_41 : decode cX9_init 41 = .ok (.iload_n 1, 1) := by decide +kernel
theorem dX9_init_42 : decode cX9_init 42 = .ok (.new 9, 3) := by decide +kernel
theorem dX9_init_45 : decode cX9_init 45 = .ok (.dup, 1) := by decide +kernel
theorem dX9_init_46 : decode cX9_init 46 = .ok (.invokespecial 24, 3) := by decide +kernel
theorem dX9_init_49 : decode cX9_init 49 = .ok (.aastore, 1) := by decide +kernel
theorem dX9_init_50 : decode cX9_init 50 = .ok (.iinc 1 1, 3) := by decide +kernel
theorem dX9_init_53 : decode cX9_init 53 = .ok (.goto (-22), 3) := by decide +kernel
theorem dX9_init_56 : decode cX9_init 56 = .ok (.return_, 1) := by decide +kernel
theorem dX9_build_0 : decode cX9_build 0 = .ok (.aload_n 0, 1) := by decide +kernel
theorem dX9_build_1 : decode cX9_build 1 = .ok (.aload_n 1, 1) := by decide +kernel
theorem dX9_build_2 : decode cX9_build 2 = .ok (.getfield 25, 3) := by decide +kernel
theorem dX9_build_5 : decode cX9_build 5 = .ok (.putfield 30, 3) := by decide +kernel
theorem dX9_build_8 : decode cX9_build 8 = .ok (.aload_n 0, 1) := by decide +kernel
theorem dX9_build_9 : decode cX9_build 9 = .ok (.aload_n 1, 1) := by decide +kernel
theorem dX9_build_10 : decode cX9_build 10 = .ok (.getfield 33, 3) := by decide +kernel
theorem dX9_build_13 : decode cX9_build 13 = .ok (.putfield 36, 3) := by decide +kernel
theorem dX9_build_16 : decode cX9_build 16 = .ok (.aload_n 0, 1) := by decide +kernel
theorem dX9_build_17 : decode cX9_build 17 = .ok (.aload_n 1, 1) := by decide +kernel
theorem dX9_build_18 : decode cX9_build 18 = .ok (.getfield 37, 3) := by decide +kernel
theorem dX9_build_21 : decode cX9_build 21 = .ok (.putfield 40, 3) := by decide +kernel
theorem dX9_build_24 : decode cX9_build 24 = .ok (.aload_n 0, 1) := by decide +kernel
theorem dX9_build_25 : decode cX9_build 25 = .ok (.iconst 0, 1) := by decide +kernel
theorem dX9_build_26 : decode cX9_build 26 = .ok (.putfield 41, 3) := by decide +kernel
theorem dX9_build_29 : decode cX9_build 29 = .ok (.aload_n 0, 1) := by decide +kernel
theorem dX9_build_30 : decode cX9_build 30 = .ok (.getfield 21, 3) := by decide +kernel
theorem dX9_build_33 : decode cX9_build 33 = .ok (.iconst 0, 1) := by decide +kernel
theorem dX9_build_34 : decode cX9_build 34 = .ok (.invokestatic 44, 3) := by decide +kernel
theorem dX9_build_37 : decode cX9_build 37 = .ok (.iconst 0, 1) := by decide +kernel
theorem dX9_build_38 : decode cX9_build 38 = .ok (.istore_n 2, 1) := by decide +kernel
theorem dX9_build_39 : decode cX9_build 39 = .ok (.iload_n 2, 1) := by decide +kernel
theorem dX9_build_40 : decode cX9_build 40 = .ok (.aload_n 0, 1) := by decide +kernel
theorem dX9_build_41 : decode cX9_build 41 = .ok (.getfield 30, 3) := by decide +kernel
theorem dX9_build_44 : decode cX9_build 44 = .ok (.if_icmp .ge 48, 3) := by decide +kernel
theorem dX9_build_47 : decode cX9_build 47 = .ok (.aload_n 0, 1) := by decide +kernel
theorem dX9_build_48 : decode cX9_build 48 = .ok (.getfield 11, 3) := by decide +kernel
theorem dX9_build_51 : decode cX9_build 51 = .ok (.iload_n 2, 1) := by decide +kernel
theorem dX9_build_52 : decode cX9_build 52 = .ok (.aaload, 1) := by decide +kernel
theorem dX9_build_53 : decode cX9_build 53 = .ok (.aload_n 1, 1) := by decide +kernel
theorem dX9_build_54 : decode cX9_build 54 = .ok (.getfield 50, 3) := by decide +kernel
theorem dX9_build_57 : decode cX9_build 57 = .ok (.iload_n 2, 1) := by decide +kernel
theorem dX9_build_58 : decode cX9_build 58 = .ok (.iaload, 1) := by decide +kernel
theorem dX9_build_59 : decode cX9_build 59 = .ok (.aload_n 1, 1) := by decide +kernel
theorem dX9_build_60 : decode cX9_build 60 = .ok (.getfield 53, 3) := by decide +kernel
theorem dX9_build_63 : decode cX9_build 63 = .ok (.iload_n 2, 1) := by decide +kernel
theorem dX9_build_64 : decode cX9_build 64 = .ok (.iaload, 1) := by decide +kernel
theorem dX9_build_65 : decode cX9_build 65 = .ok (.aload_n 1, 1) := by decide +kernel
theorem dX9_build_66 : decode cX9_build 66 = .ok (.getfield 56, 3) := by decide +kernel
theorem dX9_build_69 : decode cX9_build 69 = .ok (.iload_n 2, 1) := by decide +kernel
theorem dX9_build_70 : decode cX9_build 70 = .ok (.iaload, 1) := by decide +kernel
theorem dX9_build_71 : decode cX9_build 71 = .ok (.invokevirtual 59, 3) := by decide +kernel
theorem dX9_build_74 : decode cX9_build 74 = .ok (.aload_n 0, 1) := by decide +kernel
theorem dX9_build_75 : decode cX9_build 75 = .ok (.getfield 17, 3) := by decide +kernel
theorem dX9_build_78 : decode cX9_build 78 = .ok (.iload_n 2, 1) := by decide +kernel
theorem dX9_build_79 : decode cX9_build 79 = .ok (.aload_n 1, 1) := by decide +kernel
theorem dX9_build_80 : decode cX9_build 80 = .ok (.getfield 63, 3) := by decide +kernel
theorem dX9_build_83 : decode cX9_build 83 = .ok (.iload_n 2, 1) := by decide +kernel
theorem dX9_build_84 : decode cX9_build 84 = .ok (.iaload, 1) := by decide +kernel
theorem dX9_build_85 : decode cX9_build 85 = .ok (.iastore, 1) := by decide +kernel
theorem dX9_build_86 : decode cX9_build 86 = .ok (.iinc 2 1, 3) := by decide +kernel
theorem dX9_build_89 : decode cX9_build 89 = .ok (.goto (-50), 3) := by decide +kernel
theorem dX9_build_92 : decode cX9_build 92 = .ok (.aload_n 0, 1) := by decide +kernel
theorem dX9_build_93 : decode cX9_build 93 = .ok (.getfield 17, 3) := by decide +kernel
theorem dX9_build_96 : decode cX9_build 96 = .ok (.aload_n 0, 1) := by decide +kernel
theorem dX9_build_97 : decode cX9_build 97 = .ok (.getfield 30, 3) := by decide +kernel
theorem dX9_build_100 : decode cX9_build 100 = .ok (.aload_n 1, 1) := by decide +kernel
theorem dX9_build_101 : decode cX9_build 101 = .ok (.getfield 64, 3) := by decide +kernel
theorem dX9_build_104 : decode cX9_build 104 = .ok (.iastore, 1) := by decide +kernel
theorem dX9_build_105 : decode cX9_build 105 = .ok (.return_, 1) := by decide +kernel
theorem dX9_find_0 : decode cX9_find 0 = .ok (.iload_n 1, 1) := by decide +kernel
theorem dX9_find_1 : decode cX9_find 1 = .ok (.ifCond .lt 20, 3) := by decide +kernel
theorem dX9_find_4 : decode cX9_find 4 = .ok (.iload_n 1, 1) := by decide +kernel
theorem dX9_find_5 : decode cX9_find 5 = .ok (.aload_n 0, 1) := by decide +kernel
theorem dX9_find_6 : decode cX9_find 6 = .ok (.getfield 30, 3) := by decide +kernel
theorem dX9_find_9 : decode cX9_find 9 = .ok (.if_icmp .ge 12, 3) := by decide +kernel
theorem dX9_find_12 : decode cX9_find 12 = .ok (.aload_n 0, 1) := by decide +kernel
theorem dX9_find_13 : decode cX9_find 13 = .ok (.getfield 11, 3) := by decide +kernel
theorem dX9_find_16 : decode cX9_find 16 = .ok (.iload_n 1, 1) := by decide +kernel
theorem dX9_find_17 : decode cX9_find 17 = .ok (.aaload, 1) := by decide +kernel
theorem dX9_find_18 : decode cX9_find 18 = .ok (.goto 4, 3) := by decide +kernel
theorem dX9_find_21 : decode cX9_find 21 = .ok (.aconst_null, 1) := by decide +kernel
theorem dX9_find_22 : decode cX9_find 22 = .ok (.areturn, 1) := by decide +kernel
theorem dX9_size_0 : decode cX9_size 0 = .ok (.aload_n 0, 1) := by decide +kernel
theorem dX9_size_1 : decode cX9_size 1 = .ok (.getfield 30, 3) := by decide +kernel
theorem dX9_size_4 : decode cX9_size 4 = .ok (.ireturn, 1) := by decide +kernel
theorem dX9_time_0 : decode cX9_time 0 = .ok (.aload_n 0, 1) := by decide +kernel
theorem dX9_time_1 : decode cX9_time 1 = .ok (.getfield 41, 3) := by decide +kernel
theorem dX9_time_4 : decode cX9_time 4 = .ok (.ireturn, 1) := by decide +kernel
theorem dX9_pass_0 : decode cX9_pass 0 = .ok (.aload_n 0, 1) := by decide +kernel
theorem dX9_pass_1 : decode cX9_pass 1 = .ok (.getfield 36, 3) := by decide +kernel
theorem dX9_pass_4 : decode cX9_pass 4 = .ok (.ireturn, 1) := by decide +kernel
theorem dX9_turn_0 : decode cX9_turn 0 = .ok (.aload_n 0, 1) := by decide +kernel
theorem dX9_turn_1 : decode cX9_turn 1 = .ok (.getfield 40, 3) := by decide +kernel
theorem dX9_turn_4 : decode cX9_turn 4 = .ok (.ireturn, 1) := by decide +kernel
theorem dX9_passTime_0 : decode cX9_passTime 0 = .ok (.aload_n 0, 1) := by decide +kernel
theorem dX9_passTime_1 : decode cX9_passTime 1 = .ok (.dup, 1) := by decide +kernel
theorem dX9_passTime_2 : decode cX9_passTime 2 = .ok (.getfield 41, 3) := by decide +kernel
theorem dX9_passTime_5 : decode cX9_passTime 5 = .ok (.iload_n 1, 1) := by decide +kernel
theorem dX9_passTime_6 : decode cX9_passTime 6 = .ok (.iadd, 1) := by decide +kernel
theorem dX9_passTime_7 : decode cX9_passTime 7 = .ok (.putfield 41, 3) := by decide +kernel
theorem dX9_passTime_10 : decode cX9_passTime 10 = .ok (.return_, 1) := by decide +kernel
theorem dX9_wireTime_0 : decode cX9_wireTime 0 = .ok (.iload_n 1, 1) := by decide +kernel
theorem dX9_wireTime_1 : decode cX9_wireTime 1 = .ok (.ifCond .lt 20, 3) := by decide +kernel
theorem dX9_wireTime_4 : decode cX9_wireTime 4 = .ok (.iload_n 1, 1) := by decide +kernel
theorem dX9_wireTime_5 : decode cX9_wireTime 5 = .ok (.aload_n 0, 1) := by decide +kernel
theorem dX9_wireTime_6 : decode cX9_wireTime 6 = .ok (.getfield 30, 3) := by decide +kernel
theorem dX9_wireTime_9 : decode cX9_wireTime 9 = .ok (.if_icmp .gt 12, 3) := by decide +kernel
theorem dX9_wireTime_12 : decode cX9_wireTime 12 = .ok (.aload_n 0, 1) := by decide +kernel
theorem dX9_wireTime_13 : decode cX9_wireTime 13 = .ok (.getfield 17, 3) := by decide +kernel
theorem dX9_wireTime_16 : decode cX9_wireTime 16 = .ok (.iload_n 1, 1) := by decide +kernel
theorem dX9_wireTime_17 : decode cX9_wireTime 17 = .ok (.iaload, 1) := by decide +kernel
theorem dX9_wireTime_18 : decode cX9_wireTime 18 = .ok (.goto 4, 3) := by decide +kernel
theorem dX9_wireTime_21 : decode cX9_wireTime 21 = .ok (.iconst 0, 1) := by decide +kernel
theorem dX9_wireTime_22 : decode cX9_wireTime 22 = .ok (.ireturn, 1) := by decide +kernel
theorem dX9_wireTimes_0 : decode cX9_wireTimes 0 = .ok (.iconst 0, 1) := by decide +kernel
theorem dX9_wireTimes_1 : decode cX9_wireTimes 1 = .ok (.istore_n 3, 1) := by decide +kernel
theorem dX9_wireTimes_2 : decode cX9_wireTimes 2 = .ok (.iload_n 1, 1) := by decide +kernel
theorem dX9_wireTimes_3 : decode cX9_wireTimes 3 = .ok (.istore 4, 2) := by decide +kernel
theorem dX9_wireTimes_5 : decode cX9_wireTimes 5 = .ok (.iload 4, 2) := by decide +kernel
theorem dX9_wireTimes_7 : decode cX9_wireTimes 7 = .ok (.iload_n 2, 1) := by decide +kernel
theorem dX9_wireTimes_8 : decode cX9_wireTimes 8 = .ok (.if_icmp .gt 18, 3) := by decide +kernel
theorem dX9_wireTimes_11 : decode cX9_wireTimes 11 = .ok (.iload_n 3, 1) := by decide +kernel
theorem dX9_wireTimes_12 : decode cX9_wireTimes 12 = .ok (.aload_n 0, 1) := by decide +kernel
theorem dX9_wireTimes_13 : decode cX9_wireTimes 13 = .ok (.iload 4, 2) := by decide +kernel
theorem dX9_wireTimes_15 : decode cX9_wireTimes 15 = .ok (.invokevirtual 67, 3) := by decide +kernel
theorem dX9_wireTimes_18 : decode cX9_wireTimes 18 = .ok (.iadd, 1) := by decide +kernel
theorem dX9_wireTimes_19 : decode cX9_wireTimes 19 = .ok (.istore_n 3, 1) := by decide +kernel
theorem dX9_wireTimes_20 : decode cX9_wireTimes 20 = .ok (.iinc 4 1, 3) := by decide +kernel
theorem dX9_wireTimes_23 : decode cX9_wireTimes 23 = .ok (.goto (-18), 3) := by decide +kernel
theorem dX9_wireTimes_26 : decode cX9_wireTimes 26 = .ok (.iload_n 3, 1) := by decide +kernel
theorem dX9_wireTimes_27 : decode cX9_wireTimes 27 = .ok (.ireturn, 1) := by decide +kernel
theorem dX9_changeWire_0 : decode cX9_changeWire 0 = .ok (.iload_n 1, 1) := by decide +kernel
theorem dX9_changeWire_1 : decode cX9_changeWire 1 = .ok (.ifCond .lt 21, 3) := by decide +kernel
theorem dX9_changeWire_4 : decode cX9_changeWire 4 = .ok (.iload_n 1, 1) := by decide +kernel
theorem dX9_changeWire_5 : decode cX9_changeWire 5 = .ok (.aload_n 0, 1) := by decide +kernel
theorem dX9_changeWire_6 : decode cX9_changeWire 6 = .ok (.getfield 30, 3) := by decide +kernel
theorem dX9_changeWire_9 : decode cX9_changeWire 9 = .ok (.if_icmp .gt 13, 3) := by decide +kernel
theorem dX9_changeWire_12 : decode cX9_changeWire 12 = .ok (.aload_n 0, 1) := by decide +kernel
theorem dX9_changeWire_13 : decode cX9_changeWire 13 = .ok (.getfield 21, 3) := by decide +kernel
theorem dX9_changeWire_16 : decode cX9_changeWire 16 = .ok (.iload_n 1, 1) := by decide +kernel
theorem dX9_changeWire_17 : decode cX9_changeWire 17 = .ok (.iaload, 1) := by decide +kernel
theorem dX9_changeWire_18 : decode cX9_changeWire 18 = .ok (.iload_n 2, 1) := by decide +kernel
theorem dX9_changeWire_19 : decode cX9_changeWire 19 = .ok (.if_icmp .ne 5, 3) := by decide +kernel
theorem dX9_changeWire_22 : decode cX9_changeWire 22 = .ok (.iconst 0, 1) := by decide +kernel
theorem dX9_changeWire_23 : decode cX9_changeWire 23 = .ok (.ireturn, 1) := by decide +kernel
theorem dX9_changeWire_24 : decode cX9_changeWire 24 = .ok (.aload_n 0, 1) := by decide +kernel
theorem dX9_changeWire_25 : decode cX9_changeWire 25 = .ok (.getfield 21, 3) := by decide +kernel
theorem dX9_changeWire_28 : decode cX9_changeWire 28 = .ok (.iload_n 1, 1) := by decide +kernel
theorem dX9_changeWire_29 : decode cX9_changeWire 29 = .ok (.iload_n 2, 1) := by decide +kernel
theorem dX9_changeWire_30 : decode cX9_changeWire 30 = .ok (.iastore, 1) := by decide +kernel
theorem dX9_changeWire_31 : decode cX9_changeWire 31 = .ok (.iconst 1, 1) := by decide +kernel
theorem dX9_changeWire_32 : decode cX9_changeWire 32 = .ok (.ireturn, 1) := by decide +kernel
theorem dX9_cutWires_0 : decode cX9_cutWires 0 = .ok (.iconst 0, 1) := by decide +kernel
theorem dX9_cutWires_1 : decode cX9_cutWires 1 = .ok (.istore_n 1, 1) := by decide +kernel
theorem dX9_cutWires_2 : decode cX9_cutWires 2 = .ok (.iconst 0, 1) := by decide +kernel
theorem dX9_cutWires_3 : decode cX9_cutWires 3 = .ok (.istore_n 2, 1) := by decide +kernel
theorem dX9_cutWires_4 : decode cX9_cutWires 4 = .ok (.iload_n 2, 1) := by decide +kernel
theorem dX9_cutWires_5 : decode cX9_cutWires 5 = .ok (.aload_n 0, 1) := by decide +kernel
theorem dX9_cutWires_6 : decode cX9_cutWires 6 = .ok (.getfield 30, 3) := by decide +kernel
theorem dX9_cutWires_9 : decode cX9_cutWires 9 = .ok (.if_icmp .gt 18, 3) := by decide +kernel
theorem dX9_cutWires_12 : decode cX9_cutWires 12 = .ok (.iload_n 1, 1) := by decide +kernel
theorem dX9_cutWires_13 : decode cX9_cutWires 13 = .ok (.aload_n 0, 1) := by decide +kernel
theorem dX9_cutWires_14 : decode cX9_cutWires 14 = .ok (.getfield 21, 3) := by decide +kernel
theorem dX9_cutWires_17 : decode cX9_cutWires 17 = .ok (.iload_n 2, 1) := by decide +kernel
theorem dX9_cutWires_18 : decode cX9_cutWires 18 = .ok (.iaload, 1) := by decide +kernel
theorem dX9_cutWires_19 : decode cX9_cutWires 19 = .ok (.iadd, 1) := by decide +kernel
theorem dX9_cutWires_20 : decode cX9_cutWires 20 = .ok (.istore_n 1, 1) := by decide +kernel
theorem dX9_cutWires_21 : decode cX9_cutWires 21 = .ok (.iinc 2 1, 3) := by decide +kernel
theorem dX9_cutWires_24 : decode cX9_cutWires 24 = .ok (.goto (-20), 3) := by decide +kernel
theorem dX9_cutWires_27 : decode cX9_cutWires 27 = .ok (.iload_n 1, 1) := by decide +kernel
theorem dX9_cutWires_28 : decode cX9_cutWires 28 = .ok (.ireturn, 1) := by decide +kernel
theorem dX9_sizeOfA_0 : decode cX9_sizeOfA 0 = .ok (.iconst 0, 1) := by decide +kernel
theorem dX9_sizeOfA_1 : decode cX9_sizeOfA 1 = .ok (.istore_n 1, 1) := by decide +kernel
theorem dX9_sizeOfA_2 : decode cX9_sizeOfA 2 = .ok (.iload_n 1, 1) := by decide +kernel
theorem dX9_sizeOfA_3 : decode cX9_sizeOfA 3 = .ok (.aload_n 0, 1) := by decide +kernel
theorem dX9_sizeOfA_4 : decode cX9_sizeOfA 4 = .ok (.getfield 30, 3) := by decide +kernel
theorem dX9_sizeOfA_7 : decode cX9_sizeOfA 7 = .ok (.if_icmp .ge 21, 3) := by decide +kernel
theorem dX9_sizeOfA_10 : decode cX9_sizeOfA 10 = .ok (.aload_n 0, 1) := by decide +kernel
theorem dX9_sizeOfA_11 : decode cX9_sizeOfA 11 = .ok (.getfield 21, 3) := by decide +kernel
theorem dX9_sizeOfA_14 : decode cX9_sizeOfA 14 = .ok (.iload_n 1, 1) := by decide +kernel
theorem dX9_sizeOfA_15 : decode cX9_sizeOfA 15 = .ok (.iaload, 1) := by decide +kernel
theorem dX9_sizeOfA_16 : decode cX9_sizeOfA 16 = .ok (.iconst 1, 1) := by decide +kernel
theorem dX9_sizeOfA_17 : decode cX9_sizeOfA 17 = .ok (.if_icmp .ne 5, 3) := by decide +kernel
theorem dX9_sizeOfA_20 : decode cX9_sizeOfA 20 = .ok (.iload_n 1, 1) := by decide +kernel
theorem dX9_sizeOfA_21 : decode cX9_sizeOfA 21 = .ok (.ireturn, 1) := by decide +kernel
theorem dX9_sizeOfA_22 : decode cX9_sizeOfA 22 = .ok (.iinc 1 1, 3) := by decide +kernel
theorem dX9_sizeOfA_25 : decode cX9_sizeOfA 25 = .ok (.goto (-23), 3) := by decide +kernel
theorem dX9_sizeOfA_28 : decode cX9_sizeOfA 28 = .ok (.aload_n 0, 1) := by decide +kernel
theorem dX9_sizeOfA_29 : decode cX9_sizeOfA 29 = .ok (.getfield 30, 3) := by decide +kernel
theorem dX9_sizeOfA_32 : decode cX9_sizeOfA 32 = .ok (.ireturn, 1) := by decide +kernel
theorem dX9_firstOfB_0 : decode cX9_firstOfB 0 = .ok (.aload_n 0, 1) := by decide +kernel
theorem dX9_firstOfB_1 : decode cX9_firstOfB 1 = .ok (.getfield 30, 3) := by decide +kernel
theorem dX9_firstOfB_4 : decode cX9_firstOfB 4 = .ok (.istore_n 1, 1) := by decide +kernel
theorem dX9_firstOfB_5 : decode cX9_firstOfB 5 = .ok (.iload_n 1, 1) := by decide +kernel
theorem dX9_firstOfB_6 : decode cX9_firstOfB 6 = .ok (.ifCond .lt 21, 3) := by decide +kernel
theorem dX9_firstOfB_9 : decode cX9_firstOfB 9 = .ok (.aload_n 0, 1) := by decide +kernel
theorem dX9_firstOfB_10 : decode cX9_firstOfB 10 = .ok (.getfield 21, 3) := by decide +kernel
theorem dX9_firstOfB_13 : decode cX9_firstOfB 13 = .ok (.iload_n 1, 1) := by decide +kernel
theorem dX9_firstOfB_14 : decode cX9_firstOfB 14 = .ok (.iaload, 1) := by decide +kernel
theorem dX9_firstOfB_15 : decode cX9_firstOfB 15 = .ok (.iconst 1, 1) := by decide +kernel
theorem dX9_firstOfB_16 : decode cX9_firstOfB 16 = .ok (.if_icmp .ne 5, 3) := by decide +kernel
theorem dX9_firstOfB_19 : decode cX9_firstOfB 19 = .ok (.iload_n 1, 1) := by decide +kernel
theorem dX9_firstOfB_20 : decode cX9_firstOfB 20 = .ok (.ireturn, 1) := by decide +kernel
theorem dX9_firstOfB_21 : decode cX9_firstOfB 21 = .ok (.iinc 1 (-1), 3) := by decide +kernel
theorem dX9_firstOfB_24 : decode cX9_firstOfB 24 = .ok (.goto (-19), 3) := by decide +kernel
theorem dX9_firstOfB_27 : decode cX9_firstOfB 27 = .ok (.aload_n 0, 1) := by decide +kernel
theorem dX9_firstOfB_28 : decode cX9_firstOfB 28 = .ok (.getfield 30, 3) := by decide +kernel
theorem dX9_firstOfB_31 : decode cX9_firstOfB 31 = .ok (.ireturn, 1) := by decide +kernel
theorem dX9_sizeOfB_0 : decode cX9_sizeOfB 0 = .ok (.aload_n 0, 1) := by decide +kernel
theorem dX9_sizeOfB_1 : decode cX9_sizeOfB 1 = .ok (.getfield 30, 3) := by decide +kernel
theorem dX9_sizeOfB_4 : decode cX9_sizeOfB 4 = .ok (.aload_n 0, 1) := by decide +kernel
theorem dX9_sizeOfB_5 : decode cX9_sizeOfB 5 = .ok (.invokevirtual 71, 3) := by decide +kernel
theorem dX9_sizeOfB_8 : decode cX9_sizeOfB 8 = .ok (.isub, 1) := by decide +kernel
theorem dX9_sizeOfB_9 : decode cX9_sizeOfB 9 = .ok (.ireturn, 1) := by decide +kernel
theorem dX9_sideOf_0 : decode cX9_sideOf 0 = .ok (.iload_n 1, 1) := by decide +kernel
theorem dX9_sideOf_1 : decode cX9_sideOf 1 = .ok (.aload_n 0, 1) := by decide +kernel
theorem dX9_sideOf_2 : decode cX9_sideOf 2 = .ok (.invokevirtual 75, 3) := by decide +kernel
theorem dX9_sideOf_5 : decode cX9_sideOf 5 = .ok (.if_icmp .ge 5, 3) := by decide +kernel
theorem dX9_sideOf_8 : decode cX9_sideOf 8 = .ok (.iconst 1, 1) := by decide +kernel
theorem dX9_sideOf_9 : decode cX9_sideOf 9 = .ok (.ireturn, 1) := by decide +kernel
theorem dX9_sideOf_10 : decode cX9_sideOf 10 = .ok (.iload_n 1, 1) := by decide +kernel
theorem dX9_sideOf_11 : decode cX9_sideOf 11 = .ok (.aload_n 0, 1) := by decide +kernel
theorem dX9_sideOf_12 : decode cX9_sideOf 12 = .ok (.invokevirtual 71, 3) := by decide +kernel
theorem dX9_sideOf_15 : decode cX9_sideOf 15 = .ok (.if_icmp .lt 7, 3) := by decide +kernel
theorem dX9_sideOf_18 : decode cX9_sideOf 18 = .ok (.iconst 2, 1) := by decide +kernel
theorem dX9_sideOf_19 : decode cX9_sideOf 19 = .ok (.goto 4, 3) := by decide +kernel
theorem dX9_sideOf_22 : decode cX9_sideOf 22 = .ok (.iconst 0, 1) := by decide +kernel
theorem dX9_sideOf_23 : decode cX9_sideOf 23 = .ok (.ireturn, 1) := by decide +kernel
theorem dX9_isReached_0 : decode cX9_isReached 0 = .ok (.aload_n 0, 1) := by decide +kernel
theorem dX9_isReached_1 : decode cX9_isReached 1 = .ok (.iload_n 1, 1) := by decide +kernel
theorem dX9_isReached_2 : decode cX9_isReached 2 = .ok (.invokevirtual 78, 3) := by decide +kernel
theorem dX9_isReached_5 : decode cX9_isReached 5 = .ok (.astore_n 2, 1) := by decide +kernel
theorem dX9_isReached_6 : decode cX9_isReached 6 = .ok (.aload_n 2, 1) := by decide +kernel
theorem dX9_isReached_7 : decode cX9_isReached 7 = .ok (.ifnull 22, 3) := by decide +kernel
theorem dX9_isReached_10 : decode cX9_isReached 10 = .ok (.aload_n 2, 1) := by decide +kernel
theorem dX9_isReached_11 : decode cX9_isReached 11 = .ok (.getfield 82, 3) := by decide +kernel
theorem dX9_isReached_14 : decode cX9_isReached 14 = .ok (.ifCond .eq 15, 3) := by decide +kernel
theorem dX9_isReached_17 : decode cX9_isReached 17 = .ok (.aload_n 0, 1) := by decide +kernel
theorem dX9_isReached_18 : decode cX9_isReached 18 = .ok (.iload_n 1, 1) := by decide +kernel
theorem dX9_isReached_19 : decode cX9_isReached 19 = .ok (.invokevirtual 85, 3) := by decide +kernel
theorem dX9_isReached_22 : decode cX9_isReached 22 = .ok (.ifCond .eq 7, 3) := by decide +kernel
theorem dX9_isReached_25 : decode cX9_isReached 25 = .ok (.iconst 1, 1) := by decide +kernel
theorem dX9_isReached_26 : decode cX9_isReached 26 = .ok (.goto 4, 3) := by decide +kernel
theorem dX9_isReached_29 : decode cX9_isReached 29 = .ok (.iconst 0, 1) := by decide +kernel
theorem dX9_isReached_30 : decode cX9_isReached 30 = .ok (.ireturn, 1) := by decide +kernel
theorem dX9_timeOnA_0 : decode cX9_timeOnA 0 = .ok (.aload_n 0, 1) := by decide +kernel
theorem dX9_timeOnA_1 : decode cX9_timeOnA 1 = .ok (.getfield 41, 3) := by decide +kernel
theorem dX9_timeOnA_4 : decode cX9_timeOnA 4 = .ok (.aload_n 0, 1) := by decide +kernel
theorem dX9_timeOnA_5 : decode cX9_timeOnA 5 = .ok (.iconst 0, 1) := by decide +kernel
theorem dX9_timeOnA_6 : decode cX9_timeOnA 6 = .ok (.iload_n 1, 1) := by decide +kernel
theorem dX9_timeOnA_7 : decode cX9_timeOnA 7 = .ok (.invokevirtual 88, 3) := by decide +kernel
theorem dX9_timeOnA_10 : decode cX9_timeOnA 10 = .ok (.iadd, 1) := by decide +kernel
theorem dX9_timeOnA_11 : decode cX9_timeOnA 11 = .ok (.iload_n 1, 1) := by decide +kernel
theorem dX9_timeOnA_12 : decode cX9_timeOnA 12 = .ok (.aload_n 0, 1) := by decide +kernel
theorem dX9_timeOnA_13 : decode cX9_timeOnA 13 = .ok (.getfield 36, 3) := by decide +kernel
theorem dX9_timeOnA_16 : decode cX9_timeOnA 16 = .ok (.imul, 1) := by decide +kernel
theorem dX9_timeOnA_17 : decode cX9_timeOnA 17 = .ok (.iadd, 1) := by decide +kernel
theorem dX9_timeOnA_18 : decode cX9_timeOnA 18 = .ok (.ireturn, 1) := by decide +kernel
theorem dX9_timeOnB_0 : decode cX9_timeOnB 0 = .ok (.aload_n 0, 1) := by decide +kernel
theorem dX9_timeOnB_1 : decode cX9_timeOnB 1 = .ok (.invokevirtual 71, 3) := by decide +kernel
theorem dX9_timeOnB_4 : decode cX9_timeOnB 4 = .ok (.istore_n 2, 1) := by decide +kernel
theorem dX9_timeOnB_5 : decode cX9_timeOnB 5 = .ok (.aload_n 0, 1) := by decide +kernel
theorem dX9_timeOnB_6 : decode cX9_timeOnB 6 = .ok (.getfield 41, 3) := by decide +kernel
theorem dX9_timeOnB_9 : decode cX9_timeOnB 9 = .ok (.aload_n 0, 1) := by decide +kernel
theorem dX9_timeOnB_10 : decode cX9_timeOnB 10 = .ok (.iload_n 2, 1) := by decide +kernel
theorem dX9_timeOnB_11 : decode cX9_timeOnB 11 = .ok (.iconst 1, 1) := by decide +kernel
theorem dX9_timeOnB_12 : decode cX9_timeOnB 12 = .ok (.iadd, 1) := by decide +kernel
theorem dX9_timeOnB_13 : decode cX9_timeOnB 13 = .ok (.aload_n 0, 1) := by decide +kernel
theorem dX9_timeOnB_14 : decode cX9_timeOnB 14 = .ok (.getfield 30, 3) := by decide +kernel
theorem dX9_timeOnB_17 : decode cX9_timeOnB 17 = .ok (.invokevirtual 88, 3) := by decide +kernel
theorem dX9_timeOnB_20 : decode cX9_timeOnB 20 = .ok (.iadd, 1) := by decide +kernel
theorem dX9_timeOnB_21 : decode cX9_timeOnB 21 = .ok (.aload_n 0, 1) := by decide +kernel
theorem dX9_timeOnB_22 : decode cX9_timeOnB 22 = .ok (.getfield 40, 3) := by decide +kernel
theorem dX9_timeOnB_25 : decode cX9_timeOnB 25 = .ok (.aload_n 0, 1) := by decide +kernel
theorem dX9_timeOnB_26 : decode cX9_timeOnB 26 = .ok (.getfield 30, 3) := by decide +kernel
theorem dX9_timeOnB_29 : decode cX9_timeOnB 29 = .ok (.iload_n 2, 1) := by decide +kernel
theorem dX9_timeOnB_30 : decode cX9_timeOnB 30 = .ok (.isub, 1) := by decide +kernel
theorem dX9_timeOnB_31 : decode cX9_timeOnB 31 = .ok (.iconst 1, 1) := by decide +kernel
theorem dX9_timeOnB_32 : decode cX9_timeOnB 32 = .ok (.isub, 1) := by decide +kernel
theorem dX9_timeOnB_33 : decode cX9_timeOnB 33 = .ok (.imul, 1) := by decide +kernel
theorem dX9_timeOnB_34 : decode cX9_timeOnB 34 = .ok (.iadd, 1) := by decide +kernel
theorem dX9_timeOnB_35 : decode cX9_timeOnB 35 = .ok (.istore_n 3, 1) := by decide +kernel
theorem dX9_timeOnB_36 : decode cX9_timeOnB 36 = .ok (.iload_n 3, 1) := by decide +kernel
theorem dX9_timeOnB_37 : decode cX9_timeOnB 37 = .ok (.aload_n 0, 1) := by decide +kernel
theorem dX9_timeOnB_38 : decode cX9_timeOnB 38 = .ok (.iload_n 2, 1) := by decide +kernel
theorem dX9_timeOnB_39 : decode cX9_timeOnB 39 = .ok (.iconst 1, 1) := by decide +kernel
theorem dX9_timeOnB_40 : decode cX9_timeOnB 40 = .ok (.iadd, 1) := by decide +kernel
theorem dX9_timeOnB_41 : decode cX9_timeOnB 41 = .ok (.iload_n 1, 1) := by decide +kernel
theorem dX9_timeOnB_42 : decode cX9_timeOnB 42 = .ok (.invokevirtual 88, 3) := by decide +kernel
theorem dX9_timeOnB_45 : decode cX9_timeOnB 45 = .ok (.iadd, 1) := by decide +kernel
theorem dX9_timeOnB_46 : decode cX9_timeOnB 46 = .ok (.aload_n 0, 1) := by decide +kernel
theorem dX9_timeOnB_47 : decode cX9_timeOnB 47 = .ok (.getfield 36, 3) := by decide +kernel
theorem dX9_timeOnB_50 : decode cX9_timeOnB 50 = .ok (.iload_n 1, 1) := by decide +kernel
theorem dX9_timeOnB_51 : decode cX9_timeOnB 51 = .ok (.iload_n 2, 1) := by decide +kernel
theorem dX9_timeOnB_52 : decode cX9_timeOnB 52 = .ok (.isub, 1) := by decide +kernel
theorem dX9_timeOnB_53 : decode cX9_timeOnB 53 = .ok (.imul, 1) := by decide +kernel
theorem dX9_timeOnB_54 : decode cX9_timeOnB 54 = .ok (.iadd, 1) := by decide +kernel
theorem dX9_timeOnB_55 : decode cX9_timeOnB 55 = .ok (.ireturn, 1) := by decide +kernel
theorem dX9_trip_0 : decode cX9_trip 0 = .ok (.aload_n 0, 1) := by decide +kernel
theorem dX9_trip_1 : decode cX9_trip 1 = .ok (.invokevirtual 92, 3) := by decide +kernel
theorem dX9_trip_4 : decode cX9_trip 4 = .ok (.ifCond .ne 23, 3) := by decide +kernel
theorem dX9_trip_7 : decode cX9_trip 7 = .ok (.aload_n 0, 1) := by decide +kernel
theorem dX9_trip_8 : decode cX9_trip 8 = .ok (.iconst 0, 1) := by decide +kernel
theorem dX9_trip_9 : decode cX9_trip 9 = .ok (.aload_n 0, 1) := by decide +kernel
theorem dX9_trip_10 : decode cX9_trip 10 = .ok (.getfield 30, 3) := by decide +kernel
theorem dX9_trip_13 : decode cX9_trip 13 = .ok (.invokevirtual 88, 3) := by decide +kernel
theorem dX9_trip_16 : decode cX9_trip 16 = .ok (.aload_n 0, 1) := by decide +kernel
theorem dX9_trip_17 : decode cX9_trip 17 = .ok (.getfield 36, 3) := by decide +kernel
theorem dX9_trip_20 : decode cX9_trip 20 = .ok (.aload_n 0, 1) := by decide +kernel
theorem dX9_trip_21 : decode cX9_trip 21 = .ok (.getfield 30, 3) := by decide +kernel
theorem dX9_trip_24 : decode cX9_trip 24 = .ok (.imul, 1) := by decide +kernel
theorem dX9_trip_25 : decode cX9_trip 25 = .ok (.iadd, 1) := by decide +kernel
theorem dX9_trip_26 : decode cX9_trip 26 = .ok (.ireturn, 1) := by decide +kernel
theorem dX9_trip_27 : decode cX9_trip 27 = .ok (.aload_n 0, 1) := by decide +kernel
theorem dX9_trip_28 : decode cX9_trip 28 = .ok (.aload_n 0, 1) := by decide +kernel
theorem dX9_trip_29 : decode cX9_trip 29 = .ok (.invokevirtual 75, 3) := by decide +kernel
theorem dX9_trip_32 : decode cX9_trip 32 = .ok (.aload_n 0, 1) := by decide +kernel
theorem dX9_trip_33 : decode cX9_trip 33 = .ok (.iconst 0, 1) := by decide +kernel
theorem dX9_trip_34 : decode cX9_trip 34 = .ok (.aload_n 0, 1) := by decide +kernel
theorem dX9_trip_35 : decode cX9_trip 35 = .ok (.invokevirtual 75, 3) := by decide +kernel
theorem dX9_trip_38 : decode cX9_trip 38 = .ok (.iconst 1, 1) := by decide +kernel
theorem dX9_trip_39 : decode cX9_trip 39 = .ok (.isub, 1) := by decide +kernel
theorem dX9_trip_40 : decode cX9_trip 40 = .ok (.invokevirtual 88, 3) := by decide +kernel
theorem dX9_trip_43 : decode cX9_trip 43 = .ok (.invokevirtual 95, 3) := by decide +kernel
theorem dX9_trip_46 : decode cX9_trip 46 = .ok (.istore_n 1, 1) := by decide +kernel
theorem dX9_trip_47 : decode cX9_trip 47 = .ok (.aload_n 0, 1) := by decide +kernel
theorem dX9_trip_48 : decode cX9_trip 48 = .ok (.aload_n 0, 1) := by decide +kernel
theorem dX9_trip_49 : decode cX9_trip 49 = .ok (.invokevirtual 98, 3) := by decide +kernel
theorem dX9_trip_52 : decode cX9_trip 52 = .ok (.aload_n 0, 1) := by decide +kernel
theorem dX9_trip_53 : decode cX9_trip 53 = .ok (.aload_n 0, 1) := by decide +kernel
theorem dX9_trip_54 : decode cX9_trip 54 = .ok (.invokevirtual 71, 3) := by decide +kernel
theorem dX9_trip_57 : decode cX9_trip 57 = .ok (.iconst 1, 1) := by decide +kernel
theorem dX9_trip_58 : decode cX9_trip 58 = .ok (.iadd, 1) := by decide +kernel
theorem dX9_trip_59 : decode cX9_trip 59 = .ok (.aload_n 0, 1) := by decide +kernel
theorem dX9_trip_60 : decode cX9_trip 60 = .ok (.getfield 30, 3) := by decide +kernel
theorem dX9_trip_63 : decode cX9_trip 63 = .ok (.invokevirtual 88, 3) := by decide +kernel
theorem dX9_trip_66 : decode cX9_trip 66 = .ok (.invokevirtual 95, 3) := by decide +kernel
theorem dX9_trip_69 : decode cX9_trip 69 = .ok (.istore_n 2, 1) := by decide +kernel
theorem dX9_trip_70 : decode cX9_trip 70 = .ok (.iload_n 1, 1) := by decide +kernel
theorem dX9_trip_71 : decode cX9_trip 71 = .ok (.iload_n 2, 1) := by decide +kernel
theorem dX9_trip_72 : decode cX9_trip 72 = .ok (.invokestatic 101, 3) := by decide +kernel
theorem dX9_trip_75 : decode cX9_trip 75 = .ok (.ireturn, 1) := by decide +kernel
theorem dX9_sideTrip_0 : decode cX9_sideTrip 0 = .ok (.iload_n 1, 1) := by decide +kernel
theorem dX9_sideTrip_1 : decode cX9_sideTrip 1 = .ok (.ifCond .ne 7, 3) := by decide +kernel
theorem dX9_sideTrip_4 : decode cX9_sideTrip 4 = .ok (.iconst 0, 1) := by decide +kernel
theorem dX9_sideTrip_5 : decode cX9_sideTrip 5 = .ok (.goto 22, 3) := by decide +kernel
theorem dX9_sideTrip_8 : decode cX9_sideTrip 8 = .ok (.iconst 2, 1) := by decide +kernel
theorem dX9_sideTrip_9 : decode cX9_sideTrip 9 = .ok (.iload_n 2, 1) := by decide +kernel
theorem dX9_sideTrip_10 : decode cX9_sideTrip 10 = .ok (.imul, 1) := by decide +kernel
theorem dX9_sideTrip_11 : decode cX9_sideTrip 11 = .ok (.iload_n 1, 1) := by decide +kernel
theorem dX9_sideTrip_12 : decode cX9_sideTrip 12 = .ok (.aload_n 0, 1) := by decide +kernel
theorem dX9_sideTrip_13 : decode cX9_sideTrip 13 = .ok (.getfield 36, 3) := by decide +kernel
theorem dX9_sideTrip_16 : decode cX9_sideTrip 16 = .ok (.imul, 1) := by decide +kernel
theorem dX9_sideTrip_17 : decode cX9_sideTrip 17 = .ok (.iadd, 1) := by decide +kernel
theorem dX9_sideTrip_18 : decode cX9_sideTrip 18 = .ok (.iload_n 1, 1) := by decide +kernel
theorem dX9_sideTrip_19 : decode cX9_sideTrip 19 = .ok (.iconst 1, 1) := by decide +kernel
theorem dX9_sideTrip_20 : decode cX9_sideTrip 20 = .ok (.isub, 1) := by decide +kernel
theorem dX9_sideTrip_21 : decode cX9_sideTrip 21 = .ok (.aload_n 0, 1) := by decide +kernel
theorem dX9_sideTrip_22 : decode cX9_sideTrip 22 = .ok (.getfield 40, 3) := by decide +kernel
theorem dX9_sideTrip_25 : decode cX9_sideTrip 25 = .ok (.imul, 1) := by decide +kernel
theorem dX9_sideTrip_26 : decode cX9_sideTrip 26 = .ok (.iadd, 1) := by decide +kernel
theorem dX9_sideTrip_27 : decode cX9_sideTrip 27 = .ok (.ireturn, 1) := by decide +kernel
theorem dX9_isTaken_0 : decode cX9_isTaken 0 = .ok (.iconst 0, 1) := by decide +kernel
theorem dX9_isTaken_1 : decode cX9_isTaken 1 = .ok (.istore 5, 2) := by decide +kernel
theorem dX9_isTaken_3 : decode cX9_isTaken 3 = .ok (.iload 5, 2) := by decide +kernel
theorem dX9_isTaken_5 : decode cX9_isTaken 5 = .ok (.aload_n 0, 1) := by decide +kernel
theorem dX9_isTaken_6 : decode cX9_isTaken 6 = .ok (.getfield 30, 3) := by decide +kernel
theorem dX9_isTaken_9 : decode cX9_isTaken 9 = .ok (.if_icmp .ge 37, 3) := by decide +kernel
theorem dX9_isTaken_12 : decode cX9_isTaken 12 = .ok (.iload 5, 2) := by decide +kernel
theorem dX9_isTaken_14 : decode cX9_isTaken 14 = .ok (.iload_n 1, 1) := by decide +kernel
theorem dX9_isTaken_15 : decode cX9_isTaken 15 = .ok (.if_icmp .eq 25, 3) := by decide +kernel
theorem dX9_isTaken_18 : decode cX9_isTaken 18 = .ok (.aload_n 0, 1) := by decide +kernel
theorem dX9_isTaken_19 : decode cX9_isTaken 19 = .ok (.getfield 11, 3) := by decide +kernel
theorem dX9_isTaken_22 : decode cX9_isTaken 22 = .ok (.iload 5, 2) := by decide +kernel
theorem dX9_isTaken_24 : decode cX9_isTaken 24 = .ok (.aaload, 1) := by decide +kernel
theorem dX9_isTaken_25 : decode cX9_isTaken 25 = .ok (.iload_n 2, 1) := by decide +kernel
theorem dX9_isTaken_26 : decode cX9_isTaken 26 = .ok (.invokevirtual 106, 3) := by decide +kernel
theorem dX9_isTaken_29 : decode cX9_isTaken 29 = .ok (.iload_n 3, 1) := by decide +kernel
theorem dX9_isTaken_30 : decode cX9_isTaken 30 = .ok (.iload 4, 2) := by decide +kernel
theorem dX9_isTaken_32 : decode cX9_isTaken 32 = .ok (.invokevirtual 110, 3) := by decide +kernel
theorem dX9_isTaken_35 : decode cX9_isTaken 35 = .ok (.ifCond .eq 5, 3) := by decide +kernel
theorem dX9_isTaken_38 : decode cX9_isTaken 38 = .ok (.iconst 1, 1) := by decide +kernel
theorem dX9_isTaken_39 : decode cX9_isTaken 39 = .ok (.ireturn, 1) := by decide +kernel
theorem dX9_isTaken_40 : decode cX9_isTaken 40 = .ok (.iinc 5 1, 3) := by decide +kernel
theorem dX9_isTaken_43 : decode cX9_isTaken 43 = .ok (.goto (-40), 3) := by decide +kernel
theorem dX9_isTaken_46 : decode cX9_isTaken 46 = .ok (.iconst 0, 1) := by decide +kernel
theorem dX9_isTaken_47 : decode cX9_isTaken 47 = .ok (.ireturn, 1) := by decide +kernel
theorem dX10_init_0 : decode cX10_init 0 = .ok (.aload_n 0, 1) := by decide +kernel
theorem dX10_init_1 : decode cX10_init 1 = .ok (.invokespecial 3, 3) := by decide +kernel
theorem dX10_init_4 : decode cX10_init 4 = .ok (.aload_n 0, 1) := by decide +kernel
theorem dX10_init_5 : decode cX10_init 5 = .ok (.sipush 200, 3) := by decide +kernel
theorem dX10_init_8 : decode cX10_init 8 = .ok (.newarray .char, 2) := by decide +kernel
theorem dX10_init_10 : decode cX10_init 10 = .ok (.putfield 9, 3) := by decide +kernel
theorem dX10_init_13 : decode cX10_init 13 = .ok (.aload_n 0, 1) := by decide +kernel
theorem dX10_init_14 : decode cX10_init 14 = .ok (.bipush 8, 2) := by decide +kernel
theorem dX10_init_16 : decode cX10_init 16 = .ok (.newarray .int, 2) := by decide +kernel
theorem dX10_init_18 : decode cX10_init 18 = .ok (.putfield 15, 3) := by decide +kernel
theorem dX10_init_21 : decode cX10_init 21 = .ok (.aload_n 0, 1) := by decide +kernel
theorem dX10_init_22 : decode cX10_init 22 = .ok (.bipush 8, 2) := by decide +kernel
theorem dX10_init_24 : decode cX10_init 24 = .ok (.newarray .int, 2) := by decide +kernel
theorem dX10_init_26 : decode cX10_init 26 = .ok (.putfield 19, 3) := by decide +kernel
theorem dX10_init_29 : decode cX10_init 29 = .ok (.aload_n 0, 1) := by decide +kernel
theorem dX10_init_30 : decode cX10_init 30 = .ok (.bipush 8, 2) := by decide +kernel
theorem dX10_init_32 : decode cX10_init 32 = .ok (.newarray .int, 2) := by decide +kernel
theorem dX10_init_34 : decode cX10_init 34 = .ok (.putfield 22, 3) := by decide +kernel
theorem dX10_init_37 : decode cX10_init 37 = .ok (.aload_n 0, 1) := by decide +kernel
theorem dX10_init_38 : decode cX10_init 38 = .ok (.bipush 8, 2) := by decide +kernel
theorem dX10_init_40 : decode cX10_init 40 = .ok (.newarray .int, 2) := by decide +kernel
theorem dX10_init_42 : decode cX10_init 42 = .ok (.putfield 25, 3) := by decide +kernel
theorem dX10_init_45 : decode cX10_init 45 = .ok (.return_, 1) := by decide +kernel
theorem dX10_append_0 : decode cX10_append 0 = .ok (.aload_n 0, 1) := by decide +kernel
theorem dX10_append_1 : decode cX10_append 1 = .ok (.getfield 28, 3) := by decide +kernel
theorem dX10_append_4 : decode cX10_append 4 = .ok (.sipush 200, 3) := by decide +kernel
theorem dX10_append_7 : decode cX10_append 7 = .ok (.if_icmp .lt 5, 3) := by decide +kernel
theorem dX10_append_10 : decode cX10_append 10 = .ok (.iconst 0, 1) := by decide +kernel
theorem dX10_append_11 : decode cX10_append 11 = .ok (.ireturn, 1) := by decide +kernel
theorem dX10_append_12 : decode cX10_append 12 = .ok (.aload_n 0, 1) := by decide +kernel
theorem dX10_append_13 : decode cX10_append 13 = .ok (.getfield 9, 3) := by decide +kernel
theorem dX10_append_16 : decode cX10_append 16 = .ok (.aload_n 0, 1) := by decide +kernel
theorem dX10_append_17 : decode cX10_append 17 = .ok (.getfield 28, 3) := by decide +kernel
theorem dX10_append_20 : decode cX10_append 20 = .ok (.iload_n 1, 1) := by decide +kernel
theorem dX10_append_21 : decode cX10_append 21 = .ok (.castore, 1) := by decide +kernel
theorem dX10_append_22 : decode cX10_append 22 = .ok (.aload_n 0, 1) := by decide +kernel
theorem dX10_append_23 : decode cX10_append 23 = .ok (.dup, 1) := by decide +kernel
theorem dX10_append_24 : decode cX10_append 24 = .ok (.getfield 28, 3) := by decide +kernel
theorem dX10_append_27 : decode cX10_append 27 = .ok (.iconst 1, 1) := by decide +kernel
theorem dX10_append_28 : decode cX10_append 28 = .ok (.iadd, 1) := by decide +kernel
theorem dX10_append_29 : decode cX10_append 29 = .ok (.putfield 28, 3) := by decide +kernel
theorem dX10_append_32 : decode cX10_append 32 = .ok (.iconst 1, 1) := by decide +kernel
theorem dX10_append_33 : decode cX10_append 33 = .ok (.ireturn, 1) := by decide +kernel
theorem dX10_empty_0 : decode cX10_empty 0 = .ok (.aload_n 0, 1) := by decide +kernel
theorem dX10_empty_1 : decode cX10_empty 1 = .ok (.iconst 0, 1) := by decide +kernel
theorem dX10_empty_2 : decode cX10_empty 2 = .ok (.putfield 28, 3) := by decide +kernel
theorem dX10_empty_5 : decode cX10_empty 5 = .ok (.return_, 1) := by decide +kernel
theorem dX10_length_0 : decode cX10_length 0 = .ok (.aload_n 0, 1) := by decide +kernel
theorem dX10_length_1 : decode cX10_length 1 = .ok (.getfield 28, 3) := by decide +kernel
theorem dX10_length_4 : decode cX10_length 4 = .ok (.ireturn, 1) := by decide +kernel
theorem dX10_devices_0 : decode cX10_devices 0 = .ok (.aload_n 0, 1) := by decide +kernel
theorem dX10_devices_1 : decode cX10_devices 1 = .ok (.getfield 32, 3) := by decide +kernel
theorem dX10_devices_4 : decode cX10_devices 4 = .ok (.ireturn, 1) := by decide +kernel
theorem dX10_readRing_0 : decode cX10_readRing 0 = .ok (.aload_n 0, 1) := by decide +kernel
theorem dX10_readRing_1 : decode cX10_readRing 1 = .ok (.iconst 0, 1) := by decide +kernel
theorem dX10_readRing_2 : decode cX10_readRing 2 = .ok (.putfield 32, 3) := by decide +kernel
theorem dX10_readRing_5 : decode cX10_readRing 5 = .ok (.aload_n 0, 1) := by decide +kernel
theorem dX10_readRing_6 : decode cX10_readRing 6 = .ok (.iconst 1, 1) := by decide +kernel
theorem dX10_readRing_7 : decode cX10_readRing 7 = .ok (.putfield 35, 3) := by decide +kernel
theorem dX10_readRing_10 : decode cX10_readRing 10 = .ok (.aload_n 0, 1) := by decide +kernel
theorem dX10_readRing_11 : decode cX10_readRing 11 = .ok (.iconst 2, 1) := by decide +kernel
theorem dX10_readRing_12 : decode cX10_readRing 12 = .ok (.putfield 38, 3) := by decide +kernel
theorem dX10_readRing_15 : decode cX10_readRing 15 = .ok (.aload_n 0, 1) := by decide +kernel
theorem dX10_readRing_16 : decode cX10_readRing 16 = .ok (.iconst 1, 1) := by decide +kernel
theorem dX10_readRing_17 : decode cX10_readRing 17 = .ok (.putfield 41, 3) := by decide +kernel
theorem dX10_readRing_20 : decode cX10_readRing 20 = .ok (.iconst 0, 1) := by decide +kernel
theorem dX10_readRing_21 : decode cX10_readRing 21 = .ok (.istore_n 1, 1) := by decide +kernel
theorem dX10_readRing_22 : decode cX10_readRing 22 = .ok (.iconst 0, 1) := by decide +kernel
theorem dX10_readRing_23 : decode cX10_readRing 23 = .ok (.istore_n 2, 1) := by decide +kernel
theorem dX10_readRing_24 : decode cX10_readRing 24 = .ok (.iload_n 2, 1) := by decide +kernel
theorem dX10_readRing_25 : decode cX10_readRing 25 = .ok (.sipush 200, 3) := by decide +kernel
theorem dX10_readRing_28 : decode cX10_readRing 28 = .ok (.if_icmp .ge 47, 3) := by decide +kernel
theorem dX10_readRing_31 : decode cX10_readRing 31 = .ok (.iload_n 1, 1) := by decide +kernel
theorem dX10_readRing_32 : decode cX10_readRing 32 = .ok (.aload_n 0, 1) := by decide +kernel
theorem dX10_readRing_33 : decode cX10_readRing 33 = .ok (.getfield 28, 3) := by decide +kernel
theorem dX10_readRing_36 : decode cX10_readRing 36 = .ok (.if_icmp .ge 39, 3) := by decide +kernel
theorem dX10_readRing_39 : decode cX10_readRing 39 = .ok (.aload_n 0, 1) := by decide +kernel
theorem dX10_readRing_40 : decode cX10_readRing 40 = .ok (.iload_n 1, 1) := by decide +kernel
theorem dX10_readRing_41 : decode cX10_readRing 41 = .ok (.invokevirtual 44, 3) := by decide +kernel
theorem dX10_readRing_44 : decode cX10_readRing 44 = .ok (.ifCond .eq 9, 3) := by decide +kernel
theorem dX10_readRing_47 : decode cX10_readRing 47 = .ok (.iinc 1 9, 3) := by decide +kernel
theorem dX10_readRing_50 : decode cX10_readRing 50 = .ok (.goto 19, 3) := by decide +kernel
theorem dX10_readRing_53 : decode cX10_readRing 53 = .ok (.aload_n 0, 1) := by decide +kernel
theorem dX10_readRing_54 : decode cX10_readRing 54 = .ok (.iload_n 1, 1) := by decide +kernel
theorem dX10_readRing_55 : decode cX10_readRing 55 = .ok (.invokevirtual 48, 3) := by decide +kernel
theorem dX10_readRing_58 : decode cX10_readRing 58 = .ok (.ifCond .eq 9, 3) := by decide +kernel
theorem dX10_readRing_61 : decode cX10_readRing 61 = .ok (.iinc 1 5, 3) := by decide +kernel
theorem dX10_readRing_64 : decode cX10_readRing 64 = .ok (.goto 5, 3) := by decide +kernel
theorem dX10_readRing_67 : decode cX10_readRing 67 = .ok (.iload_n 1, 1) := by decide +kernel
theorem dX10_readRing_68 : decode cX10_readRing 68 = .ok (.ireturn, 1) := by decide +kernel
theorem dX10_readRing_69 : decode cX10_readRing 69 = .ok (.iinc 2 1, 3) := by decide +kernel
theorem dX10_readRing_72 : decode cX10_readRing 72 = .ok (.goto (-48), 3) := by decide +kernel
theorem dX10_readRing_75 : decode cX10_readRing 75 = .ok (.bipush (-4), 2) := by decide +kernel
theorem dX10_readRing_77 : decode cX10_readRing 77 = .ok (.ireturn, 1) := by decide +kernel
theorem dX10_readDevice_0 : decode cX10_readDevice 0 = .ok (.aload_n 0, 1) := by decide +kernel
theorem dX10_readDevice_1 : decode cX10_readDevice 1 = .ok (.iload_n 1, 1) := by decide +kernel
theorem dX10_readDevice_2 : decode cX10_readDevice 2 = .ok (.iconst 1, 1) := by decide +kernel
theorem dX10_readDevice_3 : decode cX10_readDevice 3 = .ok (.iadd, 1) := by decide +kernel
theorem dX10_readDevice_4 : decode cX10_readDevice 4 = .ok (.iconst 2, 1) := by decide +kernel
theorem dX10_readDevice_5 : decode cX10_readDevice 5 = .ok (.invokevirtual 51, 3) := by decide +kernel
theorem dX10_readDevice_8 : decode cX10_readDevice 8 = .ok (.istore_n 2, 1) := by decide +kernel
theorem dX10_readDevice_9 : decode cX10_readDevice 9 = .ok (.aload_n 0, 1) := by decide +kernel
theorem dX10_readDevice_10 : decode cX10_readDevice 10 = .ok (.iload_n 1, 1) := by decide +kernel
theorem dX10_readDevice_11 : decode cX10_readDevice 11 = .ok (.iconst 3, 1) := by decide +kernel
theorem dX10_readDevice_12 : decode cX10_readDevice 12 = .ok (.iadd, 1) := by decide +kernel
theorem dX10_readDevice_13 : decode cX10_readDevice 13 = .ok (.iconst 1, 1) := by decide +kernel
theorem dX10_readDevice_14 : decode cX10_readDevice 14 = .ok (.invokevirtual 51, 3) := by decide +kernel
theorem dX10_readDevice_17 : decode cX10_readDevice 17 = .ok (.istore_n 3, 1) := by decide +kernel
theorem dX10_readDevice_18 : decode cX10_readDevice 18 = .ok (.aload_n 0, 1) := by decide +kernel
theorem dX10_readDevice_19 : decode cX10_readDevice 19 = .ok (.iload_n 1, 1) := by decide +kernel
theorem dX10_readDevice_20 : decode cX10_readDevice 20 = .ok (.iconst 4, 1) := by decide +kernel
theorem dX10_readDevice_21 : decode cX10_readDevice 21 = .ok (.iadd, 1) := by decide +kernel
theorem dX10_readDevice_22 : decode cX10_readDevice 22 = .ok (.iconst 3, 1) := by decide +kernel
theorem dX10_readDevice_23 : decode cX10_readDevice 23 = .ok (.invokevirtual 51, 3) := by decide +kernel
theorem dX10_readDevice_26 : decode cX10_readDevice 26 = .ok (.istore 4, 2) := by decide +kernel
theorem dX10_readDevice_28 : decode cX10_readDevice 28 = .ok (.aload_n 0, 1) := by decide +kernel
theorem dX10_readDevice_29 : decode cX10_readDevice 29 = .ok (.iload_n 1, 1) := by decide +kernel
theorem dX10_readDevice_30 : decode cX10_readDevice 30 = .ok (.bipush 7, 2) := by decide +kernel
theorem dX10_readDevice_32 : decode cX10_readDevice 32 = .ok (.iadd, 1) := by decide +kernel
theorem dX10_readDevice_33 : decode cX10_readDevice 33 = .ok (.iconst 1, 1) := by decide +kernel
theorem dX10_readDevice_34 : decode cX10_readDevice 34 = .ok (.invokevirtual 51, 3) := by decide +kernel
theorem dX10_readDevice_37 : decode cX10_readDevice 37 = .ok (.istore 5, 2) := by decide +kernel
theorem dX10_readDevice_39 : decode cX10_readDevice 39 = .ok (.aload_n 0, 1) := by decide +kernel
theorem dX10_readDevice_40 : decode cX10_readDevice 40 = .ok (.iload_n 1, 1) := by decide +kernel
theorem dX10_readDevice_41 : decode cX10_readDevice 41 = .ok (.bipush 100, 2) := by decide +kernel
theorem dX10_readDevice_43 : decode cX10_readDevice 43 = .ok (.invokevirtual 55, 3) := by decide +kernel
theorem dX10_readDevice_46 : decode cX10_readDevice 46 = .ok (.ifCond .eq 31, 3) := by decide +kernel
theorem dX10_readDevice_49 : decode cX10_readDevice 49 = .ok (.aload_n 0, 1) := by decide +kernel
theorem dX10_readDevice_50 : decode cX10_readDevice 50 = .ok (.iload_n 1, 1) := by decide +kernel
theorem dX10_readDevice_51 : decode cX10_readDevice 51 = .ok (.bipush 8, 2) := by decide +kernel
theorem dX10_readDevice_53 : decode cX10_readDevice 53 = .ok (.iadd, 1) := by decide +kernel
theorem dX10_readDevice_54 : decode cX10_readDevice 54 = .ok (.bipush 59, 2) := by decide +kernel
theorem dX10_readDevice_56 : decode cX10_readDevice 56 = .ok (.invokevirtual 55, 3) := by decide +kernel
theorem dX10_readDevice_59 : decode cX10_readDevice 59 = .ok (.ifCond .eq 18, 3) := by decide +kernel
theorem dX10_readDevice_62 : decode cX10_readDevice 62 = .ok (.iload_n 2, 1) := by decide +kernel
theorem dX10_readDevice_63 : decode cX10_readDevice 63 = .ok (.iconst 1, 1) := by decide +kernel
theorem dX10_readDevice_64 : decode cX10_readDevice 64 = .ok (.if_icmp .lt 13, 3) := by decide +kernel
theorem dX10_readDevice_67 : decode cX10_readDevice 67 = .ok (.iload_n 3, 1) := by decide +kernel
theorem dX10_readDevice_68 : decode cX10_readDevice 68 = .ok (.iconst 1, 1) := by decide +kernel
theorem dX10_readDevice_69 : decode cX10_readDevice 69 = .ok (.if_icmp .lt 8, 3) := by decide +kernel
theorem dX10_readDevice_72 : decode cX10_readDevice 72 = .ok (.iload 4, 2) := by decide +kernel
theorem dX10_readDevice_74 : decode cX10_readDevice 74 = .ok (.ifCond .ge 5, 3) := by decide +kernel
theorem dX10_readDevice_77 : decode cX10_readDevice 77 = .ok (.iconst 0, 1) := by decide +kernel
theorem dX10_readDevice_78 : decode cX10_readDevice 78 = .ok (.ireturn, 1) := by decide +kernel
theorem dX10_readDevice_79 : decode cX10_readDevice 79 = .ok (.iload 5, 2) := by decide +kernel
theorem dX10_readDevice_81 : decode cX10_readDevice 81 = .ok (.iconst 0, 1) := by decide +kernel
theorem dX10_readDevice_82 : decode cX10_readDevice 82 = .ok (.bipush 8, 2) := by decide +kernel
theorem dX10_readDevice_84 : decode cX10_readDevice 84 = .ok (.invokestatic 59, 3) := by decide +kernel
theorem dX10_readDevice_87 : decode cX10_readDevice 87 = .ok (.ifCond .eq 20, 3) := by decide +kernel
theorem dX10_readDevice_90 : decode cX10_readDevice 90 = .ok (.aload_n 0, 1) := by decide +kernel
theorem dX10_readDevice_91 : decode cX10_readDevice 91 = .ok (.getfield 32, 3) := by decide +kernel
theorem dX10_readDevice_94 : decode cX10_readDevice 94 = .ok (.bipush 8, 2) := by decide +kernel
theorem dX10_readDevice_96 : decode cX10_readDevice 96 = .ok (.if_icmp .ge 11, 3) := by decide +kernel
theorem dX10_readDevice_99 : decode cX10_readDevice 99 = .ok (.aload_n 0, 1) := by decide +kernel
theorem dX10_readDevice_100 : decode cX10_readDevice 100 = .ok (.iload_n 2, 1) := by decide +kernel
theorem dX10_readDevice_101 : decode cX10_readDevice 101 = .ok (.invokevirtual 63, 3) := by decide +kernel
theorem dX10_readDevice_104 : decode cX10_readDevice 104 = .ok (.ifCond .eq 5, 3) := by decide +kernel
theorem dX10_readDevice_107 : decode cX10_readDevice 107 = .ok (.iconst 0, 1) := by decide +kernel
theorem dX10_readDevice_108 : decode cX10_readDevice 108 = .ok (.ireturn, 1) := by decide +kernel
theorem dX10_readDevice_109 : decode cX10_readDevice 109 = .ok (.aload_n 0, 1) := by decide +kernel
theorem dX10_readDevice_110 : decode cX10_readDevice 110 = .ok (.getfield 15, 3) := by decide +kernel
theorem dX10_readDevice_113 : decode cX10_readDevice 113 = .ok (.aload_n 0, 1) := by decide +kernel
theorem dX10_readDevice_114 : decode cX10_readDevice 114 = .ok (.getfield 32, 3) := by decide +kernel
theorem dX10_readDevice_117 : decode cX10_readDevice 117 = .ok (.iload_n 2, 1) := by decide +kernel
theorem dX10_readDevice_118 : decode cX10_readDevice 118 = .ok (.iastore, 1) := by decide +kernel
theorem dX10_readDevice_119 : decode cX10_readDevice 119 = .ok (.aload_n 0, 1) := by decide +kernel
theorem dX10_readDevice_120 : decode cX10_readDevice 120 = .ok (.getfield 19, 3) := by decide +kernel
theorem dX10_readDevice_123 : decode cX10_readDevice 123 = .ok (.aload_n 0, 1) := by decide +kernel
theorem dX10_readDevice_124 : decode cX10_readDevice 124 = .ok (.getfield 32, 3) := by decide +kernel
theorem dX10_readDevice_127 : decode cX10_readDevice 127 = .ok (.iload_n 3, 1) := by decide +kernel
theorem dX10_readDevice_128 : decode cX10_readDevice 128 = .ok (.iastore, 1) := by decide +kernel
theorem dX10_readDevice_129 : decode cX10_readDevice 129 = .ok (.aload_n 0, 1) := by decide +kernel
theorem dX10_readDevice_130 : decode cX10_readDevice 130 = .ok (.getfield 22, 3) := by decide +kernel
theorem dX10_readDevice_133 : decode cX10_readDevice 133 = .ok (.aload_n 0, 1) := by decide +kernel
theorem dX10_readDevice_134 : decode cX10_readDevice 134 = .ok (.getfield 32, 3) := by decide +kernel
theorem dX10_readDevice_137 : decode cX10_readDevice 137 = .ok (.iload 4, 2) := by decide +kernel
theorem dX10_readDevice_139 : decode cX10_readDevice 139 = .ok (.iastore, 1) := by decide +kernel
theorem dX10_readDevice_140 : decode cX10_readDevice 140 = .ok (.aload_n 0, 1) := by decide +kernel
theorem dX10_readDevice_141 : decode cX10_readDevice 141 = .ok (.getfield 25, 3) := by decide +kernel
theorem dX10_readDevice_144 : decode cX10_readDevice 144 = .ok (.aload_n 0, 1) := by decide +kernel
theorem dX10_readDevice_145 : decode cX10_readDevice 145 = .ok (.getfield 32, 3) := by decide +kernel
theorem dX10_readDevice_148 : decode cX10_readDevice 148 = .ok (.iload 5, 2) := by decide +kernel
theorem dX10_readDevice_150 : decode cX10_readDevice 150 = .ok (.iastore, 1) := by decide +kernel
theorem dX10_readDevice_151 : decode cX10_readDevice 151 = .ok (.aload_n 0, 1) := by decide +kernel
theorem dX10_readDevice_152 : decode cX10_readDevice 152 = .ok (.dup, 1) := by decide +kernel
theorem dX10_readDevice_153 : decode cX10_readDevice 153 = .ok (.getfield 32, 3) := by decide +kernel
theorem dX10_readDevice_156 : decode cX10_readDevice 156 = .ok (.iconst 1, 1) := by decide +kernel
theorem dX10_readDevice_157 : decode cX10_readDevice 157 = .ok (.iadd, 1) := by decide +kernel
theorem dX10_readDevice_158 : decode cX10_readDevice 158 = .ok (.putfield 32, 3) := by decide +kernel
theorem dX10_readDevice_161 : decode cX10_readDevice 161 = .ok (.iconst 1, 1) := by decide +kernel
theorem dX10_readDevice_162 : decode cX10_readDevice 162 = .ok (.ireturn, 1) := by decide +kernel
theorem dX10_hasNumber_0 : decode cX10_hasNumber 0 = .ok (.iconst 0, 1) := by decide +kernel
theorem dX10_hasNumber_1 : decode cX10_hasNumber 1 = .ok (.istore_n 2, 1) := by decide +kernel
theorem dX10_hasNumber_2 : decode cX10_hasNumber 2 = .ok (.iload_n 2, 1) := by decide +kernel
theorem dX10_hasNumber_3 : decode cX10_hasNumber 3 = .ok (.aload_n 0, 1) := by decide +kernel
theorem dX10_hasNumber_4 : decode cX10_hasNumber 4 = .ok (.getfield 32, 3) := by decide +kernel
theorem dX10_hasNumber_7 : decode cX10_hasNumber 7 = .ok (.if_icmp .ge 21, 3) := by decide +kernel
theorem dX10_hasNumber_10 : decode cX10_hasNumber 10 = .ok (.aload_n 0, 1) := by decide +kernel
theorem dX10_hasNumber_11 : decode cX10_hasNumber 11 = .ok (.getfield 15, 3) := by decide +kernel
theorem dX10_hasNumber_14 : decode cX10_hasNumber 14 = .ok (.iload_n 2, 1) := by decide +kernel
theorem dX10_hasNumber_15 : decode cX10_hasNumber 15 = .ok (.iaload, 1) := by decide +kernel
theorem dX10_hasNumber_16 : decode cX10_hasNumber 16 = .ok (.iload_n 1, 1) := by decide +kernel
theorem dX10_hasNumber_17 : decode cX10_hasNumber 17 = .ok (.if_icmp .ne 5, 3) := by decide +kernel
theorem dX10_hasNumber_20 : decode cX10_hasNumber 20 = .ok (.iconst 1, 1) := by decide +kernel
theorem dX10_hasNumber_21 : decode cX10_hasNumber 21 = .ok (.ireturn, 1) := by decide +kernel
theorem dX10_hasNumber_22 : decode cX10_hasNumber 22 = .ok (.iinc 2 1, 3) := by decide +kernel
theorem dX10_hasNumber_25 : decode cX10_hasNumber 25 = .ok (.goto (-23), 3) := by decide +kernel
theorem dX10_hasNumber_28 : decode cX10_hasNumber 28 = .ok (.iconst 0, 1) := by decide +kernel
theorem dX10_hasNumber_29 : decode cX10_hasNumber 29 = .ok (.ireturn, 1) := by decide +kernel
theorem dX10_readEnd_0 : decode cX10_readEnd 0 = .ok (.aload_n 0, 1) := by decide +kernel
theorem dX10_readEnd_1 : decode cX10_readEnd 1 = .ok (.iload_n 1, 1) := by decide +kernel
theorem dX10_readEnd_2 : decode cX10_readEnd 2 = .ok (.iconst 1, 1) := by decide +kernel
theorem dX10_readEnd_3 : decode cX10_readEnd 3 = .ok (.iadd, 1) := by decide +kernel
theorem dX10_readEnd_4 : decode cX10_readEnd 4 = .ok (.iconst 1, 1) := by decide +kernel
theorem dX10_readEnd_5 : decode cX10_readEnd 5 = .ok (.invokevirtual 51, 3) := by decide +kernel
theorem dX10_readEnd_8 : decode cX10_readEnd 8 = .ok (.istore_n 2, 1) := by decide +kernel
theorem dX10_readEnd_9 : decode cX10_readEnd 9 = .ok (.aload_n 0, 1) := by decide +kernel
theorem dX10_readEnd_10 : decode cX10_readEnd 10 = .ok (.iload_n 1, 1) := by decide +kernel
theorem dX10_readEnd_11 : decode cX10_readEnd 11 = .ok (.iconst 2, 1) := by decide +kernel
theorem dX10_readEnd_12 : decode cX10_readEnd 12 = .ok (.iadd, 1) := by decide +kernel
theorem dX10_readEnd_13 : decode cX10_readEnd 13 = .ok (.iconst 1, 1) := by decide +kernel
theorem dX10_readEnd_14 : decode cX10_readEnd 14 = .ok (.invokevirtual 51, 3) := by decide +kernel
theorem dX10_readEnd_17 : decode cX10_readEnd 17 = .ok (.istore_n 3, 1) := by decide +kernel
theorem dX10_readEnd_18 : decode cX10_readEnd 18 = .ok (.aload_n 0, 1) := by decide +kernel
theorem dX10_readEnd_19 : decode cX10_readEnd 19 = .ok (.iload_n 1, 1) := by decide +kernel
theorem dX10_readEnd_20 : decode cX10_readEnd 20 = .ok (.iconst 3, 1) := by decide +kernel
theorem dX10_readEnd_21 : decode cX10_readEnd 21 = .ok (.iadd, 1) := by decide +kernel
theorem dX10_readEnd_22 : decode cX10_readEnd 22 = .ok (.iconst 1, 1) := by decide +kernel
theorem dX10_readEnd_23 : decode cX10_readEnd 23 = .ok (.invokevirtual 51, 3) := by decide +kernel
theorem dX10_readEnd_26 : decode cX10_readEnd 26 = .ok (.istore 4, 2) := by decide +kernel
theorem dX10_readEnd_28 : decode cX10_readEnd 28 = .ok (.aload_n 0, 1) := by decide +kernel
theorem dX10_readEnd_29 : decode cX10_readEnd 29 = .ok (.iload_n 1, 1) := by decide +kernel
theorem dX10_readEnd_30 : decode cX10_readEnd 30 = .ok (.bipush 101, 2) := by decide +kernel
theorem dX10_readEnd_32 : decode cX10_readEnd 32 = .ok (.invokevirtual 55, 3) := by decide +kernel
theorem dX10_readEnd_35 : decode cX10_readEnd 35 = .ok (.ifCond .eq 29, 3) := by decide +kernel
theorem dX10_readEnd_38 : decode cX10_readEnd 38 = .ok (.aload_n 0, 1) := by decide +kernel
theorem dX10_readEnd_39 : decode cX10_readEnd 39 = .ok (.iload_n 1, 1) := by decide +kernel
theorem dX10_readEnd_40 : decode cX10_readEnd 40 = .ok (.iconst 4, 1) := by decide +kernel
theorem dX10_readEnd_41 : decode cX10_readEnd 41 = .ok (.iadd, 1) := by decide +kernel
theorem dX10_readEnd_42 : decode cX10_readEnd 42 = .ok (.bipush 59, 2) := by decide +kernel
theorem dX10_readEnd_44 : decode cX10_readEnd 44 = .ok (.invokevirtual 55, 3) := by decide +kernel
theorem dX10_readEnd_47 : decode cX10_readEnd 47 = .ok (.ifCond .eq 17, 3) := by decide +kernel
theorem dX10_readEnd_50 : decode cX10_readEnd 50 = .ok (.iload_n 2, 1) := by decide +kernel
theorem dX10_readEnd_51 : decode cX10_readEnd 51 = .ok (.iconst 1, 1) := by decide +kernel
theorem dX10_readEnd_52 : decode cX10_readEnd 52 = .ok (.if_icmp .lt 12, 3) := by decide +kernel
theorem dX10_readEnd_55 : decode cX10_readEnd 55 = .ok (.iload_n 3, 1) := by decide +kernel
theorem dX10_readEnd_56 : decode cX10_readEnd 56 = .ok (.ifCond .lt 8, 3) := by decide +kernel
theorem dX10_readEnd_59 : decode cX10_readEnd 59 = .ok (.iload 4, 2) := by decide +kernel
theorem dX10_readEnd_61 : decode cX10_readEnd 61 = .ok (.ifCond .ge 5, 3) := by decide +kernel
theorem dX10_readEnd_64 : decode cX10_readEnd 64 = .ok (.iconst 0, 1) := by decide +kernel
theorem dX10_readEnd_65 : decode cX10_readEnd 65 = .ok (.ireturn, 1) := by decide +kernel
theorem dX10_readEnd_66 : decode cX10_readEnd 66 = .ok (.aload_n 0, 1) := by decide +kernel
theorem dX10_readEnd_67 : decode cX10_readEnd 67 = .ok (.iload_n 2, 1) := by decide +kernel
theorem dX10_readEnd_68 : decode cX10_readEnd 68 = .ok (.putfield 35, 3) := by decide +kernel
theorem dX10_readEnd_71 : decode cX10_readEnd 71 = .ok (.aload_n 0, 1) := by decide +kernel
theorem dX10_readEnd_72 : decode cX10_readEnd 72 = .ok (.iload_n 3, 1) := by decide +kernel
theorem dX10_readEnd_73 : decode cX10_readEnd 73 = .ok (.putfield 38, 3) := by decide +kernel
theorem dX10_readEnd_76 : decode cX10_readEnd 76 = .ok (.aload_n 0, 1) := by decide +kernel
theorem dX10_readEnd_77 : decode cX10_readEnd 77 = .ok (.iload 4, 2) := by decide +kernel
theorem dX10_readEnd_79 : decode cX10_readEnd 79 = .ok (.putfield 41, 3) := by decide +kernel
theorem dX10_readEnd_82 : decode cX10_readEnd 82 = .ok (.iconst 1, 1) := by decide +kernel
theorem dX10_readEnd_83 : decode cX10_readEnd 83 = .ok (.ireturn, 1) := by decide +kernel
theorem dX10_has_0 : decode cX10_has 0 = .ok (.iload_n 1, 1) := by decide +kernel
theorem dX10_has_1 : decode cX10_has 1 = .ok (.ifCond .lt 25, 3) := by decide +kernel
theorem dX10_has_4 : decode cX10_has 4 = .ok (.iload_n 1, 1) := by decide +kernel
theorem dX10_has_5 : decode cX10_has 5 = .ok (.aload_n 0, 1) := by decide +kernel
theorem dX10_has_6 : decode cX10_has 6 = .ok (.getfield 28, 3) := by decide +kernel
theorem dX10_has_9 : decode cX10_has 9 = .ok (.if_icmp .ge 17, 3) := by decide +kernel
theorem dX10_has_12 : decode cX10_has 12 = .ok (.aload_n 0, 1) := by decide +kernel
theorem dX10_has_13 : decode cX10_has 13 = .ok (.getfield 9, 3) := by decide +kernel
theorem dX10_has_16 : decode cX10_has 16 = .ok (.iload_n 1, 1) := by decide +kernel
theorem dX10_has_17 : decode cX10_has 17 = .ok (.caload, 1) := by decide +kernel
theorem dX10_has_18 : decode cX10_has 18 = .ok (.iload_n 2, 1) := by decide +kernel
theorem dX10_has_19 : decode cX10_has 19 = .ok (.if_icmp .ne 7, 3) := by decide +kernel
theorem dX10_has_22 : decode cX10_has 22 = .ok (.iconst 1, 1) := by decide +kernel
theorem dX10_has_23 : decode cX10_has 23 = .ok (.goto 4, 3) := by decide +kernel
theorem dX10_has_26 : decode cX10_has 26 = .ok (.iconst 0, 1) := by decide +kernel
theorem dX10_has_27 : decode cX10_has 27 = .ok (.ireturn, 1) := by decide +kernel
theorem dX10_numberAt_0 : decode cX10_numberAt 0 = .ok (.iload_n 1, 1) := by decide +kernel
theorem dX10_numberAt_1 : decode cX10_numberAt 1 = .ok (.ifCond .lt 13, 3) := by decide +kernel
theorem dX10_numberAt_4 : decode cX10_numberAt 4 = .ok (.iload_n 1, 1) := by decide +kernel
theorem dX10_numberAt_5 : decode cX10_numberAt 5 = .ok (.iload_n 2, 1) := by decide +kernel
theorem dX10_numberAt_6 : decode cX10_numberAt 6 = .ok (.iadd, 1) := by decide +kernel
theorem dX10_numberAt_7 : decode cX10_numberAt 7 = .ok (.aload_n 0, 1) := by decide +kernel
theorem dX10_numberAt_8 : decode cX10_numberAt 8 = .ok (.getfield 28, 3) := by decide +kernel
theorem dX10_numberAt_11 : decode cX10_numberAt 11 = .ok (.if_icmp .le 6, 3) := by decide +kernel
theorem dX10_numberAt_14 : decode cX10_numberAt 14 = .ok (.bipush (-4), 2) := by decide +kernel
theorem dX10_numberAt_16 : decode cX10_numberAt 16 = .ok (.ireturn, 1) := by decide +kernel
theorem dX10_numberAt_17 : decode cX10_numberAt 17 = .ok (.iconst 0, 1) := by decide +kernel
theorem dX10_numberAt_18 : decode cX10_numberAt 18 = .ok (.istore_n 3, 1) := by decide +kernel
theorem dX10_numberAt_19 : decode cX10_numberAt 19 = .ok (.iload_n 1, 1) := by decide +kernel
theorem dX10_numberAt_20 : decode cX10_numberAt 20 = .ok (.istore 4, 2) := by decide +kernel
theorem dX10_numberAt_22 : decode cX10_numberAt 22 = .ok (.iload 4, 2) := by decide +kernel
theorem dX10_numberAt_24 : decode cX10_numberAt 24 = .ok (.iload_n 1, 1) := by decide +kernel
theorem dX10_numberAt_25 : decode cX10_numberAt 25 = .ok (.iload_n 2, 1) := by decide +kernel
theorem dX10_numberAt_26 : decode cX10_numberAt 26 = .ok (.iadd, 1) := by decide +kernel
theorem dX10_numberAt_27 : decode cX10_numberAt 27 = .ok (.if_icmp .ge 52, 3) := by decide +kernel
theorem dX10_numberAt_30 : decode cX10_numberAt 30 = .ok (.aload_n 0, 1) := by decide +kernel
theorem dX10_numberAt_31 : decode cX10_numberAt 31 = .ok (.getfield 9, 3) := by decide +kernel
theorem dX10_numberAt_34 : decode cX10_numberAt 34 = .ok (.iload 4, 2) := by decide +kernel
theorem dX10_numberAt_36 : decode cX10_numberAt 36 = .ok (.caload, 1) := by decide +kernel
theorem dX10_numberAt_37 : decode cX10_numberAt 37 = .ok (.bipush 48, 2) := by decide +kernel
theorem dX10_numberAt_39 : decode cX10_numberAt 39 = .ok (.if_icmp .lt 15, 3) := by decide +kernel
theorem dX10_numberAt_42 : decode cX10_numberAt 42 = .ok (.aload_n 0, 1) := by decide +kernel
theorem dX10_numberAt_43 : decode cX10_numberAt 43 = .ok (.getfield 9, 3) := by decide +kernel
theorem dX10_numberAt_46 : decode cX10_numberAt 46 = .ok (.iload 4, 2) := by decide +kernel
theorem dX10_numberAt_48 : decode cX10_numberAt 48 = .ok (.caload, 1) := by decide +kernel
theorem dX10_numberAt_49 : decode cX10_numberAt 49 = .ok (.bipush 57, 2) := by decide +kernel
theorem dX10_numberAt_51 : decode cX10_numberAt 51 = .ok (.if_icmp .le 6, 3) := by decide +kernel
theorem dX10_numberAt_54 : decode cX10_numberAt 54 = .ok (.bipush (-4), 2) := by decide +kernel
theorem dX10_numberAt_56 : decode cX10_numberAt 56 = .ok (.ireturn, 1) := by decide +kernel
theorem dX10_numberAt_57 : decode cX10_numberAt 57 = .ok (.iload_n 3, 1) := by decide +kernel
theorem dX10_numberAt_58 : decode cX10_numberAt 58 = .ok (.bipush 10, 2) := by decide +kernel
theorem dX10_numberAt_60 : decode cX10_numberAt 60 = .ok (.imul, 1) := by decide +kernel
theorem dX10_numberAt_61 : decode cX10_numberAt 61 = .ok (.aload_n 0, 1) := by decide +kernel
theorem dX10_numberAt_62 : decode cX10_numberAt 62 = .ok (.getfield 9, 3) := by decide +kernel
theorem dX10_numberAt_65 : decode cX10_numberAt 65 = .ok (.iload 4, 2) := by decide +kernel
theorem dX10_numberAt_67 : decode cX10_numberAt 67 = .ok (.caload, 1) := by decide +kernel
theorem dX10_numberAt_68 : decode cX10_numberAt 68 = .ok (.bipush 48, 2) := by decide +kernel
theorem dX10_numberAt_70 : decode cX10_numberAt 70 = .ok (.isub, 1) := by decide +kernel
theorem dX10_numberAt_71 : decode cX10_numberAt 71 = .ok (.iadd, 1) := by decide +kernel
theorem dX10_numberAt_72 : decode cX10_numberAt 72 = .ok (.istore_n 3, 1) := by decide +kernel
theorem dX10_numberAt_73 : decode cX10_numberAt 73 = .ok (.iinc 4 1, 3) := by decide +kernel
theorem dX10_numberAt_76 : decode cX10_numberAt 76 = .ok (.goto (-54), 3) := by decide +kernel
theorem dX10_numberAt_79 : decode cX10_numberAt 79 = .ok (.iload_n 3, 1) := by decide +kernel
theorem dX10_numberAt_80 : decode cX10_numberAt 80 = .ok (.ireturn, 1) := by decide +kernel
theorem dX11_init_0 : decode cX11_init 0 = .ok (.aload_n 0, 1) := by decide +kernel
theorem dX11_init_1 : decode cX11_init 1 = .ok (.invokespecial 1, 3) := by decide +kernel
theorem dX11_init_4 : decode cX11_init 4 = .ok (.aload_n 0, 1) := by decide +kernel
theorem dX11_init_5 : decode cX11_init 5 = .ok (.new 7, 3) := by decide +kernel
theorem dX11_init_8 : decode cX11_init 8 = .ok (.dup, 1) := by decide +kernel
theorem dX11_init_9 : decode cX11_init 9 = .ok (.invokespecial 9, 3) := by decide +kernel
theorem dX11_init_12 : decode cX11_init 12 = .ok (.putfield 10, 3) := by decide +kernel
theorem dX11_init_15 : decode cX11_init 15 = .ok (.aload_n 0, 1) := by decide +kernel
theorem dX11_init_16 : decode cX11_init 16 = .ok (.new 16, 3) := by decide +kernel
theorem dX11_init_19 : decode cX11_init 19 = .ok (.dup, 1) := by decide +kernel
theorem dX11_init_20 : decode cX11_init 20 = .ok (.invokespecial 18, 3) := by decide +kernel
theorem dX11_init_23 : decode cX11_init 23 = .ok (.putfield 19, 3) := by decide +kernel
theorem dX11_init_26 : decode cX11_init 26 = .ok (.aload_n 0, 1) := by decide +kernel
theorem dX11_init_27 : decode cX11_init 27 = .ok (.new 23, 3) := by decide +kernel
theorem dX11_init_30 : decode cX11_init 30 = .ok (.dup, 1) := by decide +kernel
theorem dX11_init_31 : decode cX11_init 31 = .ok (.aload_n 0, 1) := by decide +kernel
theorem dX11_init_32 : decode cX11_init 32 = .ok (.getfield 19, 3) := by decide +kernel
theorem dX11_init_35 : decode cX11_init 35 = .ok (.invokespecial 25, 3) := by decide +kernel
theorem dX11_init_38 : decode cX11_init 38 = .ok (.putfield 28, 3) := by decide +kernel
theorem dX11_init_41 : decode cX11_init 41 = .ok (.aload_n 0, 1) := by decide +kernel
theorem dX11_init_42 : decode cX11_init 42 = .ok (.new 32, 3) := by decide +kernel
theorem dX11_init_45 : decode cX11_init 45 = .ok (.dup, 1) := by decide +kernel
theorem dX11_init_46 : decode cX11_init 46 = .ok (.aload_n 0, 1) := by decide +kernel
theorem dX11_init_47 : decode cX11_init 47 = .ok (.getfield 19, 3) := by decide +kernel
theorem dX11_init_50 : decode cX11_init 50 = .ok (.invokespecial 34, 3) := by decide +kernel
theorem dX11_init_53 : decode cX11_init 53 = .ok (.putfield 35, 3) := by decide +kernel
theorem dX11_init_56 : decode cX11_init 56 = .ok (.iconst 0, 1) := by decide +kernel
theorem dX11_init_57 : decode cX11_init 57 = .ok (.istore_n 1, 1) := by decide +kernel
theorem dX11_init_58 : decode cX11_init 58 = .ok (.iload_n 1, 1) := by decide +kernel
theorem dX11_init_59 : decode cX11_init 59 = .ok (.ldc 39, 2) := by decide +kernel
theorem dX11_init_61 : decode cX11_init 61 = .ok (.invokevirtual 41, 3) := by decide +kernel
theorem dX11_init_64 : decode cX11_init 64 = .ok (.if_icmp .ge 23, 3) := by decide +kernel
theorem dX11_init_67 : decode cX11_init 67 = .ok (.aload_n 0, 1) := by decide +kernel
theorem dX11_init_68 : decode cX11_init 68 = .ok (.getfield 10, 3) := by decide +kernel
theorem dX11_init_71 : decode cX11_init 71 = .ok (.ldc 39, 2) := by decide +kernel
theorem dX11_init_73 : decode cX11_init 73 = .ok (.iload_n 1, 1) := by decide +kernel
theorem dX11_init_74 : decode cX11_init 74 = .ok (.invokevirtual 47, 3) := by decide +kernel
theorem dX11_init_77 : decode cX11_init 77 = .ok (.invokevirtual 51, 3) := by decide +kernel
theorem dX11_init_80 : decode cX11_init 80 = .ok (.pop, 1) := by decide +kernel
theorem dX11_init_81 : decode cX11_init 81 = .ok (.iinc 1 1, 3) := by decide +kernel
theorem dX11_init_84 : decode cX11_init 84 = .ok (.goto (-26), 3) := by decide +kernel
theorem dX11_init_87 : decode cX11_init 87 = .ok (.aload_n 0, 1) := by decide +kernel
theorem dX11_init_88 : decode cX11_init 88 = .ok (.getfield 10, 3) := by decide +kernel
theorem dX11_init_91 : decode cX11_init 91 = .ok (.invokevirtual 55, 3) := by decide +kernel
theorem dX11_init_94 : decode cX11_init 94 = .ok (.pop, 1) := by decide +kernel
theorem dX11_init_95 : decode cX11_init 95 = .ok (.aload_n 0, 1) := by decide +kernel
theorem dX11_init_96 : decode cX11_init 96 = .ok (.getfield 19, 3) := by decide +kernel
theorem dX11_init_99 : decode cX11_init 99 = .ok (.aload_n 0, 1) := by decide +kernel
theorem dX11_init_100 : decode cX11_init 100 = .ok (.getfield 10, 3) := by decide +kernel
theorem dX11_init_103 : decode cX11_init 103 = .ok (.invokevirtual 58, 3) := by decide +kernel
theorem dX11_init_106 : decode cX11_init 106 = .ok (.aload_n 0, 1) := by decide +kernel
theorem dX11_init_107 : decode cX11_init 107 = .ok (.getfield 10, 3) := by decide +kernel
theorem dX11_init_110 : decode cX11_init 110 = .ok (.invokevirtual 62, 3) := by decide +kernel
theorem dX11_init_113 : decode cX11_init 113 = .ok (.return_, 1) := by decide +kernel
theorem dX11_write_0 : decode cX11_write 0 = .ok (.iload_n 1, 1) := by decide +kernel
theorem dX11_write_1 : decode cX11_write 1 = .ok (.bipush 32, 2) := by decide +kernel
theorem dX11_write_3 : decode cX11_write 3 = .ok (.bipush 126, 2) := by decide +kernel
theorem dX11_write_5 : decode cX11_write 5 = .ok (.invokestatic 65, 3) := by decide +kernel
theorem dX11_write_8 : decode cX11_write 8 = .ok (.ifCond .ne 5, 3) := by decide +kernel
theorem dX11_write_11 : decode cX11_write 11 = .ok (.iconst (-1), 1) := by decide +kernel
theorem dX11_write_12 : decode cX11_write 12 = .ok (.ireturn, 1) := by decide +kernel
theorem dX11_write_13 : decode cX11_write 13 = .ok (.aload_n 0, 1) := by decide +kernel
theorem dX11_write_14 : decode cX11_write 14 = .ok (.getfield 10, 3) := by decide +kernel
theorem dX11_write_17 : decode cX11_write 17 = .ok (.iload_n 1, 1) := by decide +kernel
theorem dX11_write_18 : decode cX11_write 18 = .ok (.i2c, 1) := by decide +kernel
theorem dX11_write_19 : decode cX11_write 19 = .ok (.invokevirtual 51, 3) := by decide +kernel
theorem dX11_write_22 : decode cX11_write 22 = .ok (.ifCond .eq 13, 3) := by decide +kernel
theorem dX11_write_25 : decode cX11_write 25 = .ok (.aload_n 0, 1) := by decide +kernel
theorem dX11_write_26 : decode cX11_write 26 = .ok (.getfield 10, 3) := by decide +kernel
theorem dX11_write_29 : decode cX11_write 29 = .ok (.invokevirtual 69, 3) := by decide +kernel
theorem dX11_write_32 : decode cX11_write 32 = .ok (.goto 5, 3) := by decide +kernel
theorem dX11_write_35 : decode cX11_write 35 = .ok (.bipush (-3), 2) := by decide +kernel
theorem dX11_write_37 : decode cX11_write 37 = .ok (.ireturn, 1) := by decide +kernel
theorem dX11_wipe_0 : decode cX11_wipe 0 = .ok (.aload_n 0, 1) := by decide +kernel
theorem dX11_wipe_1 : decode cX11_wipe 1 = .ok (.getfield 10, 3) := by decide +kernel
theorem dX11_wipe_4 : decode cX11_wipe 4 = .ok (.invokevirtual 69, 3) := by decide +kernel
theorem dX11_wipe_7 : decode cX11_wipe 7 = .ok (.istore_n 1, 1) := by decide +kernel
theorem dX11_wipe_8 : decode cX11_wipe 8 = .ok (.aload_n 0, 1) := by decide +kernel
theorem dX11_wipe_9 : decode cX11_wipe 9 = .ok (.getfield 10, 3) := by decide +kernel
theorem dX11_wipe_12 : decode cX11_wipe 12 = .ok (.invokevirtual 62, 3) := by decide +kernel
theorem dX11_wipe_15 : decode cX11_wipe 15 = .ok (.iload_n 1, 1) := by decide +kernel
theorem dX11_wipe_16 : decode cX11_wipe 16 = .ok (.ireturn, 1) := by decide +kernel
theorem dX11_fault_0 : decode cX11_fault 0 = .ok (.aload_n 0, 1) := by decide +kernel
theorem dX11_fault_1 : decode cX11_fault 1 = .ok (.getfield 10, 3) := by decide +kernel
theorem dX11_fault_4 : decode cX11_fault 4 = .ok (.invokevirtual 55, 3) := by decide +kernel
theorem dX11_fault_7 : decode cX11_fault 7 = .ok (.ireturn, 1) := by decide +kernel
theorem dX11_lay_0 : decode cX11_lay 0 = .ok (.aload_n 0, 1) := by decide +kernel
theorem dX11_lay_1 : decode cX11_lay 1 = .ok (.getfield 10, 3) := by decide +kernel
theorem dX11_lay_4 : decode cX11_lay 4 = .ok (.invokevirtual 55, 3) := by decide +kernel
theorem dX11_lay_7 : decode cX11_lay 7 = .ok (.bipush (-4), 2) := by decide +kernel
theorem dX11_lay_9 : decode cX11_lay 9 = .ok (.if_icmp .ne 13, 3) := by decide +kernel
theorem dX11_lay_12 : decode cX11_lay 12 = .ok (.aload_n 0, 1) := by decide +kernel
theorem dX11_lay_13 : decode cX11_lay 13 = .ok (.getfield 10, 3) := by decide +kernel
theorem dX11_lay_16 : decode cX11_lay 16 = .ok (.invokevirtual 70, 3) := by decide +kernel
theorem dX11_lay_19 : decode cX11_lay 19 = .ok (.ifCond .ne 6, 3) := by decide +kernel
theorem dX11_lay_22 : decode cX11_lay 22 = .ok (.bipush (-2), 2) := by decide +kernel
theorem dX11_lay_24 : decode cX11_lay 24 = .ok (.ireturn, 1) := by decide +kernel
theorem dX11_lay_25 : decode cX11_lay 25 = .ok (.aload_n 0, 1) := by decide +kernel
theorem dX11_lay_26 : decode cX11_lay 26 = .ok (.getfield 19, 3) := by decide +kernel
theorem dX11_lay_29 : decode cX11_lay 29 = .ok (.aload_n 0, 1) := by decide +kernel
theorem dX11_lay_30 : decode cX11_lay 30 = .ok (.getfield 10, 3) := by decide +kernel
theorem dX11_lay_33 : decode cX11_lay 33 = .ok (.invokevirtual 58, 3) := by decide +kernel
theorem dX11_lay_36 : decode cX11_lay 36 = .ok (.aload_n 0, 1) := by decide +kernel
theorem dX11_lay_37 : decode cX11_lay 37 = .ok (.getfield 35, 3) := by decide +kernel
theorem dX11_lay_40 : decode cX11_lay 40 = .ok (.invokevirtual 73, 3) := by decide +kernel
theorem dX11_lay_43 : decode cX11_lay 43 = .ok (.aload_n 0, 1) := by decide +kernel
theorem dX11_lay_44 : decode cX11_lay 44 = .ok (.getfield 19, 3) := by decide +kernel
theorem dX11_lay_47 : decode cX11_lay 47 = .ok (.invokevirtual 76, 3) := by decide +kernel
theorem dX11_lay_50 : decode cX11_lay 50 = .ok (.ireturn, 1) := by decide +kernel
theorem dX11_device_0 : decode cX11_device 0 = .ok (.aload_n 0, 1) := by decide +kernel
theorem dX11_device_1 : decode cX11_device 1 = .ok (.getfield 19, 3) := by decide +kernel
theorem dX11_device_4 : decode cX11_device 4 = .ok (.iload_n 1, 1) := by decide +kernel
theorem dX11_device_5 : decode cX11_device 5 = .ok (.invokevirtual 79, 3) := by decide +kernel
theorem dX11_device_8 : decode cX11_device 8 = .ok (.astore_n 3, 1) := by decide +kernel
theorem dX11_device_9 : decode cX11_device 9 = .ok (.aload_n 3, 1) := by decide +kernel
theorem dX11_device_10 : decode cX11_device 10 = .ok (.ifnonnull 5, 3) := by decide +kernel
theorem dX11_device_13 : decode cX11_device 13 = .ok (.iconst (-1), 1) := by decide +kernel
theorem dX11_device_14 : decode cX11_device 14 = .ok (.ireturn, 1) := by decide +kernel
theorem dX11_device_15 : decode cX11_device 15 = .ok (.iload_n 2, 1) := by decide +kernel
theorem dX11_device_16 : decode cX11_device 16 = .ok (.tableswitch 78 0 5 #[40, 45, 54, 59, 64, 69], 40) := by decide +kernel
theorem dX11_device_56 : decode cX11_device 56 = .ok (.aload_n 3, 1) := by decide +kernel
theorem dX11_device_57 : decode cX11_device 57 = .ok (.getfield 83, 3) := by decide +kernel
theorem dX11_device_60 : decode cX11_device 60 = .ok (.ireturn, 1) := by decide +kernel
theorem dX11_device_61 : decode cX11_device 61 = .ok (.aload_n 0, 1) := by decide +kernel
theorem dX11_device_62 : decode cX11_device 62 = .ok (.getfield 19, 3) := by decide +kernel
theorem dX11_device_65 : decode cX11_device 65 = .ok (.iload_n 1, 1) := by decide +kernel
theorem dX11_device_66 : decode cX11_device 66 = .ok (.invokevirtual 89, 3) := by decide +kernel
theorem dX11_device_69 : decode cX11_device 69 = .ok (.ireturn, 1) := by decide +kernel
theorem dX11_device_70 : decode cX11_device 70 = .ok (.aload_n 3, 1) := by decide +kernel
theorem dX11_device_71 : decode cX11_device 71 = .ok (.getfield 93, 3) := by decide +kernel
theorem dX11_device_74 : decode cX11_device 74 = .ok (.ireturn, 1) := by decide +kernel
theorem dX11_device_75 : decode cX11_device 75 = .ok (.aload_n 3, 1) := by decide +kernel
theorem dX11_device_76 : decode cX11_device 76 = .ok (.getfield 96, 3) := by decide +kernel
theorem dX11_device_79 : decode cX11_device 79 = .ok (.ireturn, 1) := by decide +kernel
theorem dX11_device_80 : decode cX11_device 80 = .ok (.aload_n 3, 1) := by decide +kernel
theorem dX11_device_81 : decode cX11_device 81 = .ok (.getfield 99, 3) := by decide +kernel
theorem dX11_device_84 : decode cX11_device 84 = .ok (.ireturn, 1) := by decide +kernel
theorem dX11_device_85 : decode cX11_device 85 = .ok (.aload_n 0, 1) := by decide +kernel
theorem dX11_device_86 : decode cX11_device 86 = .ok (.getfield 19, 3) := by decide +kernel
theorem dX11_device_89 : decode cX11_device 89 = .ok (.iload_n 1, 1) := by decide +kernel
theorem dX11_device_90 : decode cX11_device 90 = .ok (.invokevirtual 102, 3) := by decide +kernel
theorem dX11_device_93 : decode cX11_device 93 = .ok (.ireturn, 1) := by decide +kernel
theorem dX11_device_94 : decode cX11_device 94 = .ok (.iconst (-1), 1) := by decide +kernel
theorem dX11_device_95 : decode cX11_device 95 = .ok (.ireturn, 1) := by decide +kernel
theorem dX11_memory_0 : decode cX11_memory 0 = .ok (.aload_n 0, 1) := by decide +kernel
theorem dX11_memory_1 : decode cX11_memory 1 = .ok (.getfield 19, 3) := by decide +kernel
theorem dX11_memory_4 : decode cX11_memory 4 = .ok (.iload_n 1, 1) := by decide +kernel
theorem dX11_memory_5 : decode cX11_memory 5 = .ok (.invokevirtual 79, 3) := by decide +kernel
theorem dX11_memory_8 : decode cX11_memory 8 = .ok (.astore_n 3, 1) := by decide +kernel
theorem dX11_memory_9 : decode cX11_memory 9 = .ok (.aload_n 3, 1) := by decide +kernel
theorem dX11_memory_10 : decode cX11_memory 10 = .ok (.ifnull 13, 3) := by decide +kernel
theorem dX11_memory_13 : decode cX11_memory 13 = .ok (.iload_n 2, 1) := by decide +kernel
theorem dX11_memory_14 : decode cX11_memory 14 = .ok (.iconst 0, 1) := by decide +kernel
theorem dX11_memory_15 : decode cX11_memory 15 = .ok (.bipush 15, 2) := by decide +kernel
theorem dX11_memory_17 : decode cX11_memory 17 = .ok (.invokestatic 65, 3) := by decide +kernel
theorem dX11_memory_20 : decode cX11_memory 20 = .ok (.ifCond .ne 5, 3) := by decide +kernel
theorem dX11_memory_23 : decode cX11_memory 23 = .ok (.iconst (-1), 1) := by decide +kernel
theorem dX11_memory_24 : decode cX11_memory 24 = .ok (.ireturn, 1) := by decide +kernel
theorem dX11_memory_25 : decode cX11_memory 25 = .ok (.aload_n 3, 1) := by decide +kernel
theorem dX11_memory_26 : decode cX11_memory 26 = .ok (.aload_n 0, 1) := by decide +kernel
theorem dX11_memory_27 : decode cX11_memory 27 = .ok (.getfield 19, 3) := by decide +kernel
theorem dX11_memory_30 : decode cX11_memory 30 = .ok (.invokevirtual 105, 3) := by decide +kernel
theorem dX11_memory_33 : decode cX11_memory 33 = .ok (.invokevirtual 108, 3) := by decide +kernel
theorem dX11_memory_36 : decode cX11_memory 36 = .ok (.aload_n 3, 1) := by decide +kernel
theorem dX11_memory_37 : decode cX11_memory 37 = .ok (.getfield 112, 3) := by decide +kernel
theorem dX11_memory_40 : decode cX11_memory 40 = .ok (.iload_n 2, 1) := by decide +kernel
theorem dX11_memory_41 : decode cX11_memory 41 = .ok (.iaload, 1) := by decide +kernel
theorem dX11_memory_42 : decode cX11_memory 42 = .ok (.ireturn, 1) := by decide +kernel
theorem dX11_own_0 : decode cX11_own 0 = .ok (.aload_n 0, 1) := by decide +kernel
theorem dX11_own_1 : decode cX11_own 1 = .ok (.getfield 19, 3) := by decide +kernel
theorem dX11_own_4 : decode cX11_own 4 = .ok (.iload_n 1, 1) := by decide +kernel
theorem dX11_own_5 : decode cX11_own 5 = .ok (.invokevirtual 79, 3) := by decide +kernel
theorem dX11_own_8 : decode cX11_own 8 = .ok (.astore 4, 2) := by decide +kernel
theorem dX11_own_10 : decode cX11_own 10 = .ok (.aload 4, 2) := by decide +kernel
theorem dX11_own_12 : decode cX11_own 12 = .ok (.ifnull 20, 3) := by decide +kernel
theorem dX11_own_15 : decode cX11_own 15 = .ok (.iload_n 2, 1) := by decide +kernel
theorem dX11_own_16 : decode cX11_own 16 = .ok (.iconst 4, 1) := by decide +kernel
theorem dX11_own_17 : decode cX11_own 17 = .ok (.bipush 15, 2) := by decide +kernel
theorem dX11_own_19 : decode cX11_own 19 = .ok (.invokestatic 65, 3) := by decide +kernel
theorem dX11_own_22 : decode cX11_own 22 = .ok (.ifCond .eq 10, 3) := by decide +kernel
theorem dX11_own_25 : decode cX11_own 25 = .ok (.iload_n 3, 1) := by decide +kernel
theorem dX11_own_26 : decode cX11_own 26 = .ok (.invokestatic 116, 3) := by decide +kernel
theorem dX11_own_29 : decode cX11_own 29 = .ok (.ifCond .ne 5, 3) := by decide +kernel
theorem dX11_own_32 : decode cX11_own 32 = .ok (.iconst (-1), 1) := by decide +kernel
theorem dX11_own_33 : decode cX11_own 33 = .ok (.ireturn, 1) := by decide +kernel
theorem dX11_own_34 : decode cX11_own 34 = .ok (.aload 4, 2) := by decide +kernel
theorem dX11_own_36 : decode cX11_own 36 = .ok (.getfield 112, 3) := by decide +kernel
theorem dX11_own_39 : decode cX11_own 39 = .ok (.iload_n 2, 1) := by decide +kernel
theorem dX11_own_40 : decode cX11_own 40 = .ok (.iaload, 1) := by decide +kernel
theorem dX11_own_41 : decode cX11_own 41 = .ok (.istore 5, 2) := by decide +kernel
theorem dX11_own_43 : decode cX11_own 43 = .ok (.aload 4, 2) := by decide +kernel
theorem dX11_own_45 : decode cX11_own 45 = .ok (.getfield 112, 3) := by decide +kernel
theorem dX11_own_48 : decode cX11_own 48 = .ok (.iload_n 2, 1) := by decide +kernel
theorem dX11_own_49 : decode cX11_own 49 = .ok (.iload_n 3, 1) := by decide +kernel
theorem dX11_own_50 : decode cX11_own 50 = .ok (.iastore, 1) := by decide +kernel
theorem dX11_own_51 : decode cX11_own 51 = .ok (.iload 5, 2) := by decide +kernel
theorem dX11_own_53 : decode cX11_own 53 = .ok (.ireturn, 1) := by decide +kernel
theorem dX11_cut_0 : decode cX11_cut 0 = .ok (.iload_n 1, 1) := by decide +kernel
theorem dX11_cut_1 : decode cX11_cut 1 = .ok (.iconst 0, 1) := by decide +kernel
theorem dX11_cut_2 : decode cX11_cut 2 = .ok (.aload_n 0, 1) := by decide +kernel
theorem dX11_cut_3 : decode cX11_cut 3 = .ok (.getfield 19, 3) := by decide +kernel
theorem dX11_cut_6 : decode cX11_cut 6 = .ok (.invokevirtual 76, 3) := by decide +kernel
theorem dX11_cut_9 : decode cX11_cut 9 = .ok (.invokestatic 65, 3) := by decide +kernel
theorem dX11_cut_12 : decode cX11_cut 12 = .ok (.ifCond .eq 12, 3) := by decide +kernel
theorem dX11_cut_15 : decode cX11_cut 15 = .ok (.iload_n 2, 1) := by decide +kernel
theorem dX11_cut_16 : decode cX11_cut 16 = .ok (.iconst 0, 1) := by decide +kernel
theorem dX11_cut_17 : decode cX11_cut 17 = .ok (.iconst 1, 1) := by decide +kernel
theorem dX11_cut_18 : decode cX11_cut 18 = .ok (.invokestatic 65, 3) := by decide +kernel
theorem dX11_cut_21 : decode cX11_cut 21 = .ok (.ifCond .ne 5, 3) := by decide +kernel
theorem dX11_cut_24 : decode cX11_cut 24 = .ok (.iconst (-1), 1) := by decide +kernel
theorem dX11_cut_25 : decode cX11_cut 25 = .ok (.ireturn, 1) := by decide +kernel
theorem dX11_cut_26 : decode cX11_cut 26 = .ok (.aload_n 0, 1) := by decide +kernel
theorem dX11_cut_27 : decode cX11_cut 27 = .ok (.getfield 19, 3) := by decide +kernel
theorem dX11_cut_30 : decode cX11_cut 30 = .ok (.iload_n 1, 1) := by decide +kernel
theorem dX11_cut_31 : decode cX11_cut 31 = .ok (.iload_n 2, 1) := by decide +kernel
theorem dX11_cut_32 : decode cX11_cut 32 = .ok (.invokevirtual 120, 3) := by decide +kernel
theorem dX11_cut_35 : decode cX11_cut 35 = .ok (.ifCond .eq 13, 3) := by decide +kernel
theorem dX11_cut_38 : decode cX11_cut 38 = .ok (.aload_n 0, 1) := by decide +kernel
theorem dX11_cut_39 : decode cX11_cut 39 = .ok (.getfield 19, 3) := by decide +kernel
theorem dX11_cut_42 : decode cX11_cut 42 = .ok (.invokevirtual 124, 3) := by decide +kernel
theorem dX11_cut_45 : decode cX11_cut 45 = .ok (.goto 5, 3) := by decide +kernel
theorem dX11_cut_48 : decode cX11_cut 48 = .ok (.bipush (-2), 2) := by decide +kernel
theorem dX11_cut_50 : decode cX11_cut 50 = .ok (.ireturn, 1) := by decide +kernel
theorem dX11_lose_0 : decode cX11_lose 0 = .ok (.iload_n 1, 1) := by decide +kernel
theorem dX11_lose_1 : decode cX11_lose 1 = .ok (.iconst 0, 1) := by decide +kernel
theorem dX11_lose_2 : decode cX11_lose 2 = .ok (.bipush 9, 2) := by decide +kernel
theorem dX11_lose_4 : decode cX11_lose 4 = .ok (.invokestatic 65, 3) := by decide +kernel
theorem dX11_lose_7 : decode cX11_lose 7 = .ok (.ifCond .eq 14, 3) := by decide +kernel
theorem dX11_lose_10 : decode cX11_lose 10 = .ok (.aload_n 0, 1) := by decide +kernel
theorem dX11_lose_11 : decode cX11_lose 11 = .ok (.getfield 35, 3) := by decide +kernel
theorem dX11_lose_14 : decode cX11_lose 14 = .ok (.iload_n 1, 1) := by decide +kernel
theorem dX11_lose_15 : decode cX11_lose 15 = .ok (.invokevirtual 127, 3) := by decide +kernel
