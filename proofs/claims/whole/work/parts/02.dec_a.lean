theorem dX0_init_0 : decode cX0_init 0 = .ok (.aload_n 0, 1) := by decide +kernel
theorem dX0_init_1 : decode cX0_init 1 = .ok (.invokespecial 3, 3) := by decide +kernel
theorem dX0_init_4 : decode cX0_init 4 = .ok (.aload_n 0, 1) := by decide +kernel
theorem dX0_init_5 : decode cX0_init 5 = .ok (.sipush 1107, 3) := by decide +kernel
theorem dX0_init_8 : decode cX0_init 8 = .ok (.newarray .int, 2) := by decide +kernel
theorem dX0_init_10 : decode cX0_init 10 = .ok (.putfield 13, 3) := by decide +kernel
theorem dX0_init_13 : decode cX0_init 13 = .ok (.return_, 1) := by decide +kernel
theorem dX0_restart_0 : decode cX0_restart 0 = .ok (.aload_n 0, 1) := by decide +kernel
theorem dX0_restart_1 : decode cX0_restart 1 = .ok (.iconst 0, 1) := by decide +kernel
theorem dX0_restart_2 : decode cX0_restart 2 = .ok (.putfield 17, 3) := by decide +kernel
theorem dX0_restart_5 : decode cX0_restart 5 = .ok (.aload_n 0, 1) := by decide +kernel
theorem dX0_restart_6 : decode cX0_restart 6 = .ok (.iconst 0, 1) := by decide +kernel
theorem dX0_restart_7 : decode cX0_restart 7 = .ok (.putfield 21, 3) := by decide +kernel
theorem dX0_restart_10 : decode cX0_restart 10 = .ok (.aload_n 0, 1) := by decide +kernel
theorem dX0_restart_11 : decode cX0_restart 11 = .ok (.iconst 0, 1) := by decide +kernel
theorem dX0_restart_12 : decode cX0_restart 12 = .ok (.putfield 24, 3) := by decide +kernel
theorem dX0_restart_15 : decode cX0_restart 15 = .ok (.aload_n 1, 1) := by decide +kernel
theorem dX0_restart_16 : decode cX0_restart 16 = .ok (.aload_n 0, 1) := by decide +kernel
theorem dX0_restart_17 : decode cX0_restart 17 = .ok (.getfield 13, 3) := by decide +kernel
theorem dX0_restart_20 : decode cX0_restart 20 = .ok (.aload_n 0, 1) := by decide +kernel
theorem dX0_restart_21 : decode cX0_restart 21 = .ok (.invokevirtual 27, 3) := by decide +kernel
theorem dX0_restart_24 : decode cX0_restart 24 = .ok (.invokevirtual 31, 3) := by decide +kernel
theorem dX0_restart_27 : decode cX0_restart 27 = .ok (.return_, 1) := by decide +kernel
theorem dX0_keep_0 : decode cX0_keep 0 = .ok (.aload_n 0, 1) := by decide +kernel
theorem dX0_keep_1 : decode cX0_keep 1 = .ok (.iconst 0, 1) := by decide +kernel
theorem dX0_keep_2 : decode cX0_keep 2 = .ok (.putfield 24, 3) := by decide +kernel
theorem dX0_keep_5 : decode cX0_keep 5 = .ok (.aload_n 0, 1) := by decide +kernel
theorem dX0_keep_6 : decode cX0_keep 6 = .ok (.getfield 21, 3) := by decide +kernel
theorem dX0_keep_9 : decode cX0_keep 9 = .ok (.bipush 40, 2) := by decide +kernel
theorem dX0_keep_11 : decode cX0_keep 11 = .ok (.if_icmp .ge 16, 3) := by decide +kernel
theorem dX0_keep_14 : decode cX0_keep 14 = .ok (.aload_n 0, 1) := by decide +kernel
theorem dX0_keep_15 : decode cX0_keep 15 = .ok (.dup, 1) := by decide +kernel
theorem dX0_keep_16 : decode cX0_keep 16 = .ok (.getfield 21, 3) := by decide +kernel
theorem dX0_keep_19 : decode cX0_keep 19 = .ok (.iconst 1, 1) := by decide +kernel
theorem dX0_keep_20 : decode cX0_keep 20 = .ok (.iadd, 1) := by decide +kernel
theorem dX0_keep_21 : decode cX0_keep 21 = .ok (.putfield 21, 3) := by decide +kernel
theorem dX0_keep_24 : decode cX0_keep 24 = .ok (.goto 16, 3) := by decide +kernel
theorem dX0_keep_27 : decode cX0_keep 27 = .ok (.aload_n 0, 1) := by decide +kernel
theorem dX0_keep_28 : decode cX0_keep 28 = .ok (.aload_n 0, 1) := by decide +kernel
theorem dX0_keep_29 : decode cX0_keep 29 = .ok (.getfield 17, 3) := by decide +kernel
theorem dX0_keep_32 : decode cX0_keep 32 = .ok (.iconst 1, 1) := by decide +kernel
theorem dX0_keep_33 : decode cX0_keep 33 = .ok (.iadd, 1) := by decide +kernel
theorem dX0_keep_34 : decode cX0_keep 34 = .ok (.bipush 41, 2) := by decide +kernel
theorem dX0_keep_36 : decode cX0_keep 36 = .ok (.irem, 1) := by decide +kernel
theorem dX0_keep_37 : decode cX0_keep 37 = .ok (.putfield 17, 3) := by decide +kernel
theorem dX0_keep_40 : decode cX0_keep 40 = .ok (.aload_n 1, 1) := by decide +kernel
theorem dX0_keep_41 : decode cX0_keep 41 = .ok (.aload_n 0, 1) := by decide +kernel
theorem dX0_keep_42 : decode cX0_keep 42 = .ok (.getfield 13, 3) := by decide +kernel
theorem dX0_keep_45 : decode cX0_keep 45 = .ok (.aload_n 0, 1) := by decide +kernel
theorem dX0_keep_46 : decode cX0_keep 46 = .ok (.invokevirtual 27, 3) := by decide +kernel
theorem dX0_keep_49 : decode cX0_keep 49 = .ok (.invokevirtual 31, 3) := by decide +kernel
theorem dX0_keep_52 : decode cX0_keep 52 = .ok (.return_, 1) := by decide +kernel
theorem dX0_stepBack_0 : decode cX0_stepBack 0 = .ok (.aload_n 0, 1) := by decide +kernel
theorem dX0_stepBack_1 : decode cX0_stepBack 1 = .ok (.getfield 21, 3) := by decide +kernel
theorem dX0_stepBack_4 : decode cX0_stepBack 4 = .ok (.ifCond .ne 5, 3) := by decide +kernel
theorem dX0_stepBack_7 : decode cX0_stepBack 7 = .ok (.iconst 0, 1) := by decide +kernel
theorem dX0_stepBack_8 : decode cX0_stepBack 8 = .ok (.ireturn, 1) := by decide +kernel
theorem dX0_stepBack_9 : decode cX0_stepBack 9 = .ok (.aload_n 0, 1) := by decide +kernel
theorem dX0_stepBack_10 : decode cX0_stepBack 10 = .ok (.dup, 1) := by decide +kernel
theorem dX0_stepBack_11 : decode cX0_stepBack 11 = .ok (.getfield 21, 3) := by decide +kernel
theorem dX0_stepBack_14 : decode cX0_stepBack 14 = .ok (.iconst 1, 1) := by decide +kernel
theorem dX0_stepBack_15 : decode cX0_stepBack 15 = .ok (.isub, 1) := by decide +kernel
theorem dX0_stepBack_16 : decode cX0_stepBack 16 = .ok (.putfield 21, 3) := by decide +kernel
theorem dX0_stepBack_19 : decode cX0_stepBack 19 = .ok (.aload_n 0, 1) := by decide +kernel
theorem dX0_stepBack_20 : decode cX0_stepBack 20 = .ok (.dup, 1) := by decide +kernel
theorem dX0_stepBack_21 : decode cX0_stepBack 21 = .ok (.getfield 24, 3) := by decide +kernel
theorem dX0_stepBack_24 : decode cX0_stepBack 24 = .ok (.iconst 1, 1) := by decide +kernel
theorem dX0_stepBack_25 : decode cX0_stepBack 25 = .ok (.iadd, 1) := by decide +kernel
theorem dX0_stepBack_26 : decode cX0_stepBack 26 = .ok (.putfield 24, 3) := by decide +kernel
theorem dX0_stepBack_29 : decode cX0_stepBack 29 = .ok (.aload_n 1, 1) := by decide +kernel
theorem dX0_stepBack_30 : decode cX0_stepBack 30 = .ok (.aload_n 0, 1) := by decide +kernel
theorem dX0_stepBack_31 : decode cX0_stepBack 31 = .ok (.getfield 13, 3) := by decide +kernel
theorem dX0_stepBack_34 : decode cX0_stepBack 34 = .ok (.aload_n 0, 1) := by decide +kernel
theorem dX0_stepBack_35 : decode cX0_stepBack 35 = .ok (.invokevirtual 27, 3) := by decide +kernel
theorem dX0_stepBack_38 : decode cX0_stepBack 38 = .ok (.invokevirtual 35, 3) := by decide +kernel
theorem dX0_stepBack_41 : decode cX0_stepBack 41 = .ok (.iconst 1, 1) := by decide +kernel
theorem dX0_stepBack_42 : decode cX0_stepBack 42 = .ok (.ireturn, 1) := by decide +kernel
theorem dX0_stepOn_0 : decode cX0_stepOn 0 = .ok (.aload_n 0, 1) := by decide +kernel
theorem dX0_stepOn_1 : decode cX0_stepOn 1 = .ok (.getfield 24, 3) := by decide +kernel
theorem dX0_stepOn_4 : decode cX0_stepOn 4 = .ok (.ifCond .ne 5, 3) := by decide +kernel
theorem dX0_stepOn_7 : decode cX0_stepOn 7 = .ok (.iconst 0, 1) := by decide +kernel
theorem dX0_stepOn_8 : decode cX0_stepOn 8 = .ok (.ireturn, 1) := by decide +kernel
theorem dX0_stepOn_9 : decode cX0_stepOn 9 = .ok (.aload_n 0, 1) := by decide +kernel
theorem dX0_stepOn_10 : decode cX0_stepOn 10 = .ok (.dup, 1) := by decide +kernel
theorem dX0_stepOn_11 : decode cX0_stepOn 11 = .ok (.getfield 24, 3) := by decide +kernel
theorem dX0_stepOn_14 : decode cX0_stepOn 14 = .ok (.iconst 1, 1) := by decide +kernel
theorem dX0_stepOn_15 : decode cX0_stepOn 15 = .ok (.isub, 1) := by decide +kernel
theorem dX0_stepOn_16 : decode cX0_stepOn 16 = .ok (.putfield 24, 3) := by decide +kernel
theorem dX0_stepOn_19 : decode cX0_stepOn 19 = .ok (.aload_n 0, 1) := by decide +kernel
theorem dX0_stepOn_20 : decode cX0_stepOn 20 = .ok (.dup, 1) := by decide +kernel
theorem dX0_stepOn_21 : decode cX0_stepOn 21 = .ok (.getfield 21, 3) := by decide +kernel
theorem dX0_stepOn_24 : decode cX0_stepOn 24 = .ok (.iconst 1, 1) := by decide +kernel
theorem dX0_stepOn_25 : decode cX0_stepOn 25 = .ok (.iadd, 1) := by decide +kernel
theorem dX0_stepOn_26 : decode cX0_stepOn 26 = .ok (.putfield 21, 3) := by decide +kernel
theorem dX0_stepOn_29 : decode cX0_stepOn 29 = .ok (.aload_n 1, 1) := by decide +kernel
theorem dX0_stepOn_30 : decode cX0_stepOn 30 = .ok (.aload_n 0, 1) := by decide +kernel
theorem dX0_stepOn_31 : decode cX0_stepOn 31 = .ok (.getfield 13, 3) := by decide +kernel
theorem dX0_stepOn_34 : decode cX0_stepOn 34 = .ok (.aload_n 0, 1) := by decide +kernel
theorem dX0_stepOn_35 : decode cX0_stepOn 35 = .ok (.invokevirtual 27, 3) := by decide +kernel
theorem dX0_stepOn_38 : decode cX0_stepOn 38 = .ok (.invokevirtual 35, 3) := by decide +kernel
theorem dX0_stepOn_41 : decode cX0_stepOn 41 = .ok (.iconst 1, 1) := by decide +kernel
theorem dX0_stepOn_42 : decode cX0_stepOn 42 = .ok (.ireturn, 1) := by decide +kernel
theorem dX0_presentRow_0 : decode cX0_presentRow 0 = .ok (.aload_n 0, 1) := by decide +kernel
theorem dX0_presentRow_1 : decode cX0_presentRow 1 = .ok (.getfield 17, 3) := by decide +kernel
theorem dX0_presentRow_4 : decode cX0_presentRow 4 = .ok (.aload_n 0, 1) := by decide +kernel
theorem dX0_presentRow_5 : decode cX0_presentRow 5 = .ok (.getfield 21, 3) := by decide +kernel
theorem dX0_presentRow_8 : decode cX0_presentRow 8 = .ok (.iadd, 1) := by decide +kernel
theorem dX0_presentRow_9 : decode cX0_presentRow 9 = .ok (.bipush 41, 2) := by decide +kernel
theorem dX0_presentRow_11 : decode cX0_presentRow 11 = .ok (.irem, 1) := by decide +kernel
theorem dX0_presentRow_12 : decode cX0_presentRow 12 = .ok (.bipush 27, 2) := by decide +kernel
theorem dX0_presentRow_14 : decode cX0_presentRow 14 = .ok (.imul, 1) := by decide +kernel
theorem dX0_presentRow_15 : decode cX0_presentRow 15 = .ok (.ireturn, 1) := by decide +kernel
theorem dX1_init_0 : decode cX1_init 0 = .ok (.aload_n 0, 1) := by decide +kernel
theorem dX1_init_1 : decode cX1_init 1 = .ok (.invokespecial 3, 3) := by decide +kernel
theorem dX1_init_4 : decode cX1_init 4 = .ok (.aload_n 0, 1) := by decide +kernel
theorem dX1_init_5 : decode cX1_init 5 = .ok (.bipush 12, 2) := by decide +kernel
theorem dX1_init_7 : decode cX1_init 7 = .ok (.newarray .int, 2) := by decide +kernel
theorem dX1_init_9 : decode cX1_init 9 = .ok (.putfield 9, 3) := by decide +kernel
theorem dX1_init_12 : decode cX1_init 12 = .ok (.aload_n 0, 1) := by decide +kernel
theorem dX1_init_13 : decode cX1_init 13 = .ok (.bipush 12, 2) := by decide +kernel
theorem dX1_init_15 : decode cX1_init 15 = .ok (.newarray .int, 2) := by decide +kernel
theorem dX1_init_17 : decode cX1_init 17 = .ok (.putfield 15, 3) := by decide +kernel
theorem dX1_init_20 : decode cX1_init 20 = .ok (.aload_n 0, 1) := by decide +kernel
theorem dX1_init_21 : decode cX1_init 21 = .ok (.bipush 12, 2) := by decide +kernel
theorem dX1_init_23 : decode cX1_init 23 = .ok (.newarray .int, 2) := by decide +kernel
theorem dX1_init_25 : decode cX1_init 25 = .ok (.putfield 18, 3) := by decide +kernel
theorem dX1_init_28 : decode cX1_init 28 = .ok (.aload_n 0, 1) := by decide +kernel
theorem dX1_init_29 : decode cX1_init 29 = .ok (.bipush 12, 2) := by decide +kernel
theorem dX1_init_31 : decode cX1_init 31 = .ok (.newarray .int, 2) := by decide +kernel
theorem dX1_init_33 : decode cX1_init 33 = .ok (.putfield 21, 3) := by decide +kernel
theorem dX1_init_36 : decode cX1_init 36 = .ok (.aload_n 0, 1) := by decide +kernel
theorem dX1_init_37 : decode cX1_init 37 = .ok (.bipush 12, 2) := by decide +kernel
theorem dX1_init_39 : decode cX1_init 39 = .ok (.newarray .int, 2) := by decide +kernel
theorem dX1_init_41 : decode cX1_init 41 = .ok (.putfield 24, 3) := by decide +kernel
theorem dX1_init_44 : decode cX1_init 44 = .ok (.aload_n 0, 1) := by decide +kernel
theorem dX1_init_45 : decode cX1_init 45 = .ok (.bipush 12, 2) := by decide +kernel
theorem dX1_init_47 : decode cX1_init 47 = .ok (.newarray .int, 2) := by decide +kernel
theorem dX1_init_49 : decode cX1_init 49 = .ok (.putfield 27, 3) := by decide +kernel
theorem dX1_init_52 : decode cX1_init 52 = .ok (.aload_n 0, 1) := by decide +kernel
theorem dX1_init_53 : decode cX1_init 53 = .ok (.bipush 12, 2) := by decide +kernel
theorem dX1_init_55 : decode cX1_init 55 = .ok (.newarray .int, 2) := by decide +kernel
theorem dX1_init_57 : decode cX1_init 57 = .ok (.putfield 30, 3) := by decide +kernel
theorem dX1_init_60 : decode cX1_init 60 = .ok (.return_, 1) := by decide +kernel
theorem dX1_put_0 : decode cX1_put 0 = .ok (.iload_n 1, 1) := by decide +kernel
theorem dX1_put_1 : decode cX1_put 1 = .ok (.ifCond .lt 55, 3) := by decide +kernel
theorem dX1_put_4 : decode cX1_put 4 = .ok (.iload_n 1, 1) := by decide +kernel
theorem dX1_put_5 : decode cX1_put 5 = .ok (.bipush 12, 2) := by decide +kernel
theorem dX1_put_7 : decode cX1_put 7 = .ok (.if_icmp .ge 49, 3) := by decide +kernel
theorem dX1_put_10 : decode cX1_put 10 = .ok (.aload_n 0, 1) := by decide +kernel
theorem dX1_put_11 : decode cX1_put 11 = .ok (.getfield 9, 3) := by decide +kernel
theorem dX1_put_14 : decode cX1_put 14 = .ok (.iload_n 1, 1) := by decide +kernel
theorem dX1_put_15 : decode cX1_put 15 = .ok (.iload_n 2, 1) := by decide +kernel
theorem dX1_put_16 : decode cX1_put 16 = .ok (.iastore, 1) := by decide +kernel
theorem dX1_put_17 : decode cX1_put 17 = .ok (.aload_n 0, 1) := by decide +kernel
theorem dX1_put_18 : decode cX1_put 18 = .ok (.getfield 15, 3) := by decide +kernel
theorem dX1_put_21 : decode cX1_put 21 = .ok (.iload_n 1, 1) := by decide +kernel
theorem dX1_put_22 : decode cX1_put 22 = .ok (.iload_n 3, 1) := by decide +kernel
theorem dX1_put_23 : decode cX1_put 23 = .ok (.iastore, 1) := by decide +kernel
theorem dX1_put_24 : decode cX1_put 24 = .ok (.aload_n 0, 1) := by decide +kernel
theorem dX1_put_25 : decode cX1_put 25 = .ok (.getfield 18, 3) := by decide +kernel
theorem dX1_put_28 : decode cX1_put 28 = .ok (.iload_n 1, 1) := by decide +kernel
theorem dX1_put_29 : decode cX1_put 29 = .ok (.iload 4, 2) := by decide +kernel
theorem dX1_put_31 : decode cX1_put 31 = .ok (.iastore, 1) := by decide +kernel
theorem dX1_put_32 : decode cX1_put 32 = .ok (.aload_n 0, 1) := by decide +kernel
theorem dX1_put_33 : decode cX1_put 33 = .ok (.getfield 21, 3) := by decide +kernel
theorem dX1_put_36 : decode cX1_put 36 = .ok (.iload_n 1, 1) := by decide +kernel
theorem dX1_put_37 : decode cX1_put 37 = .ok (.iload 5, 2) := by decide +kernel
theorem dX1_put_39 : decode cX1_put 39 = .ok (.iastore, 1) := by decide +kernel
theorem dX1_put_40 : decode cX1_put 40 = .ok (.aload_n 0, 1) := by decide +kernel
theorem dX1_put_41 : decode cX1_put 41 = .ok (.getfield 24, 3) := by decide +kernel
theorem dX1_put_44 : decode cX1_put 44 = .ok (.iload_n 1, 1) := by decide +kernel
theorem dX1_put_45 : decode cX1_put 45 = .ok (.iload 6, 2) := by decide +kernel
theorem dX1_put_47 : decode cX1_put 47 = .ok (.iastore, 1) := by decide +kernel
theorem dX1_put_48 : decode cX1_put 48 = .ok (.aload_n 0, 1) := by decide +kernel
theorem dX1_put_49 : decode cX1_put 49 = .ok (.getfield 27, 3) := by decide +kernel
theorem dX1_put_52 : decode cX1_put 52 = .ok (.iload_n 1, 1) := by decide +kernel
theorem dX1_put_53 : decode cX1_put 53 = .ok (.iload 7, 2) := by decide +kernel
theorem dX1_put_55 : decode cX1_put 55 = .ok (.iastore, 1) := by decide +kernel
theorem dX1_put_56 : decode cX1_put 56 = .ok (.return_, 1) := by decide +kernel
theorem dX1_sortForReading_0 : decode cX1_sortForReading 0 = .ok (.iconst 0, 1) := by decide +kernel
theorem dX1_sortForReading_1 : decode cX1_sortForReading 1 = .ok (.istore_n 1, 1) := by decide +kernel
theorem dX1_sortForReading_2 : decode cX1_sortForReading 2 = .ok (.iconst 0, 1) := by decide +kernel
theorem dX1_sortForReading_3 : decode cX1_sortForReading 3 = .ok (.istore_n 2, 1) := by decide +kernel
theorem dX1_sortForReading_4 : decode cX1_sortForReading 4 = .ok (.iload_n 2, 1) := by decide +kernel
theorem dX1_sortForReading_5 : decode cX1_sortForReading 5 = .ok (.bipush 12, 2) := by decide +kernel
theorem dX1_sortForReading_7 : decode cX1_sortForReading 7 = .ok (.if_icmp .ge 52, 3) := by decide +kernel
theorem dX1_sortForReading_10 : decode cX1_sortForReading 10 = .ok (.iconst 0, 1) := by decide +kernel
theorem dX1_sortForReading_11 : decode cX1_sortForReading 11 = .ok (.istore_n 3, 1) := by decide +kernel
theorem dX1_sortForReading_12 : decode cX1_sortForReading 12 = .ok (.iload_n 3, 1) := by decide +kernel
theorem dX1_sortForReading_13 : decode cX1_sortForReading 13 = .ok (.bipush 12, 2) := by decide +kernel
theorem dX1_sortForReading_15 : decode cX1_sortForReading 15 = .ok (.if_icmp .ge 38, 3) := by decide +kernel
theorem dX1_sortForReading_18 : decode cX1_sortForReading 18 = .ok (.aload_n 0, 1) := by decide +kernel
theorem dX1_sortForReading_19 : decode cX1_sortForReading 19 = .ok (.getfield 9, 3) := by decide +kernel
theorem dX1_sortForReading_22 : decode cX1_sortForReading 22 = .ok (.iload_n 3, 1) := by decide +kernel
theorem dX1_sortForReading_23 : decode cX1_sortForReading 23 = .ok (.iaload, 1) := by decide +kernel
theorem dX1_sortForReading_24 : decode cX1_sortForReading 24 = .ok (.iload_n 2, 1) := by decide +kernel
theorem dX1_sortForReading_25 : decode cX1_sortForReading 25 = .ok (.if_icmp .ne 22, 3) := by decide +kernel
theorem dX1_sortForReading_28 : decode cX1_sortForReading 28 = .ok (.iload_n 1, 1) := by decide +kernel
theorem dX1_sortForReading_29 : decode cX1_sortForReading 29 = .ok (.aload_n 0, 1) := by decide +kernel
theorem dX1_sortForReading_30 : decode cX1_sortForReading 30 = .ok (.getfield 30, 3) := by decide +kernel
theorem dX1_sortForReading_33 : decode cX1_sortForReading 33 = .ok (.arraylength, 1) := by decide +kernel
theorem dX1_sortForReading_34 : decode cX1_sortForReading 34 = .ok (.if_icmp .ge 13, 3) := by decide +kernel
theorem dX1_sortForReading_37 : decode cX1_sortForReading 37 = .ok (.aload_n 0, 1) := by decide +kernel
theorem dX1_sortForReading_38 : decode cX1_sortForReading 38 = .ok (.getfield 30, 3) := by decide +kernel
theorem dX1_sortForReading_41 : decode cX1_sortForReading 41 = .ok (.iload_n 1, 1) := by decide +kernel
theorem dX1_sortForReading_42 : decode cX1_sortForReading 42 = .ok (.iload_n 3, 1) := by decide +kernel
theorem dX1_sortForReading_43 : decode cX1_sortForReading 43 = .ok (.iastore, 1) := by decide +kernel
theorem dX1_sortForReading_44 : decode cX1_sortForReading 44 = .ok (.iinc 1 1, 3) := by decide +kernel
theorem dX1_sortForReading_47 : decode cX1_sortForReading 47 = .ok (.iinc 3 1, 3) := by decide +kernel
theorem dX1_sortForReading_50 : decode cX1_sortForReading 50 = .ok (.goto (-38), 3) := by decide +kernel
theorem dX1_sortForReading_53 : decode cX1_sortForReading 53 = .ok (.iinc 2 1, 3) := by decide +kernel
theorem dX1_sortForReading_56 : decode cX1_sortForReading 56 = .ok (.goto (-52), 3) := by decide +kernel
theorem dX1_sortForReading_59 : decode cX1_sortForReading 59 = .ok (.return_, 1) := by decide +kernel
theorem dX1_store_0 : decode cX1_store 0 = .ok (.iload_n 2, 1) := by decide +kernel
theorem dX1_store_1 : decode cX1_store 1 = .ok (.ifCond .lt 99, 3) := by decide +kernel
theorem dX1_store_4 : decode cX1_store 4 = .ok (.iload_n 2, 1) := by decide +kernel
theorem dX1_store_5 : decode cX1_store 5 = .ok (.bipush 72, 2) := by decide +kernel
theorem dX1_store_7 : decode cX1_store 7 = .ok (.iadd, 1) := by decide +kernel
theorem dX1_store_8 : decode cX1_store 8 = .ok (.aload_n 1, 1) := by decide +kernel
theorem dX1_store_9 : decode cX1_store 9 = .ok (.arraylength, 1) := by decide +kernel
theorem dX1_store_10 : decode cX1_store 10 = .ok (.if_icmp .gt 90, 3) := by decide +kernel
theorem dX1_store_13 : decode cX1_store 13 = .ok (.aload_n 0, 1) := by decide +kernel
theorem dX1_store_14 : decode cX1_store 14 = .ok (.getfield 9, 3) := by decide +kernel
theorem dX1_store_17 : decode cX1_store 17 = .ok (.iconst 0, 1) := by decide +kernel
theorem dX1_store_18 : decode cX1_store 18 = .ok (.aload_n 1, 1) := by decide +kernel
theorem dX1_store_19 : decode cX1_store 19 = .ok (.iload_n 2, 1) := by decide +kernel
theorem dX1_store_20 : decode cX1_store 20 = .ok (.bipush 12, 2) := by decide +kernel
theorem dX1_store_22 : decode cX1_store 22 = .ok (.invokestatic 33, 3) := by decide +kernel
theorem dX1_store_25 : decode cX1_store 25 = .ok (.aload_n 0, 1) := by decide +kernel
theorem dX1_store_26 : decode cX1_store 26 = .ok (.getfield 15, 3) := by decide +kernel
theorem dX1_store_29 : decode cX1_store 29 = .ok (.iconst 0, 1) := by decide +kernel
theorem dX1_store_30 : decode cX1_store 30 = .ok (.aload_n 1, 1) := by decide +kernel
theorem dX1_store_31 : decode cX1_store 31 = .ok (.iload_n 2, 1) := by decide +kernel
theorem dX1_store_32 : decode cX1_store 32 = .ok (.bipush 12, 2) := by decide +kernel
theorem dX1_store_34 : decode cX1_store 34 = .ok (.iadd, 1) := by decide +kernel
theorem dX1_store_35 : decode cX1_store 35 = .ok (.bipush 12, 2) := by decide +kernel
theorem dX1_store_37 : decode cX1_store 37 = .ok (.invokestatic 33, 3) := by decide +kernel
theorem dX1_store_40 : decode cX1_store 40 = .ok (.aload_n 0, 1) := by decide +kernel
theorem dX1_store_41 : decode cX1_store 41 = .ok (.getfield 18, 3) := by decide +kernel
theorem dX1_store_44 : decode cX1_store 44 = .ok (.iconst 0, 1) := by decide +kernel
theorem dX1_store_45 : decode cX1_store 45 = .ok (.aload_n 1, 1) := by decide +kernel
theorem dX1_store_46 : decode cX1_store 46 = .ok (.iload_n 2, 1) := by decide +kernel
theorem dX1_store_47 : decode cX1_store 47 = .ok (.bipush 24, 2) := by decide +kernel
theorem dX1_store_49 : decode cX1_store 49 = .ok (.iadd, 1) := by decide +kernel
theorem dX1_store_50 : decode cX1_store 50 = .ok (.bipush 12, 2) := by decide +kernel
theorem dX1_store_52 : decode cX1_store 52 = .ok (.invokestatic 33, 3) := by decide +kernel
theorem dX1_store_55 : decode cX1_store 55 = .ok (.aload_n 0, 1) := by decide +kernel
theorem dX1_store_56 : decode cX1_store 56 = .ok (.getfield 21, 3) := by decide +kernel
theorem dX1_store_59 : decode cX1_store 59 = .ok (.iconst 0, 1) := by decide +kernel
theorem dX1_store_60 : decode cX1_store 60 = .ok (.aload_n 1, 1) := by decide +kernel
theorem dX1_store_61 : decode cX1_store 61 = .ok (.iload_n 2, 1) := by decide +kernel
theorem dX1_store_62 : decode cX1_store 62 = .ok (.bipush 36, 2) := by decide +kernel
theorem dX1_store_64 : decode cX1_store 64 = .ok (.iadd, 1) := by decide +kernel
theorem dX1_store_65 : decode cX1_store 65 = .ok (.bipush 12, 2) := by decide +kernel
theorem dX1_store_67 : decode cX1_store 67 = .ok (.invokestatic 33, 3) := by decide +kernel
theorem dX1_store_70 : decode cX1_store 70 = .ok (.aload_n 0, 1) := by decide +kernel
theorem dX1_store_71 : decode cX1_store 71 = .ok (.getfield 24, 3) := by decide +kernel
theorem dX1_store_74 : decode cX1_store 74 = .ok (.iconst 0, 1) := by decide +kernel
theorem dX1_store_75 : decode cX1_store 75 = .ok (.aload_n 1, 1) := by decide +kernel
theorem dX1_store_76 : decode cX1_store 76 = .ok (.iload_n 2, 1) := by decide +kernel
theorem dX1_store_77 : decode cX1_store 77 = .ok (.bipush 48, 2) := by decide +kernel
theorem dX1_store_79 : decode cX1_store 79 = .ok (.iadd, 1) := by decide +kernel
theorem dX1_store_80 : decode cX1_store 80 = .ok (.bipush 12, 2) := by decide +kernel
theorem dX1_store_82 : decode cX1_store 82 = .ok (.invokestatic 33, 3) := by decide +kernel
theorem dX1_store_85 : decode cX1_store 85 = .ok (.aload_n 0, 1) := by decide +kernel
theorem dX1_store_86 : decode cX1_store 86 = .ok (.getfield 27, 3) := by decide +kernel
theorem dX1_store_89 : decode cX1_store 89 = .ok (.iconst 0, 1) := by decide +kernel
theorem dX1_store_90 : decode cX1_store 90 = .ok (.aload_n 1, 1) := by decide +kernel
theorem dX1_store_91 : decode cX1_store 91 = .ok (.iload_n 2, 1) := by decide +kernel
theorem dX1_store_92 : decode cX1_store 92 = .ok (.bipush 60, 2) := by decide +kernel
theorem dX1_store_94 : decode cX1_store 94 = .ok (.iadd, 1) := by decide +kernel
theorem dX1_store_95 : decode cX1_store 95 = .ok (.bipush 12, 2) := by decide +kernel
theorem dX1_store_97 : decode cX1_store 97 = .ok (.invokestatic 33, 3) := by decide +kernel
theorem dX1_store_100 : decode cX1_store 100 = .ok (.return_, 1) := by decide +kernel
theorem dX1_load_0 : decode cX1_load 0 = .ok (.iload_n 2, 1) := by decide +kernel
theorem dX1_load_1 : decode cX1_load 1 = .ok (.ifCond .lt 103, 3) := by decide +kernel
theorem dX1_load_4 : decode cX1_load 4 = .ok (.iload_n 2, 1) := by decide +kernel
theorem dX1_load_5 : decode cX1_load 5 = .ok (.bipush 72, 2) := by decide +kernel
theorem dX1_load_7 : decode cX1_load 7 = .ok (.iadd, 1) := by decide +kernel
theorem dX1_load_8 : decode cX1_load 8 = .ok (.aload_n 1, 1) := by decide +kernel
theorem dX1_load_9 : decode cX1_load 9 = .ok (.arraylength, 1) := by decide +kernel
theorem dX1_load_10 : decode cX1_load 10 = .ok (.if_icmp .gt 94, 3) := by decide +kernel
theorem dX1_load_13 : decode cX1_load 13 = .ok (.aload_n 1, 1) := by decide +kernel
theorem dX1_load_14 : decode cX1_load 14 = .ok (.iload_n 2, 1) := by decide +kernel
theorem dX1_load_15 : decode cX1_load 15 = .ok (.aload_n 0, 1) := by decide +kernel
theorem dX1_load_16 : decode cX1_load 16 = .ok (.getfield 9, 3) := by decide +kernel
theorem dX1_load_19 : decode cX1_load 19 = .ok (.iconst 0, 1) := by decide +kernel
theorem dX1_load_20 : decode cX1_load 20 = .ok (.bipush 12, 2) := by decide +kernel
theorem dX1_load_22 : decode cX1_load 22 = .ok (.invokestatic 33, 3) := by decide +kernel
theorem dX1_load_25 : decode cX1_load 25 = .ok (.aload_n 1, 1) := by decide +kernel
theorem dX1_load_26 : decode cX1_load 26 = .ok (.iload_n 2, 1) := by decide +kernel
theorem dX1_load_27 : decode cX1_load 27 = .ok (.bipush 12, 2) := by decide +kernel
theorem dX1_load_29 : decode cX1_load 29 = .ok (.iadd, 1) := by decide +kernel
theorem dX1_load_30 : decode cX1_load 30 = .ok (.aload_n 0, 1) := by decide +kernel
theorem dX1_load_31 : decode cX1_load 31 = .ok (.getfield 15, 3) := by decide +kernel
theorem dX1_load_34 : decode cX1_load 34 = .ok (.iconst 0, 1) := by decide +kernel
theorem dX1_load_35 : decode cX1_load 35 = .ok (.bipush 12, 2) := by decide +kernel
theorem dX1_load_37 : decode cX1_load 37 = .ok (.invokestatic 33, 3) := by decide +kernel
theorem dX1_load_40 : decode cX1_load 40 = .ok (.aload_n 1, 1) := by decide +kernel
theorem dX1_load_41 : decode cX1_load 41 = .ok (.iload_n 2, 1) := by decide +kernel
theorem dX1_load_42 : decode cX1_load 42 = .ok (.bipush 24, 2) := by decide +kernel
theorem dX1_load_44 : decode cX1_load 44 = .ok (.iadd, 1) := by decide +kernel
theorem dX1_load_45 : decode cX1_load 45 = .ok (.aload_n 0, 1) := by decide +kernel
theorem dX1_load_46 : decode cX1_load 46 = .ok (.getfield 18, 3) := by decide +kernel
theorem dX1_load_49 : decode cX1_load 49 = .ok (.iconst 0, 1) := by decide +kernel
theorem dX1_load_50 : decode cX1_load 50 = .ok (.bipush 12, 2) := by decide +kernel
theorem dX1_load_52 : decode cX1_load 52 = .ok (.invokestatic 33, 3) := by decide +kernel
theorem dX1_load_55 : decode cX1_load 55 = .ok (.aload_n 1, 1) := by decide +kernel
theorem dX1_load_56 : decode cX1_load 56 = .ok (.iload_n 2, 1) := by decide +kernel
theorem dX1_load_57 : decode cX1_load 57 = .ok (.bipush 36, 2) := by decide +kernel
theorem dX1_load_59 : decode cX1_load 59 = .ok (.iadd, 1) := by decide +kernel
theorem dX1_load_60 : decode cX1_load 60 = .ok (.aload_n 0, 1) := by decide +kernel
theorem dX1_load_61 : decode cX1_load 61 = .ok (.getfield 21, 3) := by decide +kernel
theorem dX1_load_64 : decode cX1_load 64 = .ok (.iconst 0, 1) := by decide +kernel
theorem dX1_load_65 : decode cX1_load 65 = .ok (.bipush 12, 2) := by decide +kernel
theorem dX1_load_67 : decode cX1_load 67 = .ok (.invokestatic 33, 3) := by decide +kernel
theorem dX1_load_70 : decode cX1_load 70 = .ok (.aload_n 1, 1) := by decide +kernel
theorem dX1_load_71 : decode cX1_load 71 = .ok (.iload_n 2, 1) := by decide +kernel
theorem dX1_load_72 : decode cX1_load 72 = .ok (.bipush 48, 2) := by decide +kernel
theorem dX1_load_74 : decode cX1_load 74 = .ok (.iadd, 1) := by decide +kernel
theorem dX1_load_75 : decode cX1_load 75 = .ok (.aload_n 0, 1) := by decide +kernel
theorem dX1_load_76 : decode cX1_load 76 = .ok (.getfield 24, 3) := by decide +kernel
theorem dX1_load_79 : decode cX1_load 79 = .ok (.iconst 0, 1) := by decide +kernel
theorem dX1_load_80 : decode cX1_load 80 = .ok (.bipush 12, 2) := by decide +kernel
theorem dX1_load_82 : decode cX1_load 82 = .ok (.invokestatic 33, 3) := by decide +kernel
theorem dX1_load_85 : decode cX1_load 85 = .ok (.aload_n 1, 1) := by decide +kernel
theorem dX1_load_86 : decode cX1_load 86 = .ok (.iload_n 2, 1) := by decide +kernel
theorem dX1_load_87 : decode cX1_load 87 = .ok (.bipush 60, 2) := by decide +kernel
theorem dX1_load_89 : decode cX1_load 89 = .ok (.iadd, 1) := by decide +kernel
theorem dX1_load_90 : decode cX1_load 90 = .ok (.aload_n 0, 1) := by decide +kernel
theorem dX1_load_91 : decode cX1_load 91 = .ok (.getfield 27, 3) := by decide +kernel
theorem dX1_load_94 : decode cX1_load 94 = .ok (.iconst 0, 1) := by decide +kernel
theorem dX1_load_95 : decode cX1_load 95 = .ok (.bipush 12, 2) := by decide +kernel
theorem dX1_load_97 : decode cX1_load 97 = .ok (.invokestatic 33, 3) := by decide +kernel
theorem dX1_load_100 : decode cX1_load 100 = .ok (.aload_n 0, 1) := by decide +kernel
theorem dX1_load_101 : decode cX1_load 101 = .ok (.invokevirtual 39, 3) := by decide +kernel
theorem dX1_load_104 : decode cX1_load 104 = .ok (.return_, 1) := by decide +kernel
theorem dX1_repealedBy_0 : decode cX1_repealedBy 0 = .ok (.iconst 0, 1) := by decide +kernel
theorem dX1_repealedBy_1 : decode cX1_repealedBy 1 = .ok (.istore_n 2, 1) := by decide +kernel
theorem dX1_repealedBy_2 : decode cX1_repealedBy 2 = .ok (.iconst 0, 1) := by decide +kernel
theorem dX1_repealedBy_3 : decode cX1_repealedBy 3 = .ok (.istore_n 3, 1) := by decide +kernel
theorem dX1_repealedBy_4 : decode cX1_repealedBy 4 = .ok (.iload_n 3, 1) := by decide +kernel
theorem dX1_repealedBy_5 : decode cX1_repealedBy 5 = .ok (.bipush 12, 2) := by decide +kernel
theorem dX1_repealedBy_7 : decode cX1_repealedBy 7 = .ok (.if_icmp .ge 37, 3) := by decide +kernel
theorem dX1_repealedBy_10 : decode cX1_repealedBy 10 = .ok (.iload_n 1, 1) := by decide +kernel
theorem dX1_repealedBy_11 : decode cX1_repealedBy 11 = .ok (.iload_n 3, 1) := by decide +kernel
theorem dX1_repealedBy_12 : decode cX1_repealedBy 12 = .ok (.ishr, 1) := by decide +kernel
theorem dX1_repealedBy_13 : decode cX1_repealedBy 13 = .ok (.iconst 1, 1) := by decide +kernel
theorem dX1_repealedBy_14 : decode cX1_repealedBy 14 = .ok (.iand, 1) := by decide +kernel
theorem dX1_repealedBy_15 : decode cX1_repealedBy 15 = .ok (.ifCond .eq 23, 3) := by decide +kernel
theorem dX1_repealedBy_18 : decode cX1_repealedBy 18 = .ok (.aload_n 0, 1) := by decide +kernel
theorem dX1_repealedBy_19 : decode cX1_repealedBy 19 = .ok (.getfield 27, 3) := by decide +kernel
theorem dX1_repealedBy_22 : decode cX1_repealedBy 22 = .ok (.iload_n 3, 1) := by decide +kernel
theorem dX1_repealedBy_23 : decode cX1_repealedBy 23 = .ok (.iaload, 1) := by decide +kernel
theorem dX1_repealedBy_24 : decode cX1_repealedBy 24 = .ok (.ifCond .lt 14, 3) := by decide +kernel
theorem dX1_repealedBy_27 : decode cX1_repealedBy 27 = .ok (.iload_n 2, 1) := by decide +kernel
theorem dX1_repealedBy_28 : decode cX1_repealedBy 28 = .ok (.iconst 1, 1) := by decide +kernel
theorem dX1_repealedBy_29 : decode cX1_repealedBy 29 = .ok (.aload_n 0, 1) := by decide +kernel
theorem dX1_repealedBy_30 : decode cX1_repealedBy 30 = .ok (.getfield 27, 3) := by decide +kernel
theorem dX1_repealedBy_33 : decode cX1_repealedBy 33 = .ok (.iload_n 3, 1) := by decide +kernel
theorem dX1_repealedBy_34 : decode cX1_repealedBy 34 = .ok (.iaload, 1) := by decide +kernel
theorem dX1_repealedBy_35 : decode cX1_repealedBy 35 = .ok (.ishl, 1) := by decide +kernel
theorem dX1_repealedBy_36 : decode cX1_repealedBy 36 = .ok (.ior, 1) := by decide +kernel
theorem dX1_repealedBy_37 : decode cX1_repealedBy 37 = .ok (.istore_n 2, 1) := by decide +kernel
theorem dX1_repealedBy_38 : decode cX1_repealedBy 38 = .ok (.iinc 3 1, 3) := by decide +kernel
theorem dX1_repealedBy_41 : decode cX1_repealedBy 41 = .ok (.goto (-37), 3) := by decide +kernel
theorem dX1_repealedBy_44 : decode cX1_repealedBy 44 = .ok (.iload_n 2, 1) := by decide +kernel
theorem dX1_repealedBy_45 : decode cX1_repealedBy 45 = .ok (.ireturn, 1) := by decide +kernel
theorem dX1_standing_0 : decode cX1_standing 0 = .ok (.iload_n 1, 1) := by decide +kernel
theorem dX1_standing_1 : decode cX1_standing 1 = .ok (.aload_n 0, 1) := by decide +kernel
theorem dX1_standing_2 : decode cX1_standing 2 = .ok (.iload_n 1, 1) := by decide +kernel
theorem dX1_standing_3 : decode cX1_standing 3 = .ok (.invokevirtual 42, 3) := by decide +kernel
theorem dX1_standing_6 : decode cX1_standing 6 = .ok (.iconst (-1), 1) := by decide +kernel
theorem dX1_standing_7 : decode cX1_standing 7 = .ok (.ixor, 1) := by decide +kernel
theorem dX1_standing_8 : decode cX1_standing 8 = .ok (.iand, 1) := by decide +kernel
theorem dX1_standing_9 : decode cX1_standing 9 = .ok (.istore_n 2, 1) := by decide +kernel
theorem dX1_standing_10 : decode cX1_standing 10 = .ok (.iconst 0, 1) := by decide +kernel
theorem dX1_standing_11 : decode cX1_standing 11 = .ok (.istore_n 3, 1) := by decide +kernel
theorem dX1_standing_12 : decode cX1_standing 12 = .ok (.iconst 0, 1) := by decide +kernel
theorem dX1_standing_13 : decode cX1_standing 13 = .ok (.istore 4, 2) := by decide +kernel
theorem dX1_standing_15 : decode cX1_standing 15 = .ok (.iload 4, 2) := by decide +kernel
theorem dX1_standing_17 : decode cX1_standing 17 = .ok (.bipush 12, 2) := by decide +kernel
theorem dX1_standing_19 : decode cX1_standing 19 = .ok (.if_icmp .ge 49, 3) := by decide +kernel
theorem dX1_standing_22 : decode cX1_standing 22 = .ok (.iload_n 2, 1) := by decide +kernel
theorem dX1_standing_23 : decode cX1_standing 23 = .ok (.iload 4, 2) := by decide +kernel
theorem dX1_standing_25 : decode cX1_standing 25 = .ok (.ishr, 1) := by decide +kernel
theorem dX1_standing_26 : decode cX1_standing 26 = .ok (.iconst 1, 1) := by decide +kernel
theorem dX1_standing_27 : decode cX1_standing 27 = .ok (.iand, 1) := by decide +kernel
theorem dX1_standing_28 : decode cX1_standing 28 = .ok (.ifCond .eq 34, 3) := by decide +kernel
theorem dX1_standing_31 : decode cX1_standing 31 = .ok (.aload_n 0, 1) := by decide +kernel
theorem dX1_standing_32 : decode cX1_standing 32 = .ok (.getfield 24, 3) := by decide +kernel
theorem dX1_standing_35 : decode cX1_standing 35 = .ok (.iload 4, 2) := by decide +kernel
theorem dX1_standing_37 : decode cX1_standing 37 = .ok (.iaload, 1) := by decide +kernel
theorem dX1_standing_38 : decode cX1_standing 38 = .ok (.ifCond .lt 17, 3) := by decide +kernel
theorem dX1_standing_41 : decode cX1_standing 41 = .ok (.iload_n 3, 1) := by decide +kernel
theorem dX1_standing_42 : decode cX1_standing 42 = .ok (.aload_n 0, 1) := by decide +kernel
theorem dX1_standing_43 : decode cX1_standing 43 = .ok (.getfield 24, 3) := by decide +kernel
theorem dX1_standing_46 : decode cX1_standing 46 = .ok (.iload 4, 2) := by decide +kernel
theorem dX1_standing_48 : decode cX1_standing 48 = .ok (.iaload, 1) := by decide +kernel
theorem dX1_standing_49 : decode cX1_standing 49 = .ok (.ishr, 1) := by decide +kernel
theorem dX1_standing_50 : decode cX1_standing 50 = .ok (.iconst 1, 1) := by decide +kernel
theorem dX1_standing_51 : decode cX1_standing 51 = .ok (.iand, 1) := by decide +kernel
theorem dX1_standing_52 : decode cX1_standing 52 = .ok (.ifCond .eq 10, 3) := by decide +kernel
theorem dX1_standing_55 : decode cX1_standing 55 = .ok (.iload_n 3, 1) := by decide +kernel
theorem dX1_standing_56 : decode cX1_standing 56 = .ok (.iconst 1, 1) := by decide +kernel
theorem dX1_standing_57 : decode cX1_standing 57 = .ok (.iload 4, 2) := by decide +kernel
theorem dX1_standing_59 : decode cX1_standing 59 = .ok (.ishl, 1) := by decide +kernel
theorem dX1_standing_60 : decode cX1_standing 60 = .ok (.ior, 1) := by decide +kernel
theorem dX1_standing_61 : decode cX1_standing 61 = .ok (.istore_n 3, 1) := by decide +kernel
theorem dX1_standing_62 : decode cX1_standing 62 = .ok (.iinc 4 1, 3) := by decide +kernel
theorem dX1_standing_65 : decode cX1_standing 65 = .ok (.goto (-50), 3) := by decide +kernel
theorem dX1_standing_68 : decode cX1_standing 68 = .ok (.iload_n 3, 1) := by decide +kernel
theorem dX1_standing_69 : decode cX1_standing 69 = .ok (.ireturn, 1) := by decide +kernel
theorem dX1_onStake_0 : decode cX1_onStake 0 = .ok (.iconst 0, 1) := by decide +kernel
theorem dX1_onStake_1 : decode cX1_onStake 1 = .ok (.istore_n 3, 1) := by decide +kernel
theorem dX1_onStake_2 : decode cX1_onStake 2 = .ok (.iconst 0, 1) := by decide +kernel
theorem dX1_onStake_3 : decode cX1_onStake 3 = .ok (.istore 4, 2) := by decide +kernel
theorem dX1_onStake_5 : decode cX1_onStake 5 = .ok (.iload 4, 2) := by decide +kernel
theorem dX1_onStake_7 : decode cX1_onStake 7 = .ok (.bipush 12, 2) := by decide +kernel
theorem dX1_onStake_9 : decode cX1_onStake 9 = .ok (.if_icmp .ge 36, 3) := by decide +kernel
theorem dX1_onStake_12 : decode cX1_onStake 12 = .ok (.iload_n 2, 1) := by decide +kernel
theorem dX1_onStake_13 : decode cX1_onStake 13 = .ok (.iload 4, 2) := by decide +kernel
theorem dX1_onStake_15 : decode cX1_onStake 15 = .ok (.ishr, 1) := by decide +kernel
theorem dX1_onStake_16 : decode cX1_onStake 16 = .ok (.iconst 1, 1) := by decide +kernel
theorem dX1_onStake_17 : decode cX1_onStake 17 = .ok (.iand, 1) := by decide +kernel
theorem dX1_onStake_18 : decode cX1_onStake 18 = .ok (.ifCond .eq 21, 3) := by decide +kernel
theorem dX1_onStake_21 : decode cX1_onStake 21 = .ok (.aload_n 0, 1) := by decide +kernel
theorem dX1_onStake_22 : decode cX1_onStake 22 = .ok (.getfield 9, 3) := by decide +kernel
theorem dX1_onStake_25 : decode cX1_onStake 25 = .ok (.iload 4, 2) := by decide +kernel
theorem dX1_onStake_27 : decode cX1_onStake 27 = .ok (.iaload, 1) := by decide +kernel
theorem dX1_onStake_28 : decode cX1_onStake 28 = .ok (.iload_n 1, 1) := by decide +kernel
theorem dX1_onStake_29 : decode cX1_onStake 29 = .ok (.if_icmp .ne 10, 3) := by decide +kernel
theorem dX1_onStake_32 : decode cX1_onStake 32 = .ok (.iload_n 3, 1) := by decide +kernel
theorem dX1_onStake_33 : decode cX1_onStake 33 = .ok (.iconst 1, 1) := by decide +kernel
theorem dX1_onStake_34 : decode cX1_onStake 34 = .ok (.iload 4, 2) := by decide +kernel
theorem dX1_onStake_36 : decode cX1_onStake 36 = .ok (.ishl, 1) := by decide +kernel
theorem dX1_onStake_37 : decode cX1_onStake 37 = .ok (.ior, 1) := by decide +kernel
theorem dX1_onStake_38 : decode cX1_onStake 38 = .ok (.istore_n 3, 1) := by decide +kernel
theorem dX1_onStake_39 : decode cX1_onStake 39 = .ok (.iinc 4 1, 3) := by decide +kernel
theorem dX1_onStake_42 : decode cX1_onStake 42 = .ok (.goto (-37), 3) := by decide +kernel
theorem dX1_onStake_45 : decode cX1_onStake 45 = .ok (.iload_n 3, 1) := by decide +kernel
theorem dX1_onStake_46 : decode cX1_onStake 46 = .ok (.ireturn, 1) := by decide +kernel
theorem dX1_othersNear_0 : decode cX1_othersNear 0 = .ok (.iload_n 1, 1) := by decide +kernel
theorem dX1_othersNear_1 : decode cX1_othersNear 1 = .ok (.ifCond .lt 9, 3) := by decide +kernel
theorem dX1_othersNear_4 : decode cX1_othersNear 4 = .ok (.iload_n 1, 1) := by decide +kernel
theorem dX1_othersNear_5 : decode cX1_othersNear 5 = .ok (.bipush 12, 2) := by decide +kernel
theorem dX1_othersNear_7 : decode cX1_othersNear 7 = .ok (.if_icmp .lt 5, 3) := by decide +kernel
theorem dX1_othersNear_10 : decode cX1_othersNear 10 = .ok (.iconst 0, 1) := by decide +kernel
theorem dX1_othersNear_11 : decode cX1_othersNear 11 = .ok (.ireturn, 1) := by decide +kernel
theorem dX1_othersNear_12 : decode cX1_othersNear 12 = .ok (.iconst 0, 1) := by decide +kernel
theorem dX1_othersNear_13 : decode cX1_othersNear 13 = .ok (.istore_n 3, 1) := by decide +kernel
theorem dX1_othersNear_14 : decode cX1_othersNear 14 = .ok (.iconst 0, 1) := by decide +kernel
theorem dX1_othersNear_15 : decode cX1_othersNear 15 = .ok (.istore 4, 2) := by decide +kernel
theorem dX1_othersNear_17 : decode cX1_othersNear 17 = .ok (.iload 4, 2) := by decide +kernel
theorem dX1_othersNear_19 : decode cX1_othersNear 19 = .ok (.bipush 12, 2) := by decide +kernel
theorem dX1_othersNear_21 : decode cX1_othersNear 21 = .ok (.if_icmp .ge 48, 3) := by decide +kernel
theorem dX1_othersNear_24 : decode cX1_othersNear 24 = .ok (.iload 4, 2) := by decide +kernel
theorem dX1_othersNear_26 : decode cX1_othersNear 26 = .ok (.iload_n 1, 1) := by decide +kernel
theorem dX1_othersNear_27 : decode cX1_othersNear 27 = .ok (.if_icmp .eq 36, 3) := by decide +kernel
theorem dX1_othersNear_30 : decode cX1_othersNear 30 = .ok (.iload_n 2, 1) := by decide +kernel
theorem dX1_othersNear_31 : decode cX1_othersNear 31 = .ok (.iload 4, 2) := by decide +kernel
theorem dX1_othersNear_33 : decode cX1_othersNear 33 = .ok (.ishr, 1) := by decide +kernel
theorem dX1_othersNear_34 : decode cX1_othersNear 34 = .ok (.iconst 1, 1) := by decide +kernel
theorem dX1_othersNear_35 : decode cX1_othersNear 35 = .ok (.iand, 1) := by decide +kernel
theorem dX1_othersNear_36 : decode cX1_othersNear 36 = .ok (.ifCond .eq 27, 3) := by decide +kernel
theorem dX1_othersNear_39 : decode cX1_othersNear 39 = .ok (.aload_n 0, 1) := by decide +kernel
theorem dX1_othersNear_40 : decode cX1_othersNear 40 = .ok (.getfield 9, 3) := by decide +kernel
theorem dX1_othersNear_43 : decode cX1_othersNear 43 = .ok (.iload 4, 2) := by decide +kernel
theorem dX1_othersNear_45 : decode cX1_othersNear 45 = .ok (.iaload, 1) := by decide +kernel
theorem dX1_othersNear_46 : decode cX1_othersNear 46 = .ok (.aload_n 0, 1) := by decide +kernel
theorem dX1_othersNear_47 : decode cX1_othersNear 47 = .ok (.getfield 9, 3) := by decide +kernel
theorem dX1_othersNear_50 : decode cX1_othersNear 50 = .ok (.iload_n 1, 1) := by decide +kernel
theorem dX1_othersNear_51 : decode cX1_othersNear 51 = .ok (.iaload, 1) := by decide +kernel
theorem dX1_othersNear_52 : decode cX1_othersNear 52 = .ok (.isub, 1) := by decide +kernel
theorem dX1_othersNear_53 : decode cX1_othersNear 53 = .ok (.invokestatic 46, 3) := by decide +kernel
theorem dX1_othersNear_56 : decode cX1_othersNear 56 = .ok (.iconst 1, 1) := by decide +kernel
theorem dX1_othersNear_57 : decode cX1_othersNear 57 = .ok (.if_icmp .gt 6, 3) := by decide +kernel
theorem dX1_othersNear_60 : decode cX1_othersNear 60 = .ok (.iinc 3 1, 3) := by decide +kernel
theorem dX1_othersNear_63 : decode cX1_othersNear 63 = .ok (.iinc 4 1, 3) := by decide +kernel
theorem dX1_othersNear_66 : decode cX1_othersNear 66 = .ok (.goto (-49), 3) := by decide +kernel
theorem dX1_othersNear_69 : decode cX1_othersNear 69 = .ok (.iload_n 3, 1) := by decide +kernel
theorem dX1_othersNear_70 : decode cX1_othersNear 70 = .ok (.ireturn, 1) := by decide +kernel
theorem dX1_readInto_0 : decode cX1_readInto 0 = .ok (.iconst 0, 1) := by decide +kernel
theorem dX1_readInto_1 : decode cX1_readInto 1 = .ok (.istore_n 3, 1) := by decide +kernel
theorem dX1_readInto_2 : decode cX1_readInto 2 = .ok (.iload_n 3, 1) := by decide +kernel
theorem dX1_readInto_3 : decode cX1_readInto 3 = .ok (.aload_n 1, 1) := by decide +kernel
theorem dX1_readInto_4 : decode cX1_readInto 4 = .ok (.arraylength, 1) := by decide +kernel
theorem dX1_readInto_5 : decode cX1_readInto 5 = .ok (.if_icmp .ge 13, 3) := by decide +kernel
theorem dX1_readInto_8 : decode cX1_readInto 8 = .ok (.aload_n 1, 1) := by decide +kernel
theorem dX1_readInto_9 : decode cX1_readInto 9 = .ok (.iload_n 3, 1) := by decide +kernel
theorem dX1_readInto_10 : decode cX1_readInto 10 = .ok (.iconst 0, 1) := by decide +kernel
theorem dX1_readInto_11 : decode cX1_readInto 11 = .ok (.iastore, 1) := by decide +kernel
theorem dX1_readInto_12 : decode cX1_readInto 12 = .ok (.iinc 3 1, 3) := by decide +kernel
theorem dX1_readInto_15 : decode cX1_readInto 15 = .ok (.goto (-13), 3) := by decide +kernel
theorem dX1_readInto_18 : decode cX1_readInto 18 = .ok (.iconst 0, 1) := by decide +kernel
theorem dX1_readInto_19 : decode cX1_readInto 19 = .ok (.istore_n 3, 1) := by decide +kernel
theorem dX1_readInto_20 : decode cX1_readInto 20 = .ok (.iload_n 3, 1) := by decide +kernel
theorem dX1_readInto_21 : decode cX1_readInto 21 = .ok (.aload_n 0, 1) := by decide +kernel
theorem dX1_readInto_22 : decode cX1_readInto 22 = .ok (.getfield 30, 3) := by decide +kernel
theorem dX1_readInto_25 : decode cX1_readInto 25 = .ok (.arraylength, 1) := by decide +kernel
theorem dX1_readInto_26 : decode cX1_readInto 26 = .ok (.if_icmp .ge 95, 3) := by decide +kernel
theorem dX1_readInto_29 : decode cX1_readInto 29 = .ok (.aload_n 0, 1) := by decide +kernel
theorem dX1_readInto_30 : decode cX1_readInto 30 = .ok (.getfield 30, 3) := by decide +kernel
theorem dX1_readInto_33 : decode cX1_readInto 33 = .ok (.iload_n 3, 1) := by decide +kernel
theorem dX1_readInto_34 : decode cX1_readInto 34 = .ok (.iaload, 1) := by decide +kernel
theorem dX1_readInto_35 : decode cX1_readInto 35 = .ok (.istore 4, 2) := by decide +kernel
theorem dX1_readInto_37 : decode cX1_readInto 37 = .ok (.iload 4, 2) := by decide +kernel
theorem dX1_readInto_39 : decode cX1_readInto 39 = .ok (.ifCond .lt 76, 3) := by decide +kernel
theorem dX1_readInto_42 : decode cX1_readInto 42 = .ok (.iload 4, 2) := by decide +kernel
theorem dX1_readInto_44 : decode cX1_readInto 44 = .ok (.bipush 12, 2) := by decide +kernel
theorem dX1_readInto_46 : decode cX1_readInto 46 = .ok (.if_icmp .ge 69, 3) := by decide +kernel
theorem dX1_readInto_49 : decode cX1_readInto 49 = .ok (.iload_n 2, 1) := by decide +kernel
theorem dX1_readInto_50 : decode cX1_readInto 50 = .ok (.iload 4, 2) := by decide +kernel
theorem dX1_readInto_52 : decode cX1_readInto 52 = .ok (.ishr, 1) := by decide +kernel
theorem dX1_readInto_53 : decode cX1_readInto 53 = .ok (.iconst 1, 1) := by decide +kernel
theorem dX1_readInto_54 : decode cX1_readInto 54 = .ok (.iand, 1) := by decide +kernel
theorem dX1_readInto_55 : decode cX1_readInto 55 = .ok (.ifCond .eq 60, 3) := by decide +kernel
theorem dX1_readInto_58 : decode cX1_readInto 58 = .ok (.aload_n 0, 1) := by decide +kernel
theorem dX1_readInto_59 : decode cX1_readInto 59 = .ok (.getfield 18, 3) := by decide +kernel
theorem dX1_readInto_62 : decode cX1_readInto 62 = .ok (.iload 4, 2) := by decide +kernel
theorem dX1_readInto_64 : decode cX1_readInto 64 = .ok (.iaload, 1) := by decide +kernel
theorem dX1_readInto_65 : decode cX1_readInto 65 = .ok (.istore 5, 2) := by decide +kernel
theorem dX1_readInto_67 : decode cX1_readInto 67 = .ok (.iload 5, 2) := by decide +kernel
theorem dX1_readInto_69 : decode cX1_readInto 69 = .ok (.ifCond .lt 46, 3) := by decide +kernel
theorem dX1_readInto_72 : decode cX1_readInto 72 = .ok (.iload 5, 2) := by decide +kernel
theorem dX1_readInto_74 : decode cX1_readInto 74 = .ok (.aload_n 1, 1) := by decide +kernel
theorem dX1_readInto_75 : decode cX1_readInto 75 = .ok (.arraylength, 1) := by decide +kernel
theorem dX1_readInto_76 : decode cX1_readInto 76 = .ok (.if_icmp .ge 39, 3) := by decide +kernel
theorem dX1_readInto_79 : decode cX1_readInto 79 = .ok (.aload_n 1, 1) := by decide +kernel
theorem dX1_readInto_80 : decode cX1_readInto 80 = .ok (.iload 5, 2) := by decide +kernel
theorem dX1_readInto_82 : decode cX1_readInto 82 = .ok (.aload_n 0, 1) := by decide +kernel
theorem dX1_readInto_83 : decode cX1_readInto 83 = .ok (.getfield 24, 3) := by decide +kernel
theorem dX1_readInto_86 : decode cX1_readInto 86 = .ok (.iload 4, 2) := by decide +kernel
theorem dX1_readInto_88 : decode cX1_readInto 88 = .ok (.iaload, 1) := by decide +kernel
theorem dX1_readInto_89 : decode cX1_readInto 89 = .ok (.ifCond .ge 13, 3) := by decide +kernel
theorem dX1_readInto_92 : decode cX1_readInto 92 = .ok (.aload_n 0, 1) := by decide +kernel
theorem dX1_readInto_93 : decode cX1_readInto 93 = .ok (.getfield 21, 3) := by decide +kernel
theorem dX1_readInto_96 : decode cX1_readInto 96 = .ok (.iload 4, 2) := by decide +kernel
theorem dX1_readInto_98 : decode cX1_readInto 98 = .ok (.iaload, 1) := by decide +kernel
theorem dX1_readInto_99 : decode cX1_readInto 99 = .ok (.goto 15, 3) := by decide +kernel
theorem dX1_readInto_102 : decode cX1_readInto 102 = .ok (.aload_n 1, 1) := by decide +kernel
theorem dX1_readInto_103 : decode cX1_readInto 103 = .ok (.iload 5, 2) := by decide +kernel
theorem dX1_readInto_105 : decode cX1_readInto 105 = .ok (.iaload, 1) := by decide +kernel
theorem dX1_readInto_106 : decode cX1_readInto 106 = .ok (.aload_n 0, 1) := by decide +kernel
theorem dX1_readInto_107 : decode cX1_readInto 107 = .ok (.getfield 21, 3) := by decide +kernel
theorem dX1_readInto_110 : decode cX1_readInto 110 = .ok (.iload 4, 2) := by decide +kernel
theorem dX1_readInto_112 : decode cX1_readInto 112 = .ok (.iaload, 1) := by decide +kernel
theorem dX1_readInto_113 : decode cX1_readInto 113 = .ok (.iadd, 1) := by decide +kernel
theorem dX1_readInto_114 : decode cX1_readInto 114 = .ok (.iastore, 1) := by decide +kernel
theorem dX1_readInto_115 : decode cX1_readInto 115 = .ok (.iinc 3 1, 3) := by decide +kernel
theorem dX1_readInto_118 : decode cX1_readInto 118 = .ok (.goto (-98), 3) := by decide +kernel
theorem dX1_readInto_121 : decode cX1_readInto 121 = .ok (.return_, 1) := by decide +kernel
theorem dX1_lawOf_0 : decode cX1_lawOf 0 = .ok (.aload_n 0, 1) := by decide +kernel
theorem dX1_lawOf_1 : decode cX1_lawOf 1 = .ok (.iload_n 1, 1) := by decide +kernel
theorem dX1_lawOf_2 : decode cX1_lawOf 2 = .ok (.iload_n 2, 1) := by decide +kernel
theorem dX1_lawOf_3 : decode cX1_lawOf 3 = .ok (.iconst (-1), 1) := by decide +kernel
theorem dX1_lawOf_4 : decode cX1_lawOf 4 = .ok (.iconst 0, 1) := by decide +kernel
theorem dX1_lawOf_5 : decode cX1_lawOf 5 = .ok (.invokevirtual 51, 3) := by decide +kernel
theorem dX1_lawOf_8 : decode cX1_lawOf 8 = .ok (.ireturn, 1) := by decide +kernel
theorem dX1_lawWithNew_0 : decode cX1_lawWithNew 0 = .ok (.iconst 0, 1) := by decide +kernel
theorem dX1_lawWithNew_1 : decode cX1_lawWithNew 1 = .ok (.istore 5, 2) := by decide +kernel
theorem dX1_lawWithNew_3 : decode cX1_lawWithNew 3 = .ok (.iload_n 3, 1) := by decide +kernel
theorem dX1_lawWithNew_4 : decode cX1_lawWithNew 4 = .ok (.ifCond .ge 7, 3) := by decide +kernel
theorem dX1_lawWithNew_7 : decode cX1_lawWithNew 7 = .ok (.iconst 1, 1) := by decide +kernel
theorem dX1_lawWithNew_8 : decode cX1_lawWithNew 8 = .ok (.goto 4, 3) := by decide +kernel
theorem dX1_lawWithNew_11 : decode cX1_lawWithNew 11 = .ok (.iconst 0, 1) := by decide +kernel
theorem dX1_lawWithNew_12 : decode cX1_lawWithNew 12 = .ok (.istore 6, 2) := by decide +kernel
theorem dX1_lawWithNew_14 : decode cX1_lawWithNew 14 = .ok (.iconst 0, 1) := by decide +kernel
theorem dX1_lawWithNew_15 : decode cX1_lawWithNew 15 = .ok (.istore 7, 2) := by decide +kernel
theorem dX1_lawWithNew_17 : decode cX1_lawWithNew 17 = .ok (.iload 7, 2) := by decide +kernel
theorem dX1_lawWithNew_19 : decode cX1_lawWithNew 19 = .ok (.aload_n 0, 1) := by decide +kernel
theorem dX1_lawWithNew_20 : decode cX1_lawWithNew 20 = .ok (.getfield 30, 3) := by decide +kernel
theorem dX1_lawWithNew_23 : decode cX1_lawWithNew 23 = .ok (.arraylength, 1) := by decide +kernel
theorem dX1_lawWithNew_24 : decode cX1_lawWithNew 24 = .ok (.if_icmp .ge 105, 3) := by decide +kernel
theorem dX1_lawWithNew_27 : decode cX1_lawWithNew 27 = .ok (.aload_n 0, 1) := by decide +kernel
theorem dX1_lawWithNew_28 : decode cX1_lawWithNew 28 = .ok (.getfield 30, 3) := by decide +kernel
theorem dX1_lawWithNew_31 : decode cX1_lawWithNew 31 = .ok (.iload 7, 2) := by decide +kernel
theorem dX1_lawWithNew_33 : decode cX1_lawWithNew 33 = .ok (.iaload, 1) := by decide +kernel
theorem dX1_lawWithNew_34 : decode cX1_lawWithNew 34 = .ok (.istore 8, 2) := by decide +kernel
theorem dX1_lawWithNew_36 : decode cX1_lawWithNew 36 = .ok (.iload 8, 2) := by decide +kernel
theorem dX1_lawWithNew_38 : decode cX1_lawWithNew 38 = .ok (.ifCond .lt 85, 3) := by decide +kernel
theorem dX1_lawWithNew_41 : decode cX1_lawWithNew 41 = .ok (.iload 8, 2) := by decide +kernel
theorem dX1_lawWithNew_43 : decode cX1_lawWithNew 43 = .ok (.bipush 12, 2) := by decide +kernel
theorem dX1_lawWithNew_45 : decode cX1_lawWithNew 45 = .ok (.if_icmp .ge 78, 3) := by decide +kernel
theorem dX1_lawWithNew_48 : decode cX1_lawWithNew 48 = .ok (.iload_n 2, 1) := by decide +kernel
theorem dX1_lawWithNew_49 : decode cX1_lawWithNew 49 = .ok (.iload 8, 2) := by decide +kernel
theorem dX1_lawWithNew_51 : decode cX1_lawWithNew 51 = .ok (.ishr, 1) := by decide +kernel
theorem dX1_lawWithNew_52 : decode cX1_lawWithNew 52 = .ok (.iconst 1, 1) := by decide +kernel
theorem dX1_lawWithNew_53 : decode cX1_lawWithNew 53 = .ok (.iand, 1) := by decide +kernel
theorem dX1_lawWithNew_54 : decode cX1_lawWithNew 54 = .ok (.ifCond .eq 69, 3) := by decide +kernel
theorem dX1_lawWithNew_57 : decode cX1_lawWithNew 57 = .ok (.aload_n 0, 1) := by decide +kernel
theorem dX1_lawWithNew_58 : decode cX1_lawWithNew 58 = .ok (.getfield 18, 3) := by decide +kernel
theorem dX1_lawWithNew_61 : decode cX1_lawWithNew 61 = .ok (.iload 8, 2) := by decide +kernel
theorem dX1_lawWithNew_63 : decode cX1_lawWithNew 63 = .ok (.iaload, 1) := by decide +kernel
theorem dX1_lawWithNew_64 : decode cX1_lawWithNew 64 = .ok (.iload_n 1, 1) := by decide +kernel
theorem dX1_lawWithNew_65 : decode cX1_lawWithNew 65 = .ok (.if_icmp .ne 58, 3) := by decide +kernel
theorem dX1_lawWithNew_68 : decode cX1_lawWithNew 68 = .ok (.iload 6, 2) := by decide +kernel
theorem dX1_lawWithNew_70 : decode cX1_lawWithNew 70 = .ok (.ifCond .ne 21, 3) := by decide +kernel
theorem dX1_lawWithNew_73 : decode cX1_lawWithNew 73 = .ok (.aload_n 0, 1) := by decide +kernel
theorem dX1_lawWithNew_74 : decode cX1_lawWithNew 74 = .ok (.getfield 9, 3) := by decide +kernel
theorem dX1_lawWithNew_77 : decode cX1_lawWithNew 77 = .ok (.iload 8, 2) := by decide +kernel
theorem dX1_lawWithNew_79 : decode cX1_lawWithNew 79 = .ok (.iaload, 1) := by decide +kernel
theorem dX1_lawWithNew_80 : decode cX1_lawWithNew 80 = .ok (.iload_n 3, 1) := by decide +kernel
theorem dX1_lawWithNew_81 : decode cX1_lawWithNew 81 = .ok (.if_icmp .le 10, 3) := by decide +kernel
theorem dX1_lawWithNew_84 : decode cX1_lawWithNew 84 = .ok (.iload 4, 2) := by decide +kernel
theorem dX1_lawWithNew_86 : decode cX1_lawWithNew 86 = .ok (.istore 5, 2) := by decide +kernel
theorem dX1_lawWithNew_88 : decode cX1_lawWithNew 88 = .ok (.iconst 1, 1) := by decide +kernel
theorem dX1_lawWithNew_89 : decode cX1_lawWithNew 89 = .ok (.istore 6, 2) := by decide +kernel
theorem dX1_lawWithNew_91 : decode cX1_lawWithNew 91 = .ok (.aload_n 0, 1) := by decide +kernel
theorem dX1_lawWithNew_92 : decode cX1_lawWithNew 92 = .ok (.getfield 24, 3) := by decide +kernel
theorem dX1_lawWithNew_95 : decode cX1_lawWithNew 95 = .ok (.iload 8, 2) := by decide +kernel
theorem dX1_lawWithNew_97 : decode cX1_lawWithNew 97 = .ok (.iaload, 1) := by decide +kernel
theorem dX1_lawWithNew_98 : decode cX1_lawWithNew 98 = .ok (.ifCond .ge 13, 3) := by decide +kernel
theorem dX1_lawWithNew_101 : decode cX1_lawWithNew 101 = .ok (.aload_n 0, 1) := by decide +kernel
theorem dX1_lawWithNew_102 : decode cX1_lawWithNew 102 = .ok (.getfield 21, 3) := by decide +kernel
theorem dX1_lawWithNew_105 : decode cX1_lawWithNew 105 = .ok (.iload 8, 2) := by decide +kernel
theorem dX1_lawWithNew_107 : decode cX1_lawWithNew 107 = .ok (.iaload, 1) := by decide +kernel
theorem dX1_lawWithNew_108 : decode cX1_lawWithNew 108 = .ok (.goto 13, 3) := by decide +kernel
theorem dX1_lawWithNew_111 : decode cX1_lawWithNew 111 = .ok (.iload 5, 2) := by decide +kernel
theorem dX1_lawWithNew_113 : decode cX1_lawWithNew 113 = .ok (.aload_n 0, 1) := by decide +kernel
theorem dX1_lawWithNew_114 : decode cX1_lawWithNew 114 = .ok (.getfield 21, 3) := by decide +kernel
theorem dX1_lawWithNew_117 : decode cX1_lawWithNew 117 = .ok (.iload 8, 2) := by decide +kernel
theorem dX1_lawWithNew_119 : decode cX1_lawWithNew 119 = .ok (.iaload, 1) := by decide +kernel
theorem dX1_lawWithNew_120 : decode cX1_lawWithNew 120 = .ok (.iadd, 1) := by decide +kernel
theorem dX1_lawWithNew_121 : decode cX1_lawWithNew 121 = .ok (.istore 5, 2) := by decide +kernel
theorem dX1_lawWithNew_123 : decode cX1_lawWithNew 123 = .ok (.iinc 7 1, 3) := by decide +kernel
theorem dX1_lawWithNew_126 : decode cX1_lawWithNew 126 = .ok (.goto (-109), 3) := by decide +kernel
theorem dX1_lawWithNew_129 : decode cX1_lawWithNew 129 = .ok (.iload 6, 2) := by decide +kernel
theorem dX1_lawWithNew_131 : decode cX1_lawWithNew 131 = .ok (.ifCond .eq 8, 3) := by decide +kernel
theorem dX1_lawWithNew_134 : decode cX1_lawWithNew 134 = .ok (.iload 5, 2) := by decide +kernel
theorem dX1_lawWithNew_136 : decode cX1_lawWithNew 136 = .ok (.goto 5, 3) := by decide +kernel
theorem dX1_lawWithNew_139 : decode cX1_lawWithNew 139 = .ok (.iload 4, 2) := by decide +kernel
theorem dX1_lawWithNew_141 : decode cX1_lawWithNew 141 = .ok (.ireturn, 1) := by decide +kernel
theorem dX1_clashing_0 : decode cX1_clashing 0 = .ok (.iconst 0, 1) := by decide +kernel
theorem dX1_clashing_1 : decode cX1_clashing 1 = .ok (.istore_n 2, 1) := by decide +kernel
theorem dX1_clashing_2 : decode cX1_clashing 2 = .ok (.iconst 0, 1) := by decide +kernel
theorem dX1_clashing_3 : decode cX1_clashing 3 = .ok (.istore_n 3, 1) := by decide +kernel
theorem dX1_clashing_4 : decode cX1_clashing 4 = .ok (.iload_n 3, 1) := by decide +kernel
theorem dX1_clashing_5 : decode cX1_clashing 5 = .ok (.bipush 12, 2) := by decide +kernel
theorem dX1_clashing_7 : decode cX1_clashing 7 = .ok (.if_icmp .ge 53, 3) := by decide +kernel
theorem dX1_clashing_10 : decode cX1_clashing 10 = .ok (.iload_n 3, 1) := by decide +kernel
theorem dX1_clashing_11 : decode cX1_clashing 11 = .ok (.iconst 1, 1) := by decide +kernel
theorem dX1_clashing_12 : decode cX1_clashing 12 = .ok (.iadd, 1) := by decide +kernel
theorem dX1_clashing_13 : decode cX1_clashing 13 = .ok (.istore 4, 2) := by decide +kernel
theorem dX1_clashing_15 : decode cX1_clashing 15 = .ok (.iload 4, 2) := by decide +kernel
theorem dX1_clashing_17 : decode cX1_clashing 17 = .ok (.bipush 12, 2) := by decide +kernel
theorem dX1_clashing_19 : decode cX1_clashing 19 = .ok (.if_icmp .ge 35, 3) := by decide +kernel
theorem dX1_clashing_22 : decode cX1_clashing 22 = .ok (.iload_n 1, 1) := by decide +kernel
theorem dX1_clashing_23 : decode cX1_clashing 23 = .ok (.iload_n 3, 1) := by decide +kernel
theorem dX1_clashing_24 : decode cX1_clashing 24 = .ok (.ishr, 1) := by decide +kernel
theorem dX1_clashing_25 : decode cX1_clashing 25 = .ok (.iload_n 1, 1) := by decide +kernel
theorem dX1_clashing_26 : decode cX1_clashing 26 = .ok (.iload 4, 2) := by decide +kernel
theorem dX1_clashing_28 : decode cX1_clashing 28 = .ok (.ishr, 1) := by decide +kernel
theorem dX1_clashing_29 : decode cX1_clashing 29 = .ok (.iand, 1) := by decide +kernel
theorem dX1_clashing_30 : decode cX1_clashing 30 = .ok (.iconst 1, 1) := by decide +kernel
theorem dX1_clashing_31 : decode cX1_clashing 31 = .ok (.iand, 1) := by decide +kernel
theorem dX1_clashing_32 : decode cX1_clashing 32 = .ok (.ifCond .eq 16, 3) := by decide +kernel
theorem dX1_clashing_35 : decode cX1_clashing 35 = .ok (.aload_n 0, 1) := by decide +kernel
theorem dX1_clashing_36 : decode cX1_clashing 36 = .ok (.iload_n 3, 1) := by decide +kernel
theorem dX1_clashing_37 : decode cX1_clashing 37 = .ok (.iload 4, 2) := by decide +kernel
theorem dX1_clashing_39 : decode cX1_clashing 39 = .ok (.invokevirtual 55, 3) := by decide +kernel
theorem dX1_clashing_42 : decode cX1_clashing 42 = .ok (.ifCond .eq 6, 3) := by decide +kernel
theorem dX1_clashing_45 : decode cX1_clashing 45 = .ok (.iinc 2 1, 3) := by decide +kernel
theorem dX1_clashing_48 : decode cX1_clashing 48 = .ok (.iinc 4 1, 3) := by decide +kernel
theorem dX1_clashing_51 : decode cX1_clashing 51 = .ok (.goto (-36), 3) := by decide +kernel
theorem dX1_clashing_54 : decode cX1_clashing 54 = .ok (.iinc 3 1, 3) := by decide +kernel
theorem dX1_clashing_57 : decode cX1_clashing 57 = .ok (.goto (-53), 3) := by decide +kernel
theorem dX1_clashing_60 : decode cX1_clashing 60 = .ok (.iload_n 2, 1) := by decide +kernel
theorem dX1_clashing_61 : decode cX1_clashing 61 = .ok (.ireturn, 1) := by decide +kernel
theorem dX1_isClash_0 : decode cX1_isClash 0 = .ok (.iload_n 1, 1) := by decide +kernel
theorem dX1_isClash_1 : decode cX1_isClash 1 = .ok (.ifCond .lt 19, 3) := by decide +kernel
theorem dX1_isClash_4 : decode cX1_isClash 4 = .ok (.iload_n 2, 1) := by decide +kernel
theorem dX1_isClash_5 : decode cX1_isClash 5 = .ok (.ifCond .lt 15, 3) := by decide +kernel
theorem dX1_isClash_8 : decode cX1_isClash 8 = .ok (.iload_n 1, 1) := by decide +kernel
theorem dX1_isClash_9 : decode cX1_isClash 9 = .ok (.bipush 12, 2) := by decide +kernel
theorem dX1_isClash_11 : decode cX1_isClash 11 = .ok (.if_icmp .ge 9, 3) := by decide +kernel
theorem dX1_isClash_14 : decode cX1_isClash 14 = .ok (.iload_n 2, 1) := by decide +kernel
theorem dX1_isClash_15 : decode cX1_isClash 15 = .ok (.bipush 12, 2) := by decide +kernel
theorem dX1_isClash_17 : decode cX1_isClash 17 = .ok (.if_icmp .lt 5, 3) := by decide +kernel
theorem dX1_isClash_20 : decode cX1_isClash 20 = .ok (.iconst 0, 1) := by decide +kernel
theorem dX1_isClash_21 : decode cX1_isClash 21 = .ok (.ireturn, 1) := by decide +kernel
theorem dX1_isClash_22 : decode cX1_isClash 22 = .ok (.aload_n 0, 1) := by decide +kernel
theorem dX1_isClash_23 : decode cX1_isClash 23 = .ok (.getfield 24, 3) := by decide +kernel
theorem dX1_isClash_26 : decode cX1_isClash 26 = .ok (.iload_n 1, 1) := by decide +kernel
theorem dX1_isClash_27 : decode cX1_isClash 27 = .ok (.iaload, 1) := by decide +kernel
theorem dX1_isClash_28 : decode cX1_isClash 28 = .ok (.ifCond .ge 55, 3) := by decide +kernel
theorem dX1_isClash_31 : decode cX1_isClash 31 = .ok (.aload_n 0, 1) := by decide +kernel
theorem dX1_isClash_32 : decode cX1_isClash 32 = .ok (.getfield 24, 3) := by decide +kernel
theorem dX1_isClash_35 : decode cX1_isClash 35 = .ok (.iload_n 2, 1) := by decide +kernel
theorem dX1_isClash_36 : decode cX1_isClash 36 = .ok (.iaload, 1) := by decide +kernel
theorem dX1_isClash_37 : decode cX1_isClash 37 = .ok (.ifCond .ge 46, 3) := by decide +kernel
theorem dX1_isClash_40 : decode cX1_isClash 40 = .ok (.aload_n 0, 1) := by decide +kernel
theorem dX1_isClash_41 : decode cX1_isClash 41 = .ok (.getfield 18, 3) := by decide +kernel
theorem dX1_isClash_44 : decode cX1_isClash 44 = .ok (.iload_n 1, 1) := by decide +kernel
theorem dX1_isClash_45 : decode cX1_isClash 45 = .ok (.iaload, 1) := by decide +kernel
theorem dX1_isClash_46 : decode cX1_isClash 46 = .ok (.ifCond .lt 37, 3) := by decide +kernel
theorem dX1_isClash_49 : decode cX1_isClash 49 = .ok (.aload_n 0, 1) := by decide +kernel
theorem dX1_isClash_50 : decode cX1_isClash 50 = .ok (.getfield 18, 3) := by decide +kernel
theorem dX1_isClash_53 : decode cX1_isClash 53 = .ok (.iload_n 1, 1) := by decide +kernel
theorem dX1_isClash_54 : decode cX1_isClash 54 = .ok (.iaload, 1) := by decide +kernel
theorem dX1_isClash_55 : decode cX1_isClash 55 = .ok (.aload_n 0, 1) := by decide +kernel
theorem dX1_isClash_56 : decode cX1_isClash 56 = .ok (.getfield 18, 3) := by decide +kernel
theorem dX1_isClash_59 : decode cX1_isClash 59 = .ok (.iload_n 2, 1) := by decide +kernel
theorem dX1_isClash_60 : decode cX1_isClash 60 = .ok (.iaload, 1) := by decide +kernel
theorem dX1_isClash_61 : decode cX1_isClash 61 = .ok (.if_icmp .ne 22, 3) := by decide +kernel
theorem dX1_isClash_64 : decode cX1_isClash 64 = .ok (.aload_n 0, 1) := by decide +kernel
theorem dX1_isClash_65 : decode cX1_isClash 65 = .ok (.getfield 21, 3) := by decide +kernel
theorem dX1_isClash_68 : decode cX1_isClash 68 = .ok (.iload_n 1, 1) := by decide +kernel
theorem dX1_isClash_69 : decode cX1_isClash 69 = .ok (.iaload, 1) := by decide +kernel
theorem dX1_isClash_70 : decode cX1_isClash 70 = .ok (.aload_n 0, 1) := by decide +kernel
theorem dX1_isClash_71 : decode cX1_isClash 71 = .ok (.getfield 21, 3) := by decide +kernel
theorem dX1_isClash_74 : decode cX1_isClash 74 = .ok (.iload_n 2, 1) := by decide +kernel
theorem dX1_isClash_75 : decode cX1_isClash 75 = .ok (.iaload, 1) := by decide +kernel
theorem dX1_isClash_76 : decode cX1_isClash 76 = .ok (.if_icmp .eq 7, 3) := by decide +kernel
theorem dX1_isClash_79 : decode cX1_isClash 79 = .ok (.iconst 1, 1) := by decide +kernel
theorem dX1_isClash_80 : decode cX1_isClash 80 = .ok (.goto 4, 3) := by decide +kernel
theorem dX1_isClash_83 : decode cX1_isClash 83 = .ok (.iconst 0, 1) := by decide +kernel
theorem dX1_isClash_84 : decode cX1_isClash 84 = .ok (.ireturn, 1) := by decide +kernel
theorem dX2_init_0 : decode cX2_init 0 = .ok (.aload_n 0, 1) := by decide +kernel
theorem dX2_init_1 : decode cX2_init 1 = .ok (.invokespecial 1, 3) := by decide +kernel
theorem dX2_init_4 : decode cX2_init 4 = .ok (.aload_n 0, 1) := by decide +kernel
theorem dX2_init_5 : decode cX2_init 5 = .ok (.sipush 272, 3) := by decide +kernel
theorem dX2_init_8 : decode cX2_init 8 = .ok (.newarray .int, 2) := by decide +kernel
theorem dX2_init_10 : decode cX2_init 10 = .ok (.putfield 9, 3) := by decide +kernel
theorem dX2_init_13 : decode cX2_init 13 = .ok (.aload_n 0, 1) := by decide +kernel
theorem dX2_init_14 : decode cX2_init 14 = .ok (.iconst 5, 1) := by decide +kernel
theorem dX2_init_15 : decode cX2_init 15 = .ok (.newarray .int, 2) := by decide +kernel
theorem dX2_init_17 : decode cX2_init 17 = .ok (.putfield 13, 3) := by decide +kernel
theorem dX2_init_20 : decode cX2_init 20 = .ok (.aload_n 0, 1) := by decide +kernel
theorem dX2_init_21 : decode cX2_init 21 = .ok (.bipush 32, 2) := by decide +kernel
theorem dX2_init_23 : decode cX2_init 23 = .ok (.newarray .int, 2) := by decide +kernel
theorem dX2_init_25 : decode cX2_init 25 = .ok (.putfield 16, 3) := by decide +kernel
theorem dX2_init_28 : decode cX2_init 28 = .ok (.return_, 1) := by decide +kernel
theorem dX2_clear_0 : decode cX2_clear 0 = .ok (.aload_n 0, 1) := by decide +kernel
theorem dX2_clear_1 : decode cX2_clear 1 = .ok (.iconst 0, 1) := by decide +kernel
theorem dX2_clear_2 : decode cX2_clear 2 = .ok (.putfield 19, 3) := by decide +kernel
theorem dX2_clear_5 : decode cX2_clear 5 = .ok (.aload_n 0, 1) := by decide +kernel
theorem dX2_clear_6 : decode cX2_clear 6 = .ok (.iconst 0, 1) := by decide +kernel
theorem dX2_clear_7 : decode cX2_clear 7 = .ok (.putfield 23, 3) := by decide +kernel
theorem dX2_clear_10 : decode cX2_clear 10 = .ok (.return_, 1) := by decide +kernel
theorem dX2_emit_0 : decode cX2_emit 0 = .ok (.aload_n 0, 1) := by decide +kernel
theorem dX2_emit_1 : decode cX2_emit 1 = .ok (.getfield 23, 3) := by decide +kernel
theorem dX2_emit_4 : decode cX2_emit 4 = .ok (.aload_n 0, 1) := by decide +kernel
theorem dX2_emit_5 : decode cX2_emit 5 = .ok (.getfield 9, 3) := by decide +kernel
theorem dX2_emit_8 : decode cX2_emit 8 = .ok (.arraylength, 1) := by decide +kernel
theorem dX2_emit_9 : decode cX2_emit 9 = .ok (.if_icmp .ge 23, 3) := by decide +kernel
theorem dX2_emit_12 : decode cX2_emit 12 = .ok (.aload_n 0, 1) := by decide +kernel
theorem dX2_emit_13 : decode cX2_emit 13 = .ok (.getfield 9, 3) := by decide +kernel
theorem dX2_emit_16 : decode cX2_emit 16 = .ok (.aload_n 0, 1) := by decide +kernel
theorem dX2_emit_17 : decode cX2_emit 17 = .ok (.getfield 23, 3) := by decide +kernel
theorem dX2_emit_20 : decode cX2_emit 20 = .ok (.iload_n 1, 1) := by decide +kernel
theorem dX2_emit_21 : decode cX2_emit 21 = .ok (.iastore, 1) := by decide +kernel
theorem dX2_emit_22 : decode cX2_emit 22 = .ok (.aload_n 0, 1) := by decide +kernel
theorem dX2_emit_23 : decode cX2_emit 23 = .ok (.dup, 1) := by decide +kernel
theorem dX2_emit_24 : decode cX2_emit 24 = .ok (.getfield 23, 3) := by decide +kernel
theorem dX2_emit_27 : decode cX2_emit 27 = .ok (.iconst 1, 1) := by decide +kernel
theorem dX2_emit_28 : decode cX2_emit 28 = .ok (.iadd, 1) := by decide +kernel
theorem dX2_emit_29 : decode cX2_emit 29 = .ok (.putfield 23, 3) := by decide +kernel
theorem dX2_emit_32 : decode cX2_emit 32 = .ok (.return_, 1) := by decide +kernel
theorem dX2_result_0 : decode cX2_result 0 = .ok (.aload_n 0, 1) := by decide +kernel
theorem dX2_result_1 : decode cX2_result 1 = .ok (.getfield 13, 3) := by decide +kernel
theorem dX2_result_4 : decode cX2_result 4 = .ok (.iconst 0, 1) := by decide +kernel
theorem dX2_result_5 : decode cX2_result 5 = .ok (.iload_n 1, 1) := by decide +kernel
theorem dX2_result_6 : decode cX2_result 6 = .ok (.iastore, 1) := by decide +kernel
theorem dX2_result_7 : decode cX2_result 7 = .ok (.aload_n 0, 1) := by decide +kernel
theorem dX2_result_8 : decode cX2_result 8 = .ok (.getfield 13, 3) := by decide +kernel
theorem dX2_result_11 : decode cX2_result 11 = .ok (.iconst 1, 1) := by decide +kernel
theorem dX2_result_12 : decode cX2_result 12 = .ok (.iload_n 2, 1) := by decide +kernel
theorem dX2_result_13 : decode cX2_result 13 = .ok (.iastore, 1) := by decide +kernel
theorem dX2_result_14 : decode cX2_result 14 = .ok (.aload_n 0, 1) := by decide +kernel
theorem dX2_result_15 : decode cX2_result 15 = .ok (.getfield 13, 3) := by decide +kernel
theorem dX2_result_18 : decode cX2_result 18 = .ok (.iconst 2, 1) := by decide +kernel
theorem dX2_result_19 : decode cX2_result 19 = .ok (.iload_n 3, 1) := by decide +kernel
theorem dX2_result_20 : decode cX2_result 20 = .ok (.iastore, 1) := by decide +kernel
theorem dX2_result_21 : decode cX2_result 21 = .ok (.aload_n 0, 1) := by decide +kernel
theorem dX2_result_22 : decode cX2_result 22 = .ok (.getfield 13, 3) := by decide +kernel
theorem dX2_result_25 : decode cX2_result 25 = .ok (.iconst 3, 1) := by decide +kernel
theorem dX2_result_26 : decode cX2_result 26 = .ok (.iload 4, 2) := by decide +kernel
theorem dX2_result_28 : decode cX2_result 28 = .ok (.iastore, 1) := by decide +kernel
theorem dX2_result_29 : decode cX2_result 29 = .ok (.aload_n 0, 1) := by decide +kernel
theorem dX2_result_30 : decode cX2_result 30 = .ok (.getfield 13, 3) := by decide +kernel
theorem dX2_result_33 : decode cX2_result 33 = .ok (.iconst 4, 1) := by decide +kernel
theorem dX2_result_34 : decode cX2_result 34 = .ok (.iload 5, 2) := by decide +kernel
theorem dX2_result_36 : decode cX2_result 36 = .ok (.iastore, 1) := by decide +kernel
theorem dX2_result_37 : decode cX2_result 37 = .ok (.iconst 0, 1) := by decide +kernel
theorem dX2_result_38 : decode cX2_result 38 = .ok (.istore 6, 2) := by decide +kernel
theorem dX2_result_40 : decode cX2_result 40 = .ok (.iconst 0, 1) := by decide +kernel
theorem dX2_result_41 : decode cX2_result 41 = .ok (.istore 7, 2) := by decide +kernel
theorem dX2_result_43 : decode cX2_result 43 = .ok (.iload 7, 2) := by decide +kernel
theorem dX2_result_45 : decode cX2_result 45 = .ok (.aload_n 0, 1) := by decide +kernel
theorem dX2_result_46 : decode cX2_result 46 = .ok (.getfield 23, 3) := by decide +kernel
theorem dX2_result_49 : decode cX2_result 49 = .ok (.if_icmp .ge 157, 3) := by decide +kernel
theorem dX2_result_52 : decode cX2_result 52 = .ok (.iload 7, 2) := by decide +kernel
theorem dX2_result_54 : decode cX2_result 54 = .ok (.aload_n 0, 1) := by decide +kernel
theorem dX2_result_55 : decode cX2_result 55 = .ok (.getfield 9, 3) := by decide +kernel
theorem dX2_result_58 : decode cX2_result 58 = .ok (.arraylength, 1) := by decide +kernel
theorem dX2_result_59 : decode cX2_result 59 = .ok (.if_icmp .ge 147, 3) := by decide +kernel
theorem dX2_result_62 : decode cX2_result 62 = .ok (.aload_n 0, 1) := by decide +kernel
theorem dX2_result_63 : decode cX2_result 63 = .ok (.getfield 9, 3) := by decide +kernel
theorem dX2_result_66 : decode cX2_result 66 = .ok (.iload 7, 2) := by decide +kernel
theorem dX2_result_68 : decode cX2_result 68 = .ok (.iaload, 1) := by decide +kernel
theorem dX2_result_69 : decode cX2_result 69 = .ok (.istore 8, 2) := by decide +kernel
theorem dX2_result_71 : decode cX2_result 71 = .ok (.iload 8, 2) := by decide +kernel
theorem dX2_result_73 : decode cX2_result 73 = .ok (.bipush (-6), 2) := by decide +kernel
theorem dX2_result_75 : decode cX2_result 75 = .ok (.if_icmp .le 45, 3) := by decide +kernel
theorem dX2_result_78 : decode cX2_result 78 = .ok (.iload 6, 2) := by decide +kernel
theorem dX2_result_80 : decode cX2_result 80 = .ok (.aload_n 0, 1) := by decide +kernel
theorem dX2_result_81 : decode cX2_result 81 = .ok (.getfield 16, 3) := by decide +kernel
theorem dX2_result_84 : decode cX2_result 84 = .ok (.arraylength, 1) := by decide +kernel
theorem dX2_result_85 : decode cX2_result 85 = .ok (.if_icmp .ge 115, 3) := by decide +kernel
theorem dX2_result_88 : decode cX2_result 88 = .ok (.aload_n 0, 1) := by decide +kernel
theorem dX2_result_89 : decode cX2_result 89 = .ok (.getfield 16, 3) := by decide +kernel
theorem dX2_result_92 : decode cX2_result 92 = .ok (.iload 6, 2) := by decide +kernel
theorem dX2_result_94 : decode cX2_result 94 = .ok (.iload 8, 2) := by decide +kernel
theorem dX2_result_96 : decode cX2_result 96 = .ok (.ifCond .lt 8, 3) := by decide +kernel
theorem dX2_result_99 : decode cX2_result 99 = .ok (.iload 8, 2) := by decide +kernel
theorem dX2_result_101 : decode cX2_result 101 = .ok (.goto 12, 3) := by decide +kernel
theorem dX2_result_104 : decode cX2_result 104 = .ok (.aload_n 0, 1) := by decide +kernel
theorem dX2_result_105 : decode cX2_result 105 = .ok (.getfield 13, 3) := by decide +kernel
theorem dX2_result_108 : decode cX2_result 108 = .ok (.iload 8, 2) := by decide +kernel
theorem dX2_result_110 : decode cX2_result 110 = .ok (.iconst (-1), 1) := by decide +kernel
theorem dX2_result_111 : decode cX2_result 111 = .ok (.ixor, 1) := by decide +kernel
theorem dX2_result_112 : decode cX2_result 112 = .ok (.iaload, 1) := by decide +kernel
theorem dX2_result_113 : decode cX2_result 113 = .ok (.iastore, 1) := by decide +kernel
theorem dX2_result_114 : decode cX2_result 114 = .ok (.iinc 6 1, 3) := by decide +kernel
theorem dX2_result_117 : decode cX2_result 117 = .ok (.goto 83, 3) := by decide +kernel
theorem dX2_result_120 : decode cX2_result 120 = .ok (.iload 8, 2) := by decide +kernel
theorem dX2_result_122 : decode cX2_result 122 = .ok (.bipush (-6), 2) := by decide +kernel
theorem dX2_result_124 : decode cX2_result 124 = .ok (.if_icmp .ne 37, 3) := by decide +kernel
theorem dX2_result_127 : decode cX2_result 127 = .ok (.iload 6, 2) := by decide +kernel
theorem dX2_result_129 : decode cX2_result 129 = .ok (.ifCond .le 71, 3) := by decide +kernel
theorem dX2_result_132 : decode cX2_result 132 = .ok (.aload_n 0, 1) := by decide +kernel
theorem dX2_result_133 : decode cX2_result 133 = .ok (.getfield 16, 3) := by decide +kernel
theorem dX2_result_136 : decode cX2_result 136 = .ok (.iload 6, 2) := by decide +kernel
theorem dX2_result_138 : decode cX2_result 138 = .ok (.iconst 1, 1) := by decide +kernel
theorem dX2_result_139 : decode cX2_result 139 = .ok (.isub, 1) := by decide +kernel
theorem dX2_result_140 : decode cX2_result 140 = .ok (.aload_n 0, 1) := by decide +kernel
theorem dX2_result_141 : decode cX2_result 141 = .ok (.getfield 16, 3) := by decide +kernel
theorem dX2_result_144 : decode cX2_result 144 = .ok (.iload 6, 2) := by decide +kernel
theorem dX2_result_146 : decode cX2_result 146 = .ok (.iconst 1, 1) := by decide +kernel
theorem dX2_result_147 : decode cX2_result 147 = .ok (.isub, 1) := by decide +kernel
theorem dX2_result_148 : decode cX2_result 148 = .ok (.iaload, 1) := by decide +kernel
theorem dX2_result_149 : decode cX2_result 149 = .ok (.ifCond .ne 7, 3) := by decide +kernel
theorem dX2_result_152 : decode cX2_result 152 = .ok (.iconst 1, 1) := by decide +kernel
theorem dX2_result_153 : decode cX2_result 153 = .ok (.goto 4, 3) := by decide +kernel
theorem dX2_result_156 : decode cX2_result 156 = .ok (.iconst 0, 1) := by decide +kernel
theorem dX2_result_157 : decode cX2_result 157 = .ok (.iastore, 1) := by decide +kernel
theorem dX2_result_158 : decode cX2_result 158 = .ok (.goto 42, 3) := by decide +kernel
theorem dX2_result_161 : decode cX2_result 161 = .ok (.iload 6, 2) := by decide +kernel
theorem dX2_result_163 : decode cX2_result 163 = .ok (.iconst 1, 1) := by decide +kernel
theorem dX2_result_164 : decode cX2_result 164 = .ok (.if_icmp .le 36, 3) := by decide +kernel
theorem dX2_result_167 : decode cX2_result 167 = .ok (.iinc 6 (-1), 3) := by decide +kernel
theorem dX2_result_170 : decode cX2_result 170 = .ok (.aload_n 0, 1) := by decide +kernel
theorem dX2_result_171 : decode cX2_result 171 = .ok (.getfield 16, 3) := by decide +kernel
theorem dX2_result_174 : decode cX2_result 174 = .ok (.iload 6, 2) := by decide +kernel
theorem dX2_result_176 : decode cX2_result 176 = .ok (.iconst 1, 1) := by decide +kernel
theorem dX2_result_177 : decode cX2_result 177 = .ok (.isub, 1) := by decide +kernel
theorem dX2_result_178 : decode cX2_result 178 = .ok (.iload 8, 2) := by decide +kernel
theorem dX2_result_180 : decode cX2_result 180 = .ok (.aload_n 0, 1) := by decide +kernel
theorem dX2_result_181 : decode cX2_result 181 = .ok (.getfield 16, 3) := by decide +kernel
theorem dX2_result_184 : decode cX2_result 184 = .ok (.iload 6, 2) := by decide +kernel
theorem dX2_result_186 : decode cX2_result 186 = .ok (.iconst 1, 1) := by decide +kernel
theorem dX2_result_187 : decode cX2_result 187 = .ok (.isub, 1) := by decide +kernel
theorem dX2_result_188 : decode cX2_result 188 = .ok (.iaload, 1) := by decide +kernel
theorem dX2_result_189 : decode cX2_result 189 = .ok (.aload_n 0, 1) := by decide +kernel
theorem dX2_result_190 : decode cX2_result 190 = .ok (.getfield 16, 3) := by decide +kernel
theorem dX2_result_193 : decode cX2_result 193 = .ok (.iload 6, 2) := by decide +kernel
theorem dX2_result_195 : decode cX2_result 195 = .ok (.iaload, 1) := by decide +kernel
theorem dX2_result_196 : decode cX2_result 196 = .ok (.invokestatic 26, 3) := by decide +kernel
theorem dX2_result_199 : decode cX2_result 199 = .ok (.iastore, 1) := by decide +kernel
theorem dX2_result_200 : decode cX2_result 200 = .ok (.iinc 7 1, 3) := by decide +kernel
theorem dX2_result_203 : decode cX2_result 203 = .ok (.goto (-160), 3) := by decide +kernel
theorem dX2_result_206 : decode cX2_result 206 = .ok (.iload 6, 2) := by decide +kernel
theorem dX2_result_208 : decode cX2_result 208 = .ok (.ifCond .le 15, 3) := by decide +kernel
theorem dX2_result_211 : decode cX2_result 211 = .ok (.aload_n 0, 1) := by decide +kernel
theorem dX2_result_212 : decode cX2_result 212 = .ok (.getfield 16, 3) := by decide +kernel
theorem dX2_result_215 : decode cX2_result 215 = .ok (.iload 6, 2) := by decide +kernel
theorem dX2_result_217 : decode cX2_result 217 = .ok (.iconst 1, 1) := by decide +kernel
theorem dX2_result_218 : decode cX2_result 218 = .ok (.isub, 1) := by decide +kernel
theorem dX2_result_219 : decode cX2_result 219 = .ok (.iaload, 1) := by decide +kernel
theorem dX2_result_220 : decode cX2_result 220 = .ok (.goto 4, 3) := by decide +kernel
theorem dX2_result_223 : decode cX2_result 223 = .ok (.iconst 0, 1) := by decide +kernel
theorem dX2_result_224 : decode cX2_result 224 = .ok (.ireturn, 1) := by decide +kernel
theorem dX2_joined_0 : decode cX2_joined 0 = .ok (.iload_n 0, 1) := by decide +kernel
theorem dX2_joined_1 : decode cX2_joined 1 = .ok (.tableswitch 136 (-15) (-7) #[124, 120, 116, 112, 101, 90, 79, 65, 51], 51) := by decide +kernel
theorem dX2_joined_52 : decode cX2_joined 52 = .ok (.iload_n 1, 1) := by decide +kernel
theorem dX2_joined_53 : decode cX2_joined 53 = .ok (.ifCond .ne 7, 3) := by decide +kernel
theorem dX2_joined_56 : decode cX2_joined 56 = .ok (.iload_n 2, 1) := by decide +kernel
theorem dX2_joined_57 : decode cX2_joined 57 = .ok (.ifCond .eq 7, 3) := by decide +kernel
theorem dX2_joined_60 : decode cX2_joined 60 = .ok (.iconst 1, 1) := by decide +kernel
theorem dX2_joined_61 : decode cX2_joined 61 = .ok (.goto 4, 3) := by decide +kernel
theorem dX2_joined_64 : decode cX2_joined 64 = .ok (.iconst 0, 1) := by decide +kernel
theorem dX2_joined_65 : decode cX2_joined 65 = .ok (.ireturn, 1) := by decide +kernel
theorem dX2_joined_66 : decode cX2_joined 66 = .ok (.iload_n 1, 1) := by decide +kernel
theorem dX2_joined_67 : decode cX2_joined 67 = .ok (.ifCond .eq 11, 3) := by decide +kernel
theorem dX2_joined_70 : decode cX2_joined 70 = .ok (.iload_n 2, 1) := by decide +kernel
theorem dX2_joined_71 : decode cX2_joined 71 = .ok (.ifCond .eq 7, 3) := by decide +kernel
theorem dX2_joined_74 : decode cX2_joined 74 = .ok (.iconst 1, 1) := by decide +kernel
theorem dX2_joined_75 : decode cX2_joined 75 = .ok (.goto 4, 3) := by decide +kernel
theorem dX2_joined_78 : decode cX2_joined 78 = .ok (.iconst 0, 1) := by decide +kernel
theorem dX2_joined_79 : decode cX2_joined 79 = .ok (.ireturn, 1) := by decide +kernel
theorem dX2_joined_80 : decode cX2_joined 80 = .ok (.iload_n 1, 1) := by decide +kernel
theorem dX2_joined_81 : decode cX2_joined 81 = .ok (.iload_n 2, 1) := by decide +kernel
theorem dX2_joined_82 : decode cX2_joined 82 = .ok (.if_icmp .ge 7, 3) := by decide +kernel
theorem dX2_joined_85 : decode cX2_joined 85 = .ok (.iconst 1, 1) := by decide +kernel
theorem dX2_joined_86 : decode cX2_joined 86 = .ok (.goto 4, 3) := by decide +kernel
theorem dX2_joined_89 : decode cX2_joined 89 = .ok (.iconst 0, 1) := by decide +kernel
theorem dX2_joined_90 : decode cX2_joined 90 = .ok (.ireturn, 1) := by decide +kernel
theorem dX2_joined_91 : decode cX2_joined 91 = .ok (.iload_n 1, 1) := by decide +kernel
theorem dX2_joined_92 : decode cX2_joined 92 = .ok (.iload_n 2, 1) := by decide +kernel
theorem dX2_joined_93 : decode cX2_joined 93 = .ok (.if_icmp .le 7, 3) := by decide +kernel
theorem dX2_joined_96 : decode cX2_joined 96 = .ok (.iconst 1, 1) := by decide +kernel
theorem dX2_joined_97 : decode cX2_joined 97 = .ok (.goto 4, 3) := by decide +kernel
theorem dX2_joined_100 : decode cX2_joined 100 = .ok (.iconst 0, 1) := by decide +kernel
theorem dX2_joined_101 : decode cX2_joined 101 = .ok (.ireturn, 1) := by decide +kernel
theorem dX2_joined_102 : decode cX2_joined 102 = .ok (.iload_n 1, 1) := by decide +kernel
theorem dX2_joined_103 : decode cX2_joined 103 = .ok (.iload_n 2, 1) := by decide +kernel
theorem dX2_joined_104 : decode cX2_joined 104 = .ok (.if_icmp .ne 7, 3) := by decide +kernel
theorem dX2_joined_107 : decode cX2_joined 107 = .ok (.iconst 1, 1) := by decide +kernel
theorem dX2_joined_108 : decode cX2_joined 108 = .ok (.goto 4, 3) := by decide +kernel
theorem dX2_joined_111 : decode cX2_joined 111 = .ok (.iconst 0, 1) := by decide +kernel
theorem dX2_joined_112 : decode cX2_joined 112 = .ok (.ireturn, 1) := by decide +kernel
theorem dX2_joined_113 : decode cX2_joined 113 = .ok (.iload_n 1, 1) := by decide +kernel
theorem dX2_joined_114 : decode cX2_joined 114 = .ok (.iload_n 2, 1) := by decide +kernel
theorem dX2_joined_115 : decode cX2_joined 115 = .ok (.iadd, 1) := by decide +kernel
theorem dX2_joined_116 : decode cX2_joined 116 = .ok (.ireturn, 1) := by decide +kernel
theorem dX2_joined_117 : decode cX2_joined 117 = .ok (.iload_n 1, 1) := by decide +kernel
theorem dX2_joined_118 : decode cX2_joined 118 = .ok (.iload_n 2, 1) := by decide +kernel
theorem dX2_joined_119 : decode cX2_joined 119 = .ok (.isub, 1) := by decide +kernel
theorem dX2_joined_120 : decode cX2_joined 120 = .ok (.ireturn, 1) := by decide +kernel
theorem dX2_joined_121 : decode cX2_joined 121 = .ok (.iload_n 1, 1) := by decide +kernel
theorem dX2_joined_122 : decode cX2_joined 122 = .ok (.iload_n 2, 1) := by decide +kernel
theorem dX2_joined_123 : decode cX2_joined 123 = .ok (.imul, 1) := by decide +kernel
theorem dX2_joined_124 : decode cX2_joined 124 = .ok (.ireturn, 1) := by decide +kernel
theorem dX2_joined_125 : decode cX2_joined 125 = .ok (.iload_n 2, 1) := by decide +kernel
theorem dX2_joined_126 : decode cX2_joined 126 = .ok (.ifCond .ne 7, 3) := by decide +kernel
theorem dX2_joined_129 : decode cX2_joined 129 = .ok (.iconst 0, 1) := by decide +kernel
theorem dX2_joined_130 : decode cX2_joined 130 = .ok (.goto 6, 3) := by decide +kernel
theorem dX2_joined_133 : decode cX2_joined 133 = .ok (.iload_n 1, 1) := by decide +kernel
theorem dX2_joined_134 : decode cX2_joined 134 = .ok (.iload_n 2, 1) := by decide +kernel
theorem dX2_joined_135 : decode cX2_joined 135 = .ok (.idiv, 1) := by decide +kernel
theorem dX2_joined_136 : decode cX2_joined 136 = .ok (.ireturn, 1) := by decide +kernel
theorem dX2_joined_137 : decode cX2_joined 137 = .ok (.iload_n 2, 1) := by decide +kernel
theorem dX2_joined_138 : decode cX2_joined 138 = .ok (.ifCond .ne 7, 3) := by decide +kernel
theorem dX2_joined_141 : decode cX2_joined 141 = .ok (.iconst 0, 1) := by decide +kernel
theorem dX2_joined_142 : decode cX2_joined 142 = .ok (.goto 6, 3) := by decide +kernel
theorem dX2_joined_145 : decode cX2_joined 145 = .ok (.iload_n 1, 1) := by decide +kernel
theorem dX2_joined_146 : decode cX2_joined 146 = .ok (.iload_n 2, 1) := by decide +kernel
theorem dX2_joined_147 : decode cX2_joined 147 = .ok (.irem, 1) := by decide +kernel
theorem dX2_joined_148 : decode cX2_joined 148 = .ok (.ireturn, 1) := by decide +kernel
theorem dX3_init_0 : decode cX3_init 0 = .ok (.aload_n 0, 1) := by decide +kernel
theorem dX3_init_1 : decode cX3_init 1 = .ok (.invokespecial 3, 3) := by decide +kernel
theorem dX3_init_4 : decode cX3_init 4 = .ok (.aload_n 0, 1) := by decide +kernel
theorem dX3_init_5 : decode cX3_init 5 = .ok (.bipush 12, 2) := by decide +kernel
theorem dX3_init_7 : decode cX3_init 7 = .ok (.newarray .int, 2) := by decide +kernel
theorem dX3_init_9 : decode cX3_init 9 = .ok (.putfield 9, 3) := by decide +kernel
theorem dX3_init_12 : decode cX3_init 12 = .ok (.aload_n 0, 1) := by decide +kernel
theorem dX3_init_13 : decode cX3_init 13 = .ok (.bipush 12, 2) := by decide +kernel
theorem dX3_init_15 : decode cX3_init 15 = .ok (.newarray .int, 2) := by decide +kernel
theorem dX3_init_17 : decode cX3_init 17 = .ok (.putfield 15, 3) := by decide +kernel
theorem dX3_init_20 : decode cX3_init 20 = .ok (.return_, 1) := by decide +kernel
theorem dX3_begin_0 : decode cX3_begin 0 = .ok (.aload_n 0, 1) := by decide +kernel
theorem dX3_begin_1 : decode cX3_begin 1 = .ok (.aload_n 1, 1) := by decide +kernel
theorem dX3_begin_2 : decode cX3_begin 2 = .ok (.getfield 18, 3) := by decide +kernel
theorem dX3_begin_5 : decode cX3_begin 5 = .ok (.putfield 24, 3) := by decide +kernel
theorem dX3_begin_8 : decode cX3_begin 8 = .ok (.aload_n 0, 1) := by decide +kernel
theorem dX3_begin_9 : decode cX3_begin 9 = .ok (.iconst 0, 1) := by decide +kernel
theorem dX3_begin_10 : decode cX3_begin 10 = .ok (.putfield 27, 3) := by decide +kernel
theorem dX3_begin_13 : decode cX3_begin 13 = .ok (.aload_n 0, 1) := by decide +kernel
theorem dX3_begin_14 : decode cX3_begin 14 = .ok (.aload_n 1, 1) := by decide +kernel
theorem dX3_begin_15 : decode cX3_begin 15 = .ok (.getfield 30, 3) := by decide +kernel
theorem dX3_begin_18 : decode cX3_begin 18 = .ok (.putfield 33, 3) := by decide +kernel
theorem dX3_begin_21 : decode cX3_begin 21 = .ok (.iconst 0, 1) := by decide +kernel
theorem dX3_begin_22 : decode cX3_begin 22 = .ok (.istore_n 2, 1) := by decide +kernel
theorem dX3_begin_23 : decode cX3_begin 23 = .ok (.iload_n 2, 1) := by decide +kernel
theorem dX3_begin_24 : decode cX3_begin 24 = .ok (.bipush 12, 2) := by decide +kernel
theorem dX3_begin_26 : decode cX3_begin 26 = .ok (.if_icmp .ge 39, 3) := by decide +kernel
theorem dX3_begin_29 : decode cX3_begin 29 = .ok (.aload_n 0, 1) := by decide +kernel
theorem dX3_begin_30 : decode cX3_begin 30 = .ok (.getfield 9, 3) := by decide +kernel
theorem dX3_begin_33 : decode cX3_begin 33 = .ok (.iload_n 2, 1) := by decide +kernel
theorem dX3_begin_34 : decode cX3_begin 34 = .ok (.iload_n 2, 1) := by decide +kernel
theorem dX3_begin_35 : decode cX3_begin 35 = .ok (.aload_n 0, 1) := by decide +kernel
theorem dX3_begin_36 : decode cX3_begin 36 = .ok (.getfield 24, 3) := by decide +kernel
theorem dX3_begin_39 : decode cX3_begin 39 = .ok (.if_icmp .ge 11, 3) := by decide +kernel
theorem dX3_begin_42 : decode cX3_begin 42 = .ok (.aload_n 1, 1) := by decide +kernel
theorem dX3_begin_43 : decode cX3_begin 43 = .ok (.iload_n 2, 1) := by decide +kernel
theorem dX3_begin_44 : decode cX3_begin 44 = .ok (.invokevirtual 36, 3) := by decide +kernel
theorem dX3_begin_47 : decode cX3_begin 47 = .ok (.goto 4, 3) := by decide +kernel
theorem dX3_begin_50 : decode cX3_begin 50 = .ok (.iconst 0, 1) := by decide +kernel
theorem dX3_begin_51 : decode cX3_begin 51 = .ok (.iastore, 1) := by decide +kernel
theorem dX3_begin_52 : decode cX3_begin 52 = .ok (.aload_n 0, 1) := by decide +kernel
theorem dX3_begin_53 : decode cX3_begin 53 = .ok (.getfield 15, 3) := by decide +kernel
theorem dX3_begin_56 : decode cX3_begin 56 = .ok (.iload_n 2, 1) := by decide +kernel
theorem dX3_begin_57 : decode cX3_begin 57 = .ok (.iconst 0, 1) := by decide +kernel
theorem dX3_begin_58 : decode cX3_begin 58 = .ok (.iastore, 1) := by decide +kernel
theorem dX3_begin_59 : decode cX3_begin 59 = .ok (.iinc 2 1, 3) := by decide +kernel
theorem dX3_begin_62 : decode cX3_begin 62 = .ok (.goto (-39), 3) := by decide +kernel
theorem dX3_begin_65 : decode cX3_begin 65 = .ok (.return_, 1) := by decide +kernel
theorem dX3_takeFrom_0 : decode cX3_takeFrom 0 = .ok (.aload_n 0, 1) := by decide +kernel
theorem dX3_takeFrom_1 : decode cX3_takeFrom 1 = .ok (.aload_n 1, 1) := by decide +kernel
theorem dX3_takeFrom_2 : decode cX3_takeFrom 2 = .ok (.getfield 24, 3) := by decide +kernel
theorem dX3_takeFrom_5 : decode cX3_takeFrom 5 = .ok (.putfield 24, 3) := by decide +kernel
theorem dX3_takeFrom_8 : decode cX3_takeFrom 8 = .ok (.aload_n 0, 1) := by decide +kernel
theorem dX3_takeFrom_9 : decode cX3_takeFrom 9 = .ok (.aload_n 1, 1) := by decide +kernel
theorem dX3_takeFrom_10 : decode cX3_takeFrom 10 = .ok (.getfield 27, 3) := by decide +kernel
theorem dX3_takeFrom_13 : decode cX3_takeFrom 13 = .ok (.putfield 27, 3) := by decide +kernel
theorem dX3_takeFrom_16 : decode cX3_takeFrom 16 = .ok (.aload_n 0, 1) := by decide +kernel
theorem dX3_takeFrom_17 : decode cX3_takeFrom 17 = .ok (.aload_n 1, 1) := by decide +kernel
theorem dX3_takeFrom_18 : decode cX3_takeFrom 18 = .ok (.getfield 33, 3) := by decide +kernel
theorem dX3_takeFrom_21 : decode cX3_takeFrom 21 = .ok (.putfield 33, 3) := by decide +kernel
theorem dX3_takeFrom_24 : decode cX3_takeFrom 24 = .ok (.aload_n 1, 1) := by decide +kernel
theorem dX3_takeFrom_25 : decode cX3_takeFrom 25 = .ok (.getfield 9, 3) := by decide +kernel
theorem dX3_takeFrom_28 : decode cX3_takeFrom 28 = .ok (.iconst 0, 1) := by decide +kernel
theorem dX3_takeFrom_29 : decode cX3_takeFrom 29 = .ok (.aload_n 0, 1) := by decide +kernel
theorem dX3_takeFrom_30 : decode cX3_takeFrom 30 = .ok (.getfield 9, 3) := by decide +kernel
theorem dX3_takeFrom_33 : decode cX3_takeFrom 33 = .ok (.iconst 0, 1) := by decide +kernel
theorem dX3_takeFrom_34 : decode cX3_takeFrom 34 = .ok (.bipush 12, 2) := by decide +kernel
theorem dX3_takeFrom_36 : decode cX3_takeFrom 36 = .ok (.invokestatic 40, 3) := by decide +kernel
theorem dX3_takeFrom_39 : decode cX3_takeFrom 39 = .ok (.aload_n 1, 1) := by decide +kernel
theorem dX3_takeFrom_40 : decode cX3_takeFrom 40 = .ok (.getfield 15, 3) := by decide +kernel
theorem dX3_takeFrom_43 : decode cX3_takeFrom 43 = .ok (.iconst 0, 1) := by decide +kernel
theorem dX3_takeFrom_44 : decode cX3_takeFrom 44 = .ok (.aload_n 0, 1) := by decide +kernel
theorem dX3_takeFrom_45 : decode cX3_takeFrom 45 = .ok (.getfield 15, 3) := by decide +kernel
theorem dX3_takeFrom_48 : decode cX3_takeFrom 48 = .ok (.iconst 0, 1) := by decide +kernel
theorem dX3_takeFrom_49 : decode cX3_takeFrom 49 = .ok (.bipush 12, 2) := by decide +kernel
theorem dX3_takeFrom_51 : decode cX3_takeFrom 51 = .ok (.invokestatic 40, 3) := by decide +kernel
theorem dX3_takeFrom_54 : decode cX3_takeFrom 54 = .ok (.return_, 1) := by decide +kernel
theorem dX3_store_0 : decode cX3_store 0 = .ok (.iload_n 2, 1) := by decide +kernel
theorem dX3_store_1 : decode cX3_store 1 = .ok (.ifCond .lt 68, 3) := by decide +kernel
theorem dX3_store_4 : decode cX3_store 4 = .ok (.iload_n 2, 1) := by decide +kernel
theorem dX3_store_5 : decode cX3_store 5 = .ok (.bipush 27, 2) := by decide +kernel
theorem dX3_store_7 : decode cX3_store 7 = .ok (.iadd, 1) := by decide +kernel
theorem dX3_store_8 : decode cX3_store 8 = .ok (.aload_n 1, 1) := by decide +kernel
theorem dX3_store_9 : decode cX3_store 9 = .ok (.arraylength, 1) := by decide +kernel
theorem dX3_store_10 : decode cX3_store 10 = .ok (.if_icmp .gt 59, 3) := by decide +kernel
theorem dX3_store_13 : decode cX3_store 13 = .ok (.aload_n 1, 1) := by decide +kernel
theorem dX3_store_14 : decode cX3_store 14 = .ok (.iload_n 2, 1) := by decide +kernel
theorem dX3_store_15 : decode cX3_store 15 = .ok (.aload_n 0, 1) := by decide +kernel
theorem dX3_store_16 : decode cX3_store 16 = .ok (.getfield 24, 3) := by decide +kernel
theorem dX3_store_19 : decode cX3_store 19 = .ok (.iastore, 1) := by decide +kernel
theorem dX3_store_20 : decode cX3_store 20 = .ok (.aload_n 1, 1) := by decide +kernel
theorem dX3_store_21 : decode cX3_store 21 = .ok (.iload_n 2, 1) := by decide +kernel
theorem dX3_store_22 : decode cX3_store 22 = .ok (.iconst 1, 1) := by decide +kernel
theorem dX3_store_23 : decode cX3_store 23 = .ok (.iadd, 1) := by decide +kernel
theorem dX3_store_24 : decode cX3_store 24 = .ok (.aload_n 0, 1) := by decide +kernel
theorem dX3_store_25 : decode cX3_store 25 = .ok (.getfield 27, 3) := by decide +kernel
theorem dX3_store_28 : decode cX3_store 28 = .ok (.iastore, 1) := by decide +kernel
theorem dX3_store_29 : decode cX3_store 29 = .ok (.aload_n 1, 1) := by decide +kernel
theorem dX3_store_30 : decode cX3_store 30 = .ok (.iload_n 2, 1) := by decide +kernel
theorem dX3_store_31 : decode cX3_store 31 = .ok (.iconst 2, 1) := by decide +kernel
theorem dX3_store_32 : decode cX3_store 32 = .ok (.iadd, 1) := by decide +kernel
theorem dX3_store_33 : decode cX3_store 33 = .ok (.aload_n 0, 1) := by decide +kernel
theorem dX3_store_34 : decode cX3_store 34 = .ok (.getfield 33, 3) := by decide +kernel
theorem dX3_store_37 : decode cX3_store 37 = .ok (.iastore, 1) := by decide +kernel
theorem dX3_store_38 : decode cX3_store 38 = .ok (.aload_n 0, 1) := by decide +kernel
theorem dX3_store_39 : decode cX3_store 39 = .ok (.getfield 9, 3) := by decide +kernel
theorem dX3_store_42 : decode cX3_store 42 = .ok (.iconst 0, 1) := by decide +kernel
theorem dX3_store_43 : decode cX3_store 43 = .ok (.aload_n 1, 1) := by decide +kernel
theorem dX3_store_44 : decode cX3_store 44 = .ok (.iload_n 2, 1) := by decide +kernel
theorem dX3_store_45 : decode cX3_store 45 = .ok (.iconst 3, 1) := by decide +kernel
theorem dX3_store_46 : decode cX3_store 46 = .ok (.iadd, 1) := by decide +kernel
theorem dX3_store_47 : decode cX3_store 47 = .ok (.bipush 12, 2) := by decide +kernel
theorem dX3_store_49 : decode cX3_store 49 = .ok (.invokestatic 40, 3) := by decide +kernel
theorem dX3_store_52 : decode cX3_store 52 = .ok (.aload_n 0, 1) := by decide +kernel
theorem dX3_store_53 : decode cX3_store 53 = .ok (.getfield 15, 3) := by decide +kernel
theorem dX3_store_56 : decode cX3_store 56 = .ok (.iconst 0, 1) := by decide +kernel
theorem dX3_store_57 : decode cX3_store 57 = .ok (.aload_n 1, 1) := by decide +kernel
theorem dX3_store_58 : decode cX3_store 58 = .ok (.iload_n 2, 1) := by decide +kernel
theorem dX3_store_59 : decode cX3_store 59 = .ok (.iconst 3, 1) := by decide +kernel
theorem dX3_store_60 : decode cX3_store 60 = .ok (.iadd, 1) := by decide +kernel
theorem dX3_store_61 : decode cX3_store 61 = .ok (.bipush 12, 2) := by decide +kernel
theorem dX3_store_63 : decode cX3_store 63 = .ok (.iadd, 1) := by decide +kernel
theorem dX3_store_64 : decode cX3_store 64 = .ok (.bipush 12, 2) := by decide +kernel
theorem dX3_store_66 : decode cX3_store 66 = .ok (.invokestatic 40, 3) := by decide +kernel
theorem dX3_store_69 : decode cX3_store 69 = .ok (.return_, 1) := by decide +kernel
theorem dX3_load_0 : decode cX3_load 0 = .ok (.iload_n 2, 1) := by decide +kernel
theorem dX3_load_1 : decode cX3_load 1 = .ok (.ifCond .lt 68, 3) := by decide +kernel
theorem dX3_load_4 : decode cX3_load 4 = .ok (.iload_n 2, 1) := by decide +kernel
theorem dX3_load_5 : decode cX3_load 5 = .ok (.bipush 27, 2) := by decide +kernel
theorem dX3_load_7 : decode cX3_load 7 = .ok (.iadd, 1) := by decide +kernel
theorem dX3_load_8 : decode cX3_load 8 = .ok (.aload_n 1, 1) := by decide +kernel
theorem dX3_load_9 : decode cX3_load 9 = .ok (.arraylength, 1) := by decide +kernel
theorem dX3_load_10 : decode cX3_load 10 = .ok (.if_icmp .gt 59, 3) := by decide +kernel
theorem dX3_load_13 : decode cX3_load 13 = .ok (.aload_n 0, 1) := by decide +kernel
theorem dX3_load_14 : decode cX3_load 14 = .ok (.aload_n 1, 1) := by decide +kernel
theorem dX3_load_15 : decode cX3_load 15 = .ok (.iload_n 2, 1) := by decide +kernel
theorem dX3_load_16 : decode cX3_load 16 = .ok (.iaload, 1) := by decide +kernel
theorem dX3_load_17 : decode cX3_load 17 = .ok (.putfield 24, 3) := by decide +kernel
theorem dX3_load_20 : decode cX3_load 20 = .ok (.aload_n 0, 1) := by decide +kernel
theorem dX3_load_21 : decode cX3_load 21 = .ok (.aload_n 1, 1) := by decide +kernel
theorem dX3_load_22 : decode cX3_load 22 = .ok (.iload_n 2, 1) := by decide +kernel
theorem dX3_load_23 : decode cX3_load 23 = .ok (.iconst 1, 1) := by decide +kernel
theorem dX3_load_24 : decode cX3_load 24 = .ok (.iadd, 1) := by decide +kernel
theorem dX3_load_25 : decode cX3_load 25 = .ok (.iaload, 1) := by decide +kernel
theorem dX3_load_26 : decode cX3_load 26 = .ok (.putfield 27, 3) := by decide +kernel
theorem dX3_load_29 : decode cX3_load 29 = .ok (.aload_n 0, 1) := by decide +kernel
theorem dX3_load_30 : decode cX3_load 30 = .ok (.aload_n 1, 1) := by decide +kernel
theorem dX3_load_31 : decode cX3_load 31 = .ok (.iload_n 2, 1) := by decide +kernel
theorem dX3_load_32 : decode cX3_load 32 = .ok (.iconst 2, 1) := by decide +kernel
theorem dX3_load_33 : decode cX3_load 33 = .ok (.iadd, 1) := by decide +kernel
theorem dX3_load_34 : decode cX3_load 34 = .ok (.iaload, 1) := by decide +kernel
theorem dX3_load_35 : decode cX3_load 35 = .ok (.putfield 33, 3) := by decide +kernel
theorem dX3_load_38 : decode cX3_load 38 = .ok (.aload_n 1, 1) := by decide +kernel
theorem dX3_load_39 : decode cX3_load 39 = .ok (.iload_n 2, 1) := by decide +kernel
theorem dX3_load_40 : decode cX3_load 40 = .ok (.iconst 3, 1) := by decide +kernel
theorem dX3_load_41 : decode cX3_load 41 = .ok (.iadd, 1) := by decide +kernel
theorem dX3_load_42 : decode cX3_load 42 = .ok (.aload_n 0, 1) := by decide +kernel
theorem dX3_load_43 : decode cX3_load 43 = .ok (.getfield 9, 3) := by decide +kernel
theorem dX3_load_46 : decode cX3_load 46 = .ok (.iconst 0, 1) := by decide +kernel
theorem dX3_load_47 : decode cX3_load 47 = .ok (.bipush 12, 2) := by decide +kernel
theorem dX3_load_49 : decode cX3_load 49 = .ok (.invokestatic 40, 3) := by decide +kernel
theorem dX3_load_52 : decode cX3_load 52 = .ok (.aload_n 1, 1) := by decide +kernel
theorem dX3_load_53 : decode cX3_load 53 = .ok (.iload_n 2, 1) := by decide +kernel
theorem dX3_load_54 : decode cX3_load 54 = .ok (.iconst 3, 1) := by decide +kernel
theorem dX3_load_55 : decode cX3_load 55 = .ok (.iadd, 1) := by decide +kernel
theorem dX3_load_56 : decode cX3_load 56 = .ok (.bipush 12, 2) := by decide +kernel
theorem dX3_load_58 : decode cX3_load 58 = .ok (.iadd, 1) := by decide +kernel
theorem dX3_load_59 : decode cX3_load 59 = .ok (.aload_n 0, 1) := by decide +kernel
theorem dX3_load_60 : decode cX3_load 60 = .ok (.getfield 15, 3) := by decide +kernel
theorem dX3_load_63 : decode cX3_load 63 = .ok (.iconst 0, 1) := by decide +kernel
theorem dX3_load_64 : decode cX3_load 64 = .ok (.bipush 12, 2) := by decide +kernel
theorem dX3_load_66 : decode cX3_load 66 = .ok (.invokestatic 40, 3) := by decide +kernel
theorem dX3_load_69 : decode cX3_load 69 = .ok (.return_, 1) := by decide +kernel
theorem dX3_addBill_0 : decode cX3_addBill 0 = .ok (.aload_n 0, 1) := by decide +kernel
theorem dX3_addBill_1 : decode cX3_addBill 1 = .ok (.getfield 24, 3) := by decide +kernel
theorem dX3_addBill_4 : decode cX3_addBill 4 = .ok (.ifCond .lt 42, 3) := by decide +kernel
theorem dX3_addBill_7 : decode cX3_addBill 7 = .ok (.aload_n 0, 1) := by decide +kernel
theorem dX3_addBill_8 : decode cX3_addBill 8 = .ok (.getfield 24, 3) := by decide +kernel
theorem dX3_addBill_11 : decode cX3_addBill 11 = .ok (.bipush 12, 2) := by decide +kernel
theorem dX3_addBill_13 : decode cX3_addBill 13 = .ok (.if_icmp .ge 33, 3) := by decide +kernel
theorem dX3_addBill_16 : decode cX3_addBill 16 = .ok (.aload_n 0, 1) := by decide +kernel
theorem dX3_addBill_17 : decode cX3_addBill 17 = .ok (.getfield 9, 3) := by decide +kernel
theorem dX3_addBill_20 : decode cX3_addBill 20 = .ok (.aload_n 0, 1) := by decide +kernel
theorem dX3_addBill_21 : decode cX3_addBill 21 = .ok (.getfield 24, 3) := by decide +kernel
theorem dX3_addBill_24 : decode cX3_addBill 24 = .ok (.iload_n 1, 1) := by decide +kernel
theorem dX3_addBill_25 : decode cX3_addBill 25 = .ok (.iastore, 1) := by decide +kernel
theorem dX3_addBill_26 : decode cX3_addBill 26 = .ok (.aload_n 0, 1) := by decide +kernel
theorem dX3_addBill_27 : decode cX3_addBill 27 = .ok (.getfield 15, 3) := by decide +kernel
theorem dX3_addBill_30 : decode cX3_addBill 30 = .ok (.aload_n 0, 1) := by decide +kernel
theorem dX3_addBill_31 : decode cX3_addBill 31 = .ok (.getfield 24, 3) := by decide +kernel
theorem dX3_addBill_34 : decode cX3_addBill 34 = .ok (.iconst 0, 1) := by decide +kernel
theorem dX3_addBill_35 : decode cX3_addBill 35 = .ok (.iastore, 1) := by decide +kernel
theorem dX3_addBill_36 : decode cX3_addBill 36 = .ok (.aload_n 0, 1) := by decide +kernel
theorem dX3_addBill_37 : decode cX3_addBill 37 = .ok (.dup, 1) := by decide +kernel
theorem dX3_addBill_38 : decode cX3_addBill 38 = .ok (.getfield 24, 3) := by decide +kernel
theorem dX3_addBill_41 : decode cX3_addBill 41 = .ok (.iconst 1, 1) := by decide +kernel
theorem dX3_addBill_42 : decode cX3_addBill 42 = .ok (.iadd, 1) := by decide +kernel
theorem dX3_addBill_43 : decode cX3_addBill 43 = .ok (.putfield 24, 3) := by decide +kernel
theorem dX3_addBill_46 : decode cX3_addBill 46 = .ok (.return_, 1) := by decide +kernel
theorem dX3_livingBits_0 : decode cX3_livingBits 0 = .ok (.iconst 0, 1) := by decide +kernel
theorem dX3_livingBits_1 : decode cX3_livingBits 1 = .ok (.istore_n 1, 1) := by decide +kernel
theorem dX3_livingBits_2 : decode cX3_livingBits 2 = .ok (.iconst 0, 1) := by decide +kernel
theorem dX3_livingBits_3 : decode cX3_livingBits 3 = .ok (.istore_n 2, 1) := by decide +kernel
theorem dX3_livingBits_4 : decode cX3_livingBits 4 = .ok (.iload_n 2, 1) := by decide +kernel
theorem dX3_livingBits_5 : decode cX3_livingBits 5 = .ok (.aload_n 0, 1) := by decide +kernel
theorem dX3_livingBits_6 : decode cX3_livingBits 6 = .ok (.getfield 24, 3) := by decide +kernel
theorem dX3_livingBits_9 : decode cX3_livingBits 9 = .ok (.if_icmp .ge 30, 3) := by decide +kernel
theorem dX3_livingBits_12 : decode cX3_livingBits 12 = .ok (.iload_n 2, 1) := by decide +kernel
theorem dX3_livingBits_13 : decode cX3_livingBits 13 = .ok (.bipush 12, 2) := by decide +kernel
theorem dX3_livingBits_15 : decode cX3_livingBits 15 = .ok (.if_icmp .ge 24, 3) := by decide +kernel
theorem dX3_livingBits_18 : decode cX3_livingBits 18 = .ok (.aload_n 0, 1) := by decide +kernel
theorem dX3_livingBits_19 : decode cX3_livingBits 19 = .ok (.getfield 9, 3) := by decide +kernel
theorem dX3_livingBits_22 : decode cX3_livingBits 22 = .ok (.iload_n 2, 1) := by decide +kernel
theorem dX3_livingBits_23 : decode cX3_livingBits 23 = .ok (.iaload, 1) := by decide +kernel
theorem dX3_livingBits_24 : decode cX3_livingBits 24 = .ok (.ifCond .le 9, 3) := by decide +kernel
theorem dX3_livingBits_27 : decode cX3_livingBits 27 = .ok (.iload_n 1, 1) := by decide +kernel
theorem dX3_livingBits_28 : decode cX3_livingBits 28 = .ok (.iconst 1, 1) := by decide +kernel
theorem dX3_livingBits_29 : decode cX3_livingBits 29 = .ok (.iload_n 2, 1) := by decide +kernel
theorem dX3_livingBits_30 : decode cX3_livingBits 30 = .ok (.ishl, 1) := by decide +kernel
theorem dX3_livingBits_31 : decode cX3_livingBits 31 = .ok (.ior, 1) := by decide +kernel
theorem dX3_livingBits_32 : decode cX3_livingBits 32 = .ok (.istore_n 1, 1) := by decide +kernel
theorem dX3_livingBits_33 : decode cX3_livingBits 33 = .ok (.iinc 2 1, 3) := by decide +kernel
theorem dX3_livingBits_36 : decode cX3_livingBits 36 = .ok (.goto (-32), 3) := by decide +kernel
theorem dX3_livingBits_39 : decode cX3_livingBits 39 = .ok (.iload_n 1, 1) := by decide +kernel
theorem dX3_livingBits_40 : decode cX3_livingBits 40 = .ok (.ireturn, 1) := by decide +kernel
theorem dX3_allLife_0 : decode cX3_allLife 0 = .ok (.iconst 0, 1) := by decide +kernel
theorem dX3_allLife_1 : decode cX3_allLife 1 = .ok (.istore_n 1, 1) := by decide +kernel
theorem dX3_allLife_2 : decode cX3_allLife 2 = .ok (.iconst 0, 1) := by decide +kernel
theorem dX3_allLife_3 : decode cX3_allLife 3 = .ok (.istore_n 2, 1) := by decide +kernel
theorem dX3_allLife_4 : decode cX3_allLife 4 = .ok (.iload_n 2, 1) := by decide +kernel
theorem dX3_allLife_5 : decode cX3_allLife 5 = .ok (.aload_n 0, 1) := by decide +kernel
theorem dX3_allLife_6 : decode cX3_allLife 6 = .ok (.getfield 24, 3) := by decide +kernel
theorem dX3_allLife_9 : decode cX3_allLife 9 = .ok (.if_icmp .ge 24, 3) := by decide +kernel
theorem dX3_allLife_12 : decode cX3_allLife 12 = .ok (.iload_n 2, 1) := by decide +kernel
theorem dX3_allLife_13 : decode cX3_allLife 13 = .ok (.bipush 12, 2) := by decide +kernel
theorem dX3_allLife_15 : decode cX3_allLife 15 = .ok (.if_icmp .ge 18, 3) := by decide +kernel
theorem dX3_allLife_18 : decode cX3_allLife 18 = .ok (.iload_n 1, 1) := by decide +kernel
theorem dX3_allLife_19 : decode cX3_allLife 19 = .ok (.aload_n 0, 1) := by decide +kernel
theorem dX3_allLife_20 : decode cX3_allLife 20 = .ok (.getfield 9, 3) := by decide +kernel
theorem dX3_allLife_23 : decode cX3_allLife 23 = .ok (.iload_n 2, 1) := by decide +kernel
theorem dX3_allLife_24 : decode cX3_allLife 24 = .ok (.iaload, 1) := by decide +kernel
theorem dX3_allLife_25 : decode cX3_allLife 25 = .ok (.iadd, 1) := by decide +kernel
theorem dX3_allLife_26 : decode cX3_allLife 26 = .ok (.istore_n 1, 1) := by decide +kernel
theorem dX3_allLife_27 : decode cX3_allLife 27 = .ok (.iinc 2 1, 3) := by decide +kernel
theorem dX3_allLife_30 : decode cX3_allLife 30 = .ok (.goto (-26), 3) := by decide +kernel
theorem dX3_allLife_33 : decode cX3_allLife 33 = .ok (.iload_n 1, 1) := by decide +kernel
theorem dX3_allLife_34 : decode cX3_allLife 34 = .ok (.ireturn, 1) := by decide +kernel
theorem dX3_cut_0 : decode cX3_cut 0 = .ok (.iconst 0, 1) := by decide +kernel
theorem dX3_cut_1 : decode cX3_cut 1 = .ok (.istore 4, 2) := by decide +kernel
theorem dX3_cut_3 : decode cX3_cut 3 = .ok (.iload 4, 2) := by decide +kernel
theorem dX3_cut_5 : decode cX3_cut 5 = .ok (.aload_n 0, 1) := by decide +kernel
theorem dX3_cut_6 : decode cX3_cut 6 = .ok (.getfield 24, 3) := by decide +kernel
theorem dX3_cut_9 : decode cX3_cut 9 = .ok (.if_icmp .ge 47, 3) := by decide +kernel
theorem dX3_cut_12 : decode cX3_cut 12 = .ok (.iload 4, 2) := by decide +kernel
theorem dX3_cut_14 : decode cX3_cut 14 = .ok (.bipush 12, 2) := by decide +kernel
theorem dX3_cut_16 : decode cX3_cut 16 = .ok (.if_icmp .ge 40, 3) := by decide +kernel
theorem dX3_cut_19 : decode cX3_cut 19 = .ok (.aload_n 1, 1) := by decide +kernel
theorem dX3_cut_20 : decode cX3_cut 20 = .ok (.getfield 46, 3) := by decide +kernel
theorem dX3_cut_23 : decode cX3_cut 23 = .ok (.iload 4, 2) := by decide +kernel
theorem dX3_cut_25 : decode cX3_cut 25 = .ok (.iaload, 1) := by decide +kernel
theorem dX3_cut_26 : decode cX3_cut 26 = .ok (.iload_n 2, 1) := by decide +kernel
theorem dX3_cut_27 : decode cX3_cut 27 = .ok (.if_icmp .ne 23, 3) := by decide +kernel
theorem dX3_cut_30 : decode cX3_cut 30 = .ok (.aload_n 0, 1) := by decide +kernel
theorem dX3_cut_31 : decode cX3_cut 31 = .ok (.getfield 9, 3) := by decide +kernel
theorem dX3_cut_34 : decode cX3_cut 34 = .ok (.iload 4, 2) := by decide +kernel
theorem dX3_cut_36 : decode cX3_cut 36 = .ok (.iconst 0, 1) := by decide +kernel
theorem dX3_cut_37 : decode cX3_cut 37 = .ok (.aload_n 0, 1) := by decide +kernel
theorem dX3_cut_38 : decode cX3_cut 38 = .ok (.getfield 9, 3) := by decide +kernel
theorem dX3_cut_41 : decode cX3_cut 41 = .ok (.iload 4, 2) := by decide +kernel
theorem dX3_cut_43 : decode cX3_cut 43 = .ok (.iaload, 1) := by decide +kernel
theorem dX3_cut_44 : decode cX3_cut 44 = .ok (.iload_n 3, 1) := by decide +kernel
theorem dX3_cut_45 : decode cX3_cut 45 = .ok (.isub, 1) := by decide +kernel
theorem dX3_cut_46 : decode cX3_cut 46 = .ok (.invokestatic 51, 3) := by decide +kernel
theorem dX3_cut_49 : decode cX3_cut 49 = .ok (.iastore, 1) := by decide +kernel
theorem dX3_cut_50 : decode cX3_cut 50 = .ok (.iinc 4 1, 3) := by decide +kernel
theorem dX3_cut_53 : decode cX3_cut 53 = .ok (.goto (-50), 3) := by decide +kernel
theorem dX3_cut_56 : decode cX3_cut 56 = .ok (.return_, 1) := by decide +kernel
theorem dX3_passYear_0 : decode cX3_passYear 0 = .ok (.aload_n 0, 1) := by decide +kernel
theorem dX3_passYear_1 : decode cX3_passYear 1 = .ok (.aload_n 1, 1) := by decide +kernel
theorem dX3_passYear_2 : decode cX3_passYear 2 = .ok (.invokevirtual 57, 3) := by decide +kernel
theorem dX3_passYear_5 : decode cX3_passYear 5 = .ok (.aload_n 0, 1) := by decide +kernel
theorem dX3_passYear_6 : decode cX3_passYear 6 = .ok (.aload_n 0, 1) := by decide +kernel
theorem dX3_passYear_7 : decode cX3_passYear 7 = .ok (.getfield 33, 3) := by decide +kernel
theorem dX3_passYear_10 : decode cX3_passYear 10 = .ok (.sipush 137, 3) := by decide +kernel
theorem dX3_passYear_13 : decode cX3_passYear 13 = .ok (.imul, 1) := by decide +kernel
theorem dX3_passYear_14 : decode cX3_passYear 14 = .ok (.bipush 71, 2) := by decide +kernel
theorem dX3_passYear_16 : decode cX3_passYear 16 = .ok (.iadd, 1) := by decide +kernel
theorem dX3_passYear_17 : decode cX3_passYear 17 = .ok (.sipush 1000, 3) := by decide +kernel
theorem dX3_passYear_20 : decode cX3_passYear 20 = .ok (.irem, 1) := by decide +kernel
theorem dX3_passYear_21 : decode cX3_passYear 21 = .ok (.putfield 33, 3) := by decide +kernel
theorem dX3_passYear_24 : decode cX3_passYear 24 = .ok (.aload_n 0, 1) := by decide +kernel
theorem dX3_passYear_25 : decode cX3_passYear 25 = .ok (.getfield 33, 3) := by decide +kernel
theorem dX3_passYear_28 : decode cX3_passYear 28 = .ok (.bipush 100, 2) := by decide +kernel
theorem dX3_passYear_30 : decode cX3_passYear 30 = .ok (.irem, 1) := by decide +kernel
theorem dX3_passYear_31 : decode cX3_passYear 31 = .ok (.aload_n 1, 1) := by decide +kernel
theorem dX3_passYear_32 : decode cX3_passYear 32 = .ok (.getfield 61, 3) := by decide +kernel
theorem dX3_passYear_35 : decode cX3_passYear 35 = .ok (.if_icmp .ge 8, 3) := by decide +kernel
theorem dX3_passYear_38 : decode cX3_passYear 38 = .ok (.aload_n 0, 1) := by decide +kernel
theorem dX3_passYear_39 : decode cX3_passYear 39 = .ok (.aload_n 1, 1) := by decide +kernel
theorem dX3_passYear_40 : decode cX3_passYear 40 = .ok (.invokevirtual 64, 3) := by decide +kernel
theorem dX3_passYear_43 : decode cX3_passYear 43 = .ok (.aload_n 0, 1) := by decide +kernel
theorem dX3_passYear_44 : decode cX3_passYear 44 = .ok (.dup, 1) := by decide +kernel
theorem dX3_passYear_45 : decode cX3_passYear 45 = .ok (.getfield 27, 3) := by decide +kernel
theorem dX3_passYear_48 : decode cX3_passYear 48 = .ok (.iconst 1, 1) := by decide +kernel
theorem dX3_passYear_49 : decode cX3_passYear 49 = .ok (.iadd, 1) := by decide +kernel
theorem dX3_passYear_50 : decode cX3_passYear 50 = .ok (.putfield 27, 3) := by decide +kernel
theorem dX3_passYear_53 : decode cX3_passYear 53 = .ok (.return_, 1) := by decide +kernel
theorem dX3_growAll_0 : decode cX3_growAll 0 = .ok (.aload_n 1, 1) := by decide +kernel
theorem dX3_growAll_1 : decode cX3_growAll 1 = .ok (.getfield 67, 3) := by decide +kernel
theorem dX3_growAll_4 : decode cX3_growAll 4 = .ok (.astore_n 2, 1) := by decide +kernel
theorem dX3_growAll_5 : decode cX3_growAll 5 = .ok (.aload_n 0, 1) := by decide +kernel
theorem dX3_growAll_6 : decode cX3_growAll 6 = .ok (.invokevirtual 71, 3) := by decide +kernel
theorem dX3_growAll_9 : decode cX3_growAll 9 = .ok (.istore_n 3, 1) := by decide +kernel
theorem dX3_growAll_10 : decode cX3_growAll 10 = .ok (.iconst 0, 1) := by decide +kernel
theorem dX3_growAll_11 : decode cX3_growAll 11 = .ok (.istore 4, 2) := by decide +kernel
theorem dX3_growAll_13 : decode cX3_growAll 13 = .ok (.iload 4, 2) := by decide +kernel
theorem dX3_growAll_15 : decode cX3_growAll 15 = .ok (.aload_n 0, 1) := by decide +kernel
theorem dX3_growAll_16 : decode cX3_growAll 16 = .ok (.getfield 24, 3) := by decide +kernel
theorem dX3_growAll_19 : decode cX3_growAll 19 = .ok (.if_icmp .ge 127, 3) := by decide +kernel
theorem dX3_growAll_22 : decode cX3_growAll 22 = .ok (.iload 4, 2) := by decide +kernel
theorem dX3_growAll_24 : decode cX3_growAll 24 = .ok (.bipush 12, 2) := by decide +kernel
theorem dX3_growAll_26 : decode cX3_growAll 26 = .ok (.if_icmp .ge 120, 3) := by decide +kernel
theorem dX3_growAll_29 : decode cX3_growAll 29 = .ok (.aload_n 0, 1) := by decide +kernel
theorem dX3_growAll_30 : decode cX3_growAll 30 = .ok (.getfield 9, 3) := by decide +kernel
theorem dX3_growAll_33 : decode cX3_growAll 33 = .ok (.iload 4, 2) := by decide +kernel
theorem dX3_growAll_35 : decode cX3_growAll 35 = .ok (.iaload, 1) := by decide +kernel
theorem dX3_growAll_36 : decode cX3_growAll 36 = .ok (.ifCond .le 104, 3) := by decide +kernel
theorem dX3_growAll_39 : decode cX3_growAll 39 = .ok (.aload_n 2, 1) := by decide +kernel
theorem dX3_growAll_40 : decode cX3_growAll 40 = .ok (.iload 4, 2) := by decide +kernel
theorem dX3_growAll_42 : decode cX3_growAll 42 = .ok (.iload_n 3, 1) := by decide +kernel
theorem dX3_growAll_43 : decode cX3_growAll 43 = .ok (.invokevirtual 75, 3) := by decide +kernel
theorem dX3_growAll_46 : decode cX3_growAll 46 = .ok (.istore 5, 2) := by decide +kernel
theorem dX3_growAll_48 : decode cX3_growAll 48 = .ok (.aload_n 1, 1) := by decide +kernel
theorem dX3_growAll_49 : decode cX3_growAll 49 = .ok (.getfield 78, 3) := by decide +kernel
theorem dX3_growAll_52 : decode cX3_growAll 52 = .ok (.aload_n 0, 1) := by decide +kernel
theorem dX3_growAll_53 : decode cX3_growAll 53 = .ok (.getfield 9, 3) := by decide +kernel
theorem dX3_growAll_56 : decode cX3_growAll 56 = .ok (.iload 4, 2) := by decide +kernel
theorem dX3_growAll_58 : decode cX3_growAll 58 = .ok (.iaload, 1) := by decide +kernel
theorem dX3_growAll_59 : decode cX3_growAll 59 = .ok (.aload_n 0, 1) := by decide +kernel
theorem dX3_growAll_60 : decode cX3_growAll 60 = .ok (.getfield 15, 3) := by decide +kernel
theorem dX3_growAll_63 : decode cX3_growAll 63 = .ok (.iload 4, 2) := by decide +kernel
theorem dX3_growAll_65 : decode cX3_growAll 65 = .ok (.iaload, 1) := by decide +kernel
theorem dX3_growAll_66 : decode cX3_growAll 66 = .ok (.aload_n 2, 1) := by decide +kernel
theorem dX3_growAll_67 : decode cX3_growAll 67 = .ok (.getfield 46, 3) := by decide +kernel
theorem dX3_growAll_70 : decode cX3_growAll 70 = .ok (.iload 4, 2) := by decide +kernel
theorem dX3_growAll_72 : decode cX3_growAll 72 = .ok (.iaload, 1) := by decide +kernel
theorem dX3_growAll_73 : decode cX3_growAll 73 = .ok (.iload 5, 2) := by decide +kernel
theorem dX3_growAll_75 : decode cX3_growAll 75 = .ok (.aload_n 0, 1) := by decide +kernel
theorem dX3_growAll_76 : decode cX3_growAll 76 = .ok (.getfield 27, 3) := by decide +kernel
theorem dX3_growAll_79 : decode cX3_growAll 79 = .ok (.invokevirtual 82, 3) := by decide +kernel
theorem dX3_growAll_82 : decode cX3_growAll 82 = .ok (.istore 6, 2) := by decide +kernel
theorem dX3_growAll_84 : decode cX3_growAll 84 = .ok (.aload_n 0, 1) := by decide +kernel
theorem dX3_growAll_85 : decode cX3_growAll 85 = .ok (.getfield 9, 3) := by decide +kernel
theorem dX3_growAll_88 : decode cX3_growAll 88 = .ok (.iload 4, 2) := by decide +kernel
theorem dX3_growAll_90 : decode cX3_growAll 90 = .ok (.iconst 0, 1) := by decide +kernel
theorem dX3_growAll_91 : decode cX3_growAll 91 = .ok (.bipush 99, 2) := by decide +kernel
theorem dX3_growAll_93 : decode cX3_growAll 93 = .ok (.aload_n 0, 1) := by decide +kernel
theorem dX3_growAll_94 : decode cX3_growAll 94 = .ok (.getfield 9, 3) := by decide +kernel
theorem dX3_growAll_97 : decode cX3_growAll 97 = .ok (.iload 4, 2) := by decide +kernel
theorem dX3_growAll_99 : decode cX3_growAll 99 = .ok (.iaload, 1) := by decide +kernel
theorem dX3_growAll_100 : decode cX3_growAll 100 = .ok (.iload 6, 2) := by decide +kernel
theorem dX3_growAll_102 : decode cX3_growAll 102 = .ok (.iadd, 1) := by decide +kernel
theorem dX3_growAll_103 : decode cX3_growAll 103 = .ok (.invokestatic 88, 3) := by decide +kernel
theorem dX3_growAll_106 : decode cX3_growAll 106 = .ok (.invokestatic 51, 3) := by decide +kernel
theorem dX3_growAll_109 : decode cX3_growAll 109 = .ok (.iastore, 1) := by decide +kernel
theorem dX3_growAll_110 : decode cX3_growAll 110 = .ok (.aload_n 0, 1) := by decide +kernel
theorem dX3_growAll_111 : decode cX3_growAll 111 = .ok (.getfield 15, 3) := by decide +kernel
theorem dX3_growAll_114 : decode cX3_growAll 114 = .ok (.iload 4, 2) := by decide +kernel
theorem dX3_growAll_116 : decode cX3_growAll 116 = .ok (.dup2, 1) := by decide +kernel
theorem dX3_growAll_117 : decode cX3_growAll 117 = .ok (.iaload, 1) := by decide +kernel
theorem dX3_growAll_118 : decode cX3_growAll 118 = .ok (.iconst 1, 1) := by decide +kernel
theorem dX3_growAll_119 : decode cX3_growAll 119 = .ok (.iadd, 1) := by decide +kernel
theorem dX3_growAll_120 : decode cX3_growAll 120 = .ok (.iastore, 1) := by decide +kernel
theorem dX3_growAll_121 : decode cX3_growAll 121 = .ok (.aload_n 0, 1) := by decide +kernel
theorem dX3_growAll_122 : decode cX3_growAll 122 = .ok (.getfield 9, 3) := by decide +kernel
theorem dX3_growAll_125 : decode cX3_growAll 125 = .ok (.iload 4, 2) := by decide +kernel
theorem dX3_growAll_127 : decode cX3_growAll 127 = .ok (.iaload, 1) := by decide +kernel
theorem dX3_growAll_128 : decode cX3_growAll 128 = .ok (.ifCond .ne 12, 3) := by decide +kernel
theorem dX3_growAll_131 : decode cX3_growAll 131 = .ok (.iload_n 3, 1) := by decide +kernel
theorem dX3_growAll_132 : decode cX3_growAll 132 = .ok (.iconst 1, 1) := by decide +kernel
theorem dX3_growAll_133 : decode cX3_growAll 133 = .ok (.iload 4, 2) := by decide +kernel
theorem dX3_growAll_135 : decode cX3_growAll 135 = .ok (.ishl, 1) := by decide +kernel
theorem dX3_growAll_136 : decode cX3_growAll 136 = .ok (.iconst (-1), 1) := by decide +kernel
theorem dX3_growAll_137 : decode cX3_growAll 137 = .ok (.ixor, 1) := by decide +kernel
theorem dX3_growAll_138 : decode cX3_growAll 138 = .ok (.iand, 1) := by decide +kernel
theorem dX3_growAll_139 : decode cX3_growAll 139 = .ok (.istore_n 3, 1) := by decide +kernel
theorem dX3_growAll_140 : decode cX3_growAll 140 = .ok (.iinc 4 1, 3) := by decide +kernel
theorem dX3_growAll_143 : decode cX3_growAll 143 = .ok (.goto (-130), 3) := by decide +kernel
theorem dX3_growAll_146 : decode cX3_growAll 146 = .ok (.return_, 1) := by decide +kernel
theorem dX3_freeze_0 : decode cX3_freeze 0 = .ok (.iconst 0, 1) := by decide +kernel
theorem dX3_freeze_1 : decode cX3_freeze 1 = .ok (.istore_n 2, 1) := by decide +kernel
theorem dX3_freeze_2 : decode cX3_freeze 2 = .ok (.iload_n 2, 1) := by decide +kernel
theorem dX3_freeze_3 : decode cX3_freeze 3 = .ok (.aload_n 0, 1) := by decide +kernel
theorem dX3_freeze_4 : decode cX3_freeze 4 = .ok (.getfield 24, 3) := by decide +kernel
theorem dX3_freeze_7 : decode cX3_freeze 7 = .ok (.if_icmp .ge 55, 3) := by decide +kernel
theorem dX3_freeze_10 : decode cX3_freeze 10 = .ok (.iload_n 2, 1) := by decide +kernel
theorem dX3_freeze_11 : decode cX3_freeze 11 = .ok (.bipush 12, 2) := by decide +kernel
theorem dX3_freeze_13 : decode cX3_freeze 13 = .ok (.if_icmp .ge 49, 3) := by decide +kernel
theorem dX3_freeze_16 : decode cX3_freeze 16 = .ok (.aload_n 1, 1) := by decide +kernel
theorem dX3_freeze_17 : decode cX3_freeze 17 = .ok (.getfield 91, 3) := by decide +kernel
theorem dX3_freeze_20 : decode cX3_freeze 20 = .ok (.aload_n 1, 1) := by decide +kernel
theorem dX3_freeze_21 : decode cX3_freeze 21 = .ok (.getfield 67, 3) := by decide +kernel
theorem dX3_freeze_24 : decode cX3_freeze 24 = .ok (.getfield 94, 3) := by decide +kernel
theorem dX3_freeze_27 : decode cX3_freeze 27 = .ok (.iload_n 2, 1) := by decide +kernel
theorem dX3_freeze_28 : decode cX3_freeze 28 = .ok (.iaload, 1) := by decide +kernel
theorem dX3_freeze_29 : decode cX3_freeze 29 = .ok (.ishr, 1) := by decide +kernel
theorem dX3_freeze_30 : decode cX3_freeze 30 = .ok (.iconst 1, 1) := by decide +kernel
theorem dX3_freeze_31 : decode cX3_freeze 31 = .ok (.iand, 1) := by decide +kernel
theorem dX3_freeze_32 : decode cX3_freeze 32 = .ok (.ifCond .ne 24, 3) := by decide +kernel
theorem dX3_freeze_35 : decode cX3_freeze 35 = .ok (.aload_n 0, 1) := by decide +kernel
theorem dX3_freeze_36 : decode cX3_freeze 36 = .ok (.getfield 9, 3) := by decide +kernel
theorem dX3_freeze_39 : decode cX3_freeze 39 = .ok (.iload_n 2, 1) := by decide +kernel
theorem dX3_freeze_40 : decode cX3_freeze 40 = .ok (.iconst 0, 1) := by decide +kernel
theorem dX3_freeze_41 : decode cX3_freeze 41 = .ok (.aload_n 0, 1) := by decide +kernel
theorem dX3_freeze_42 : decode cX3_freeze 42 = .ok (.getfield 9, 3) := by decide +kernel
theorem dX3_freeze_45 : decode cX3_freeze 45 = .ok (.iload_n 2, 1) := by decide +kernel
theorem dX3_freeze_46 : decode cX3_freeze 46 = .ok (.iaload, 1) := by decide +kernel
theorem dX3_freeze_47 : decode cX3_freeze 47 = .ok (.aload_n 1, 1) := by decide +kernel
theorem dX3_freeze_48 : decode cX3_freeze 48 = .ok (.getfield 97, 3) := by decide +kernel
theorem dX3_freeze_51 : decode cX3_freeze 51 = .ok (.isub, 1) := by decide +kernel
theorem dX3_freeze_52 : decode cX3_freeze 52 = .ok (.invokestatic 51, 3) := by decide +kernel
theorem dX3_freeze_55 : decode cX3_freeze 55 = .ok (.iastore, 1) := by decide +kernel
theorem dX3_freeze_56 : decode cX3_freeze 56 = .ok (.iinc 2 1, 3) := by decide +kernel
theorem dX3_freeze_59 : decode cX3_freeze 59 = .ok (.goto (-57), 3) := by decide +kernel
theorem dX3_freeze_62 : decode cX3_freeze 62 = .ok (.return_, 1) := by decide +kernel
theorem dX4_init_0 : decode cX4_init 0 = .ok (.aload_n 0, 1) := by decide +kernel
theorem dX4_init_1 : decode cX4_init 1 = .ok (.invokespecial 3, 3) := by decide +kernel
theorem dX4_init_4 : decode cX4_init 4 = .ok (.aload_n 0, 1) := by decide +kernel
theorem dX4_init_5 : decode cX4_init 5 = .ok (.iconst 4, 1) := by decide +kernel
theorem dX4_init_6 : decode cX4_init 6 = .ok (.newarray .int, 2) := by decide +kernel
theorem dX4_init_8 : decode cX4_init 8 = .ok (.putfield 9, 3) := by decide +kernel
theorem dX4_init_11 : decode cX4_init 11 = .ok (.aload_n 0, 1) := by decide +kernel
theorem dX4_init_12 : decode cX4_init 12 = .ok (.bipush 12, 2) := by decide +kernel
theorem dX4_init_14 : decode cX4_init 14 = .ok (.newarray .int, 2) := by decide +kernel
theorem dX4_init_16 : decode cX4_init 16 = .ok (.putfield 15, 3) := by decide +kernel
theorem dX4_init_19 : decode cX4_init 19 = .ok (.aload_n 0, 1) := by decide +kernel
theorem dX4_init_20 : decode cX4_init 20 = .ok (.bipush 12, 2) := by decide +kernel
theorem dX4_init_22 : decode cX4_init 22 = .ok (.newarray .int, 2) := by decide +kernel
theorem dX4_init_24 : decode cX4_init 24 = .ok (.putfield 18, 3) := by decide +kernel
theorem dX4_init_27 : decode cX4_init 27 = .ok (.aload_n 0, 1) := by decide +kernel
theorem dX4_init_28 : decode cX4_init 28 = .ok (.new 21, 3) := by decide +kernel
theorem dX4_init_31 : decode cX4_init 31 = .ok (.dup, 1) := by decide +kernel
theorem dX4_init_32 : decode cX4_init 32 = .ok (.invokespecial 23, 3) := by decide +kernel
theorem dX4_init_35 : decode cX4_init 35 = .ok (.putfield 24, 3) := by decide +kernel
theorem dX4_init_38 : decode cX4_init 38 = .ok (.aload_n 0, 1) := by decide +kernel
theorem dX4_init_39 : decode cX4_init 39 = .ok (.new 28, 3) := by decide +kernel
theorem dX4_init_42 : decode cX4_init 42 = .ok (.dup, 1) := by decide +kernel
theorem dX4_init_43 : decode cX4_init 43 = .ok (.invokespecial 30, 3) := by decide +kernel
theorem dX4_init_46 : decode cX4_init 46 = .ok (.putfield 31, 3) := by decide +kernel
theorem dX4_init_49 : decode cX4_init 49 = .ok (.aload_n 0, 1) := by decide +kernel
theorem dX4_init_50 : decode cX4_init 50 = .ok (.invokevirtual 35, 3) := by decide +kernel
theorem dX4_init_53 : decode cX4_init 53 = .ok (.return_, 1) := by decide +kernel
theorem dX4_clear_0 : decode cX4_clear 0 = .ok (.aload_n 0, 1) := by decide +kernel
theorem dX4_clear_1 : decode cX4_clear 1 = .ok (.bipush 8, 2) := by decide +kernel
theorem dX4_clear_3 : decode cX4_clear 3 = .ok (.putfield 38, 3) := by decide +kernel
theorem dX4_clear_6 : decode cX4_clear 6 = .ok (.aload_n 0, 1) := by decide +kernel
theorem dX4_clear_7 : decode cX4_clear 7 = .ok (.iconst 0, 1) := by decide +kernel
theorem dX4_clear_8 : decode cX4_clear 8 = .ok (.putfield 42, 3) := by decide +kernel
theorem dX4_clear_11 : decode cX4_clear 11 = .ok (.aload_n 0, 1) := by decide +kernel
theorem dX4_clear_12 : decode cX4_clear 12 = .ok (.iconst 0, 1) := by decide +kernel
theorem dX4_clear_13 : decode cX4_clear 13 = .ok (.putfield 45, 3) := by decide +kernel
theorem dX4_clear_16 : decode cX4_clear 16 = .ok (.aload_n 0, 1) := by decide +kernel
theorem dX4_clear_17 : decode cX4_clear 17 = .ok (.iconst 0, 1) := by decide +kernel
theorem dX4_clear_18 : decode cX4_clear 18 = .ok (.putfield 48, 3) := by decide +kernel
theorem dX4_clear_21 : decode cX4_clear 21 = .ok (.aload_n 0, 1) := by decide +kernel
theorem dX4_clear_22 : decode cX4_clear 22 = .ok (.iconst 0, 1) := by decide +kernel
theorem dX4_clear_23 : decode cX4_clear 23 = .ok (.putfield 51, 3) := by decide +kernel
theorem dX4_clear_26 : decode cX4_clear 26 = .ok (.aload_n 0, 1) := by decide +kernel
theorem dX4_clear_27 : decode cX4_clear 27 = .ok (.iconst 0, 1) := by decide +kernel
theorem dX4_clear_28 : decode cX4_clear 28 = .ok (.putfield 54, 3) := by decide +kernel
theorem dX4_clear_31 : decode cX4_clear 31 = .ok (.iconst 0, 1) := by decide +kernel
theorem dX4_clear_32 : decode cX4_clear 32 = .ok (.istore_n 1, 1) := by decide +kernel
theorem dX4_clear_33 : decode cX4_clear 33 = .ok (.iload_n 1, 1) := by decide +kernel
theorem dX4_clear_34 : decode cX4_clear 34 = .ok (.aload_n 0, 1) := by decide +kernel
theorem dX4_clear_35 : decode cX4_clear 35 = .ok (.getfield 18, 3) := by decide +kernel
theorem dX4_clear_38 : decode cX4_clear 38 = .ok (.arraylength, 1) := by decide +kernel
theorem dX4_clear_39 : decode cX4_clear 39 = .ok (.if_icmp .ge 16, 3) := by decide +kernel
theorem dX4_clear_42 : decode cX4_clear 42 = .ok (.aload_n 0, 1) := by decide +kernel
theorem dX4_clear_43 : decode cX4_clear 43 = .ok (.getfield 18, 3) := by decide +kernel
theorem dX4_clear_46 : decode cX4_clear 46 = .ok (.iload_n 1, 1) := by decide +kernel
theorem dX4_clear_47 : decode cX4_clear 47 = .ok (.iconst 0, 1) := by decide +kernel
theorem dX4_clear_48 : decode cX4_clear 48 = .ok (.iastore, 1) := by decide +kernel
theorem dX4_clear_49 : decode cX4_clear 49 = .ok (.iinc 1 1, 3) := by decide +kernel
theorem dX4_clear_52 : decode cX4_clear 52 = .ok (.goto (-19), 3) := by decide +kernel
theorem dX4_clear_55 : decode cX4_clear 55 = .ok (.aload_n 0, 1) := by decide +kernel
theorem dX4_clear_56 : decode cX4_clear 56 = .ok (.iconst 0, 1) := by decide +kernel
theorem dX4_clear_57 : decode cX4_clear 57 = .ok (.putfield 57, 3) := by decide +kernel
theorem dX4_clear_60 : decode cX4_clear 60 = .ok (.aload_n 0, 1) := by decide +kernel
theorem dX4_clear_61 : decode cX4_clear 61 = .ok (.iconst 1, 1) := by decide +kernel
theorem dX4_clear_62 : decode cX4_clear 62 = .ok (.putfield 60, 3) := by decide +kernel
theorem dX4_clear_65 : decode cX4_clear 65 = .ok (.aload_n 0, 1) := by decide +kernel
theorem dX4_clear_66 : decode cX4_clear 66 = .ok (.iconst 0, 1) := by decide +kernel
theorem dX4_clear_67 : decode cX4_clear 67 = .ok (.putfield 63, 3) := by decide +kernel
theorem dX4_clear_70 : decode cX4_clear 70 = .ok (.aload_n 0, 1) := by decide +kernel
theorem dX4_clear_71 : decode cX4_clear 71 = .ok (.getfield 24, 3) := by decide +kernel
theorem dX4_clear_74 : decode cX4_clear 74 = .ok (.invokevirtual 66, 3) := by decide +kernel
theorem dX4_clear_77 : decode cX4_clear 77 = .ok (.return_, 1) := by decide +kernel
theorem dX4_firstLifeOf_0 : decode cX4_firstLifeOf 0 = .ok (.iload_n 1, 1) := by decide +kernel
theorem dX4_firstLifeOf_1 : decode cX4_firstLifeOf 1 = .ok (.ifCond .lt 9, 3) := by decide +kernel
theorem dX4_firstLifeOf_4 : decode cX4_firstLifeOf 4 = .ok (.iload_n 1, 1) := by decide +kernel
theorem dX4_firstLifeOf_5 : decode cX4_firstLifeOf 5 = .ok (.bipush 12, 2) := by decide +kernel
theorem dX4_firstLifeOf_7 : decode cX4_firstLifeOf 7 = .ok (.if_icmp .lt 5, 3) := by decide +kernel
theorem dX4_firstLifeOf_10 : decode cX4_firstLifeOf 10 = .ok (.iconst 0, 1) := by decide +kernel
theorem dX4_firstLifeOf_11 : decode cX4_firstLifeOf 11 = .ok (.ireturn, 1) := by decide +kernel
theorem dX4_firstLifeOf_12 : decode cX4_firstLifeOf 12 = .ok (.aload_n 0, 1) := by decide +kernel
theorem dX4_firstLifeOf_13 : decode cX4_firstLifeOf 13 = .ok (.getfield 31, 3) := by decide +kernel
theorem dX4_firstLifeOf_16 : decode cX4_firstLifeOf 16 = .ok (.getfield 67, 3) := by decide +kernel
theorem dX4_firstLifeOf_19 : decode cX4_firstLifeOf 19 = .ok (.iload_n 1, 1) := by decide +kernel
theorem dX4_firstLifeOf_20 : decode cX4_firstLifeOf 20 = .ok (.iaload, 1) := by decide +kernel
theorem dX4_firstLifeOf_21 : decode cX4_firstLifeOf 21 = .ok (.istore_n 2, 1) := by decide +kernel
theorem dX4_firstLifeOf_22 : decode cX4_firstLifeOf 22 = .ok (.iload_n 2, 1) := by decide +kernel
theorem dX4_firstLifeOf_23 : decode cX4_firstLifeOf 23 = .ok (.ifCond .lt 21, 3) := by decide +kernel
theorem dX4_firstLifeOf_26 : decode cX4_firstLifeOf 26 = .ok (.iload_n 2, 1) := by decide +kernel
theorem dX4_firstLifeOf_27 : decode cX4_firstLifeOf 27 = .ok (.aload_n 0, 1) := by decide +kernel
theorem dX4_firstLifeOf_28 : decode cX4_firstLifeOf 28 = .ok (.getfield 9, 3) := by decide +kernel
theorem dX4_firstLifeOf_31 : decode cX4_firstLifeOf 31 = .ok (.arraylength, 1) := by decide +kernel
theorem dX4_firstLifeOf_32 : decode cX4_firstLifeOf 32 = .ok (.if_icmp .ge 12, 3) := by decide +kernel
theorem dX4_firstLifeOf_35 : decode cX4_firstLifeOf 35 = .ok (.aload_n 0, 1) := by decide +kernel
theorem dX4_firstLifeOf_36 : decode cX4_firstLifeOf 36 = .ok (.getfield 9, 3) := by decide +kernel
theorem dX4_firstLifeOf_39 : decode cX4_firstLifeOf 39 = .ok (.iload_n 2, 1) := by decide +kernel
theorem dX4_firstLifeOf_40 : decode cX4_firstLifeOf 40 = .ok (.iaload, 1) := by decide +kernel
theorem dX4_firstLifeOf_41 : decode cX4_firstLifeOf 41 = .ok (.goto 4, 3) := by decide +kernel
theorem dX4_firstLifeOf_44 : decode cX4_firstLifeOf 44 = .ok (.iconst 0, 1) := by decide +kernel
theorem dX4_firstLifeOf_45 : decode cX4_firstLifeOf 45 = .ok (.ireturn, 1) := by decide +kernel
theorem dX4_joyOf_0 : decode cX4_joyOf 0 = .ok (.iconst 0, 1) := by decide +kernel
theorem dX4_joyOf_1 : decode cX4_joyOf 1 = .ok (.istore_n 3, 1) := by decide +kernel
theorem dX4_joyOf_2 : decode cX4_joyOf 2 = .ok (.iconst 0, 1) := by decide +kernel
theorem dX4_joyOf_3 : decode cX4_joyOf 3 = .ok (.istore 4, 2) := by decide +kernel
theorem dX4_joyOf_5 : decode cX4_joyOf 5 = .ok (.iload 4, 2) := by decide +kernel
theorem dX4_joyOf_7 : decode cX4_joyOf 7 = .ok (.aload_n 0, 1) := by decide +kernel
theorem dX4_joyOf_8 : decode cX4_joyOf 8 = .ok (.getfield 45, 3) := by decide +kernel
theorem dX4_joyOf_11 : decode cX4_joyOf 11 = .ok (.if_icmp .ge 75, 3) := by decide +kernel
theorem dX4_joyOf_14 : decode cX4_joyOf 14 = .ok (.iload 4, 2) := by decide +kernel
theorem dX4_joyOf_16 : decode cX4_joyOf 16 = .ok (.aload_n 2, 1) := by decide +kernel
theorem dX4_joyOf_17 : decode cX4_joyOf 17 = .ok (.arraylength, 1) := by decide +kernel
theorem dX4_joyOf_18 : decode cX4_joyOf 18 = .ok (.if_icmp .ge 68, 3) := by decide +kernel
theorem dX4_joyOf_21 : decode cX4_joyOf 21 = .ok (.iload_n 1, 1) := by decide +kernel
theorem dX4_joyOf_22 : decode cX4_joyOf 22 = .ok (.iconst 4, 1) := by decide +kernel
theorem dX4_joyOf_23 : decode cX4_joyOf 23 = .ok (.imul, 1) := by decide +kernel
theorem dX4_joyOf_24 : decode cX4_joyOf 24 = .ok (.iload 4, 2) := by decide +kernel
theorem dX4_joyOf_26 : decode cX4_joyOf 26 = .ok (.iadd, 1) := by decide +kernel
theorem dX4_joyOf_27 : decode cX4_joyOf 27 = .ok (.istore 5, 2) := by decide +kernel
theorem dX4_joyOf_29 : decode cX4_joyOf 29 = .ok (.iload 5, 2) := by decide +kernel
theorem dX4_joyOf_31 : decode cX4_joyOf 31 = .ok (.ifCond .lt 49, 3) := by decide +kernel
theorem dX4_joyOf_34 : decode cX4_joyOf 34 = .ok (.iload 5, 2) := by decide +kernel
theorem dX4_joyOf_36 : decode cX4_joyOf 36 = .ok (.aload_n 0, 1) := by decide +kernel
theorem dX4_joyOf_37 : decode cX4_joyOf 37 = .ok (.getfield 18, 3) := by decide +kernel
theorem dX4_joyOf_40 : decode cX4_joyOf 40 = .ok (.arraylength, 1) := by decide +kernel
theorem dX4_joyOf_41 : decode cX4_joyOf 41 = .ok (.if_icmp .ge 39, 3) := by decide +kernel
theorem dX4_joyOf_44 : decode cX4_joyOf 44 = .ok (.iload 5, 2) := by decide +kernel
theorem dX4_joyOf_46 : decode cX4_joyOf 46 = .ok (.aload_n 0, 1) := by decide +kernel
theorem dX4_joyOf_47 : decode cX4_joyOf 47 = .ok (.getfield 15, 3) := by decide +kernel
theorem dX4_joyOf_50 : decode cX4_joyOf 50 = .ok (.arraylength, 1) := by decide +kernel
theorem dX4_joyOf_51 : decode cX4_joyOf 51 = .ok (.if_icmp .ge 29, 3) := by decide +kernel
theorem dX4_joyOf_54 : decode cX4_joyOf 54 = .ok (.iload_n 3, 1) := by decide +kernel
theorem dX4_joyOf_55 : decode cX4_joyOf 55 = .ok (.aload_n 0, 1) := by decide +kernel
theorem dX4_joyOf_56 : decode cX4_joyOf 56 = .ok (.getfield 18, 3) := by decide +kernel
theorem dX4_joyOf_59 : decode cX4_joyOf 59 = .ok (.iload 5, 2) := by decide +kernel
theorem dX4_joyOf_61 : decode cX4_joyOf 61 = .ok (.iaload, 1) := by decide +kernel
theorem dX4_joyOf_62 : decode cX4_joyOf 62 = .ok (.aload_n 2, 1) := by decide +kernel
theorem dX4_joyOf_63 : decode cX4_joyOf 63 = .ok (.iload 4, 2) := by decide +kernel
theorem dX4_joyOf_65 : decode cX4_joyOf 65 = .ok (.iaload, 1) := by decide +kernel
theorem dX4_joyOf_66 : decode cX4_joyOf 66 = .ok (.aload_n 0, 1) := by decide +kernel
theorem dX4_joyOf_67 : decode cX4_joyOf 67 = .ok (.getfield 15, 3) := by decide +kernel
theorem dX4_joyOf_70 : decode cX4_joyOf 70 = .ok (.iload 5, 2) := by decide +kernel
theorem dX4_joyOf_72 : decode cX4_joyOf 72 = .ok (.iaload, 1) := by decide +kernel
theorem dX4_joyOf_73 : decode cX4_joyOf 73 = .ok (.isub, 1) := by decide +kernel
theorem dX4_joyOf_74 : decode cX4_joyOf 74 = .ok (.invokestatic 70, 3) := by decide +kernel
theorem dX4_joyOf_77 : decode cX4_joyOf 77 = .ok (.imul, 1) := by decide +kernel
theorem dX4_joyOf_78 : decode cX4_joyOf 78 = .ok (.isub, 1) := by decide +kernel
theorem dX4_joyOf_79 : decode cX4_joyOf 79 = .ok (.istore_n 3, 1) := by decide +kernel
theorem dX4_joyOf_80 : decode cX4_joyOf 80 = .ok (.iinc 4 1, 3) := by decide +kernel
theorem dX4_joyOf_83 : decode cX4_joyOf 83 = .ok (.goto (-78), 3) := by decide +kernel
theorem dX4_joyOf_86 : decode cX4_joyOf 86 = .ok (.iload_n 3, 1) := by decide +kernel
theorem dX4_joyOf_87 : decode cX4_joyOf 87 = .ok (.ireturn, 1) := by decide +kernel
theorem dX5_init_0 : decode cX5_init 0 = .ok (.aload_n 0, 1) := by decide +kernel
theorem dX5_init_1 : decode cX5_init 1 = .ok (.invokespecial 7, 3) := by decide +kernel
theorem dX5_init_4 : decode cX5_init 4 = .ok (.aload_n 0, 1) := by decide +kernel
theorem dX5_init_5 : decode cX5_init 5 = .ok (.sipush 297, 3) := by decide +kernel
theorem dX5_init_8 : decode cX5_init 8 = .ok (.newarray .int, 2) := by decide +kernel
theorem dX5_init_10 : decode cX5_init 10 = .ok (.putfield 15, 3) := by decide +kernel
theorem dX5_init_13 : decode cX5_init 13 = .ok (.return_, 1) := by decide +kernel
theorem dX5_clear_0 : decode cX5_clear 0 = .ok (.aload_n 0, 1) := by decide +kernel
theorem dX5_clear_1 : decode cX5_clear 1 = .ok (.iconst 0, 1) := by decide +kernel
theorem dX5_clear_2 : decode cX5_clear 2 = .ok (.putfield 19, 3) := by decide +kernel
theorem dX5_clear_5 : decode cX5_clear 5 = .ok (.return_, 1) := by decide +kernel
theorem dX5_has_0 : decode cX5_has 0 = .ok (.iload_n 1, 1) := by decide +kernel
theorem dX5_has_1 : decode cX5_has 1 = .ok (.ifCond .lt 23, 3) := by decide +kernel
theorem dX5_has_4 : decode cX5_has 4 = .ok (.iload_n 1, 1) := by decide +kernel
theorem dX5_has_5 : decode cX5_has 5 = .ok (.iconst 3, 1) := by decide +kernel
theorem dX5_has_6 : decode cX5_has 6 = .ok (.if_icmp .ge 18, 3) := by decide +kernel
theorem dX5_has_9 : decode cX5_has 9 = .ok (.aload_n 0, 1) := by decide +kernel
theorem dX5_has_10 : decode cX5_has 10 = .ok (.getfield 19, 3) := by decide +kernel
theorem dX5_has_13 : decode cX5_has 13 = .ok (.iload_n 1, 1) := by decide +kernel
theorem dX5_has_14 : decode cX5_has 14 = .ok (.ishr, 1) := by decide +kernel
theorem dX5_has_15 : decode cX5_has 15 = .ok (.iconst 1, 1) := by decide +kernel
theorem dX5_has_16 : decode cX5_has 16 = .ok (.iand, 1) := by decide +kernel
theorem dX5_has_17 : decode cX5_has 17 = .ok (.ifCond .eq 7, 3) := by decide +kernel
theorem dX5_has_20 : decode cX5_has 20 = .ok (.iconst 1, 1) := by decide +kernel
theorem dX5_has_21 : decode cX5_has 21 = .ok (.goto 4, 3) := by decide +kernel
theorem dX5_has_24 : decode cX5_has 24 = .ok (.iconst 0, 1) := by decide +kernel
theorem dX5_has_25 : decode cX5_has 25 = .ok (.ireturn, 1) := by decide +kernel
theorem dX5_keep_0 : decode cX5_keep 0 = .ok (.aload_n 2, 1) := by decide +kernel
theorem dX5_keep_1 : decode cX5_keep 1 = .ok (.aload_n 0, 1) := by decide +kernel
theorem dX5_keep_2 : decode cX5_keep 2 = .ok (.getfield 15, 3) := by decide +kernel
theorem dX5_keep_5 : decode cX5_keep 5 = .ok (.iload_n 1, 1) := by decide +kernel
theorem dX5_keep_6 : decode cX5_keep 6 = .ok (.bipush 99, 2) := by decide +kernel
theorem dX5_keep_8 : decode cX5_keep 8 = .ok (.imul, 1) := by decide +kernel
theorem dX5_keep_9 : decode cX5_keep 9 = .ok (.invokevirtual 23, 3) := by decide +kernel
theorem dX5_keep_12 : decode cX5_keep 12 = .ok (.aload_n 3, 1) := by decide +kernel
theorem dX5_keep_13 : decode cX5_keep 13 = .ok (.aload_n 0, 1) := by decide +kernel
theorem dX5_keep_14 : decode cX5_keep 14 = .ok (.getfield 15, 3) := by decide +kernel
theorem dX5_keep_17 : decode cX5_keep 17 = .ok (.iload_n 1, 1) := by decide +kernel
theorem dX5_keep_18 : decode cX5_keep 18 = .ok (.bipush 99, 2) := by decide +kernel
theorem dX5_keep_20 : decode cX5_keep 20 = .ok (.imul, 1) := by decide +kernel
theorem dX5_keep_21 : decode cX5_keep 21 = .ok (.bipush 72, 2) := by decide +kernel
theorem dX5_keep_23 : decode cX5_keep 23 = .ok (.iadd, 1) := by decide +kernel
theorem dX5_keep_24 : decode cX5_keep 24 = .ok (.invokevirtual 27, 3) := by decide +kernel
theorem dX5_keep_27 : decode cX5_keep 27 = .ok (.aload_n 0, 1) := by decide +kernel
theorem dX5_keep_28 : decode cX5_keep 28 = .ok (.dup, 1) := by decide +kernel
theorem dX5_keep_29 : decode cX5_keep 29 = .ok (.getfield 19, 3) := by decide +kernel
theorem dX5_keep_32 : decode cX5_keep 32 = .ok (.iconst 1, 1) := by decide +kernel
theorem dX5_keep_33 : decode cX5_keep 33 = .ok (.iload_n 1, 1) := by decide +kernel
theorem dX5_keep_34 : decode cX5_keep 34 = .ok (.ishl, 1) := by decide +kernel
theorem dX5_keep_35 : decode cX5_keep 35 = .ok (.ior, 1) := by decide +kernel
theorem dX5_keep_36 : decode cX5_keep 36 = .ok (.putfield 19, 3) := by decide +kernel
theorem dX5_keep_39 : decode cX5_keep 39 = .ok (.return_, 1) := by decide +kernel
theorem dX5_bring_0 : decode cX5_bring 0 = .ok (.aload_n 2, 1) := by decide +kernel
theorem dX5_bring_1 : decode cX5_bring 1 = .ok (.aload_n 0, 1) := by decide +kernel
theorem dX5_bring_2 : decode cX5_bring 2 = .ok (.getfield 15, 3) := by decide +kernel
theorem dX5_bring_5 : decode cX5_bring 5 = .ok (.iload_n 1, 1) := by decide +kernel
theorem dX5_bring_6 : decode cX5_bring 6 = .ok (.bipush 99, 2) := by decide +kernel
theorem dX5_bring_8 : decode cX5_bring 8 = .ok (.imul, 1) := by decide +kernel
theorem dX5_bring_9 : decode cX5_bring 9 = .ok (.invokevirtual 28, 3) := by decide +kernel
theorem dX5_bring_12 : decode cX5_bring 12 = .ok (.aload_n 3, 1) := by decide +kernel
theorem dX5_bring_13 : decode cX5_bring 13 = .ok (.aload_n 0, 1) := by decide +kernel
theorem dX5_bring_14 : decode cX5_bring 14 = .ok (.getfield 15, 3) := by decide +kernel
theorem dX5_bring_17 : decode cX5_bring 17 = .ok (.iload_n 1, 1) := by decide +kernel
theorem dX5_bring_18 : decode cX5_bring 18 = .ok (.bipush 99, 2) := by decide +kernel
theorem dX5_bring_20 : decode cX5_bring 20 = .ok (.imul, 1) := by decide +kernel
theorem dX5_bring_21 : decode cX5_bring 21 = .ok (.bipush 72, 2) := by decide +kernel
theorem dX5_bring_23 : decode cX5_bring 23 = .ok (.iadd, 1) := by decide +kernel
theorem dX5_bring_24 : decode cX5_bring 24 = .ok (.invokevirtual 31, 3) := by decide +kernel
theorem dX5_bring_27 : decode cX5_bring 27 = .ok (.return_, 1) := by decide +kernel
theorem dX6_init_0 : decode cX6_init 0 = .ok (.aload_n 0, 1) := by decide +kernel
theorem dX6_init_1 : decode cX6_init 1 = .ok (.invokespecial 3, 3) := by decide +kernel
theorem dX6_init_4 : decode cX6_init 4 = .ok (.aload_n 0, 1) := by decide +kernel
theorem dX6_init_5 : decode cX6_init 5 = .ok (.iconst 5, 1) := by decide +kernel
theorem dX6_init_6 : decode cX6_init 6 = .ok (.newarray .int, 2) := by decide +kernel
theorem dX6_init_8 : decode cX6_init 8 = .ok (.putfield 9, 3) := by decide +kernel
theorem dX6_init_11 : decode cX6_init 11 = .ok (.aload_n 0, 1) := by decide +kernel
theorem dX6_init_12 : decode cX6_init 12 = .ok (.iconst 5, 1) := by decide +kernel
theorem dX6_init_13 : decode cX6_init 13 = .ok (.newarray .int, 2) := by decide +kernel
theorem dX6_init_15 : decode cX6_init 15 = .ok (.putfield 15, 3) := by decide +kernel
theorem dX6_init_18 : decode cX6_init 18 = .ok (.aload_n 0, 1) := by decide +kernel
theorem dX6_init_19 : decode cX6_init 19 = .ok (.bipush 25, 2) := by decide +kernel
theorem dX6_init_21 : decode cX6_init 21 = .ok (.newarray .int, 2) := by decide +kernel
theorem dX6_init_23 : decode cX6_init 23 = .ok (.putfield 18, 3) := by decide +kernel
theorem dX6_init_26 : decode cX6_init 26 = .ok (.return_, 1) := by decide +kernel
theorem dX6_gather_0 : decode cX6_gather 0 = .ok (.aload_n 0, 1) := by decide +kernel
theorem dX6_gather_1 : decode cX6_gather 1 = .ok (.iload 4, 2) := by decide +kernel
theorem dX6_gather_3 : decode cX6_gather 3 = .ok (.iconst 5, 1) := by decide +kernel
theorem dX6_gather_4 : decode cX6_gather 4 = .ok (.invokestatic 21, 3) := by decide +kernel
theorem dX6_gather_7 : decode cX6_gather 7 = .ok (.putfield 27, 3) := by decide +kernel
theorem dX6_gather_10 : decode cX6_gather 10 = .ok (.aload_n 0, 1) := by decide +kernel
theorem dX6_gather_11 : decode cX6_gather 11 = .ok (.iconst 0, 1) := by decide +kernel
theorem dX6_gather_12 : decode cX6_gather 12 = .ok (.putfield 31, 3) := by decide +kernel
theorem dX6_gather_15 : decode cX6_gather 15 = .ok (.iconst 0, 1) := by decide +kernel
theorem dX6_gather_16 : decode cX6_gather 16 = .ok (.istore 5, 2) := by decide +kernel
theorem dX6_gather_18 : decode cX6_gather 18 = .ok (.iload 5, 2) := by decide +kernel
theorem dX6_gather_20 : decode cX6_gather 20 = .ok (.aload_n 0, 1) := by decide +kernel
theorem dX6_gather_21 : decode cX6_gather 21 = .ok (.getfield 18, 3) := by decide +kernel
theorem dX6_gather_24 : decode cX6_gather 24 = .ok (.arraylength, 1) := by decide +kernel
theorem dX6_gather_25 : decode cX6_gather 25 = .ok (.if_icmp .ge 17, 3) := by decide +kernel
theorem dX6_gather_28 : decode cX6_gather 28 = .ok (.aload_n 0, 1) := by decide +kernel
theorem dX6_gather_29 : decode cX6_gather 29 = .ok (.getfield 18, 3) := by decide +kernel
theorem dX6_gather_32 : decode cX6_gather 32 = .ok (.iload 5, 2) := by decide +kernel
theorem dX6_gather_34 : decode cX6_gather 34 = .ok (.iconst 0, 1) := by decide +kernel
theorem dX6_gather_35 : decode cX6_gather 35 = .ok (.iastore, 1) := by decide +kernel
theorem dX6_gather_36 : decode cX6_gather 36 = .ok (.iinc 5 1, 3) := by decide +kernel
theorem dX6_gather_39 : decode cX6_gather 39 = .ok (.goto (-21), 3) := by decide +kernel
theorem dX6_gather_42 : decode cX6_gather 42 = .ok (.iconst 0, 1) := by decide +kernel
theorem dX6_gather_43 : decode cX6_gather 43 = .ok (.istore 5, 2) := by decide +kernel
theorem dX6_gather_45 : decode cX6_gather 45 = .ok (.iload 5, 2) := by decide +kernel
theorem dX6_gather_47 : decode cX6_gather 47 = .ok (.aload_n 0, 1) := by decide +kernel
theorem dX6_gather_48 : decode cX6_gather 48 = .ok (.getfield 27, 3) := by decide +kernel
theorem dX6_gather_51 : decode cX6_gather 51 = .ok (.if_icmp .ge 37, 3) := by decide +kernel
theorem dX6_gather_54 : decode cX6_gather 54 = .ok (.aload_n 0, 1) := by decide +kernel
theorem dX6_gather_55 : decode cX6_gather 55 = .ok (.getfield 9, 3) := by decide +kernel
theorem dX6_gather_58 : decode cX6_gather 58 = .ok (.iload 5, 2) := by decide +kernel
theorem dX6_gather_60 : decode cX6_gather 60 = .ok (.aload_n 3, 1) := by decide +kernel
theorem dX6_gather_61 : decode cX6_gather 61 = .ok (.getfield 34, 3) := by decide +kernel
theorem dX6_gather_64 : decode cX6_gather 64 = .ok (.iload 5, 2) := by decide +kernel
theorem dX6_gather_66 : decode cX6_gather 66 = .ok (.iaload, 1) := by decide +kernel
theorem dX6_gather_67 : decode cX6_gather 67 = .ok (.invokestatic 39, 3) := by decide +kernel
theorem dX6_gather_70 : decode cX6_gather 70 = .ok (.aload_n 3, 1) := by decide +kernel
theorem dX6_gather_71 : decode cX6_gather 71 = .ok (.getfield 43, 3) := by decide +kernel
theorem dX6_gather_74 : decode cX6_gather 74 = .ok (.iload 5, 2) := by decide +kernel
theorem dX6_gather_76 : decode cX6_gather 76 = .ok (.iaload, 1) := by decide +kernel
theorem dX6_gather_77 : decode cX6_gather 77 = .ok (.invokestatic 39, 3) := by decide +kernel
theorem dX6_gather_80 : decode cX6_gather 80 = .ok (.ior, 1) := by decide +kernel
theorem dX6_gather_81 : decode cX6_gather 81 = .ok (.iastore, 1) := by decide +kernel
theorem dX6_gather_82 : decode cX6_gather 82 = .ok (.iinc 5 1, 3) := by decide +kernel
theorem dX6_gather_85 : decode cX6_gather 85 = .ok (.goto (-40), 3) := by decide +kernel
theorem dX6_gather_88 : decode cX6_gather 88 = .ok (.iconst 0, 1) := by decide +kernel
theorem dX6_gather_89 : decode cX6_gather 89 = .ok (.istore 5, 2) := by decide +kernel
theorem dX6_gather_91 : decode cX6_gather 91 = .ok (.iload 5, 2) := by decide +kernel
theorem dX6_gather_93 : decode cX6_gather 93 = .ok (.aload_n 1, 1) := by decide +kernel
theorem dX6_gather_94 : decode cX6_gather 94 = .ok (.getfield 46, 3) := by decide +kernel
theorem dX6_gather_97 : decode cX6_gather 97 = .ok (.if_icmp .ge 76, 3) := by decide +kernel
theorem dX6_gather_100 : decode cX6_gather 100 = .ok (.iload 5, 2) := by decide +kernel
theorem dX6_gather_102 : decode cX6_gather 102 = .ok (.bipush 30, 2) := by decide +kernel
theorem dX6_gather_104 : decode cX6_gather 104 = .ok (.if_icmp .ge 69, 3) := by decide +kernel
theorem dX6_gather_107 : decode cX6_gather 107 = .ok (.aload_n 1, 1) := by decide +kernel
theorem dX6_gather_108 : decode cX6_gather 108 = .ok (.getfield 51, 3) := by decide +kernel
theorem dX6_gather_111 : decode cX6_gather 111 = .ok (.iload 5, 2) := by decide +kernel
theorem dX6_gather_113 : decode cX6_gather 113 = .ok (.iaload, 1) := by decide +kernel
theorem dX6_gather_114 : decode cX6_gather 114 = .ok (.istore 6, 2) := by decide +kernel
theorem dX6_gather_116 : decode cX6_gather 116 = .ok (.aload_n 1, 1) := by decide +kernel
theorem dX6_gather_117 : decode cX6_gather 117 = .ok (.getfield 54, 3) := by decide +kernel
theorem dX6_gather_120 : decode cX6_gather 120 = .ok (.iload 5, 2) := by decide +kernel
theorem dX6_gather_122 : decode cX6_gather 122 = .ok (.iaload, 1) := by decide +kernel
theorem dX6_gather_123 : decode cX6_gather 123 = .ok (.istore 7, 2) := by decide +kernel
theorem dX6_gather_125 : decode cX6_gather 125 = .ok (.aload_n 1, 1) := by decide +kernel
theorem dX6_gather_126 : decode cX6_gather 126 = .ok (.iload 5, 2) := by decide +kernel
theorem dX6_gather_128 : decode cX6_gather 128 = .ok (.iload_n 2, 1) := by decide +kernel
theorem dX6_gather_129 : decode cX6_gather 129 = .ok (.invokevirtual 57, 3) := by decide +kernel
theorem dX6_gather_132 : decode cX6_gather 132 = .ok (.ifCond .eq 35, 3) := by decide +kernel
theorem dX6_gather_135 : decode cX6_gather 135 = .ok (.aload_n 0, 1) := by decide +kernel
theorem dX6_gather_136 : decode cX6_gather 136 = .ok (.iload 6, 2) := by decide +kernel
theorem dX6_gather_138 : decode cX6_gather 138 = .ok (.invokevirtual 61, 3) := by decide +kernel
theorem dX6_gather_141 : decode cX6_gather 141 = .ok (.ifCond .eq 26, 3) := by decide +kernel
theorem dX6_gather_144 : decode cX6_gather 144 = .ok (.aload_n 0, 1) := by decide +kernel
theorem dX6_gather_145 : decode cX6_gather 145 = .ok (.iload 7, 2) := by decide +kernel
theorem dX6_gather_147 : decode cX6_gather 147 = .ok (.invokevirtual 61, 3) := by decide +kernel
theorem dX6_gather_150 : decode cX6_gather 150 = .ok (.ifCond .eq 17, 3) := by decide +kernel
theorem dX6_gather_153 : decode cX6_gather 153 = .ok (.aload_n 0, 1) := by decide +kernel
theorem dX6_gather_154 : decode cX6_gather 154 = .ok (.getfield 9, 3) := by decide +kernel
theorem dX6_gather_157 : decode cX6_gather 157 = .ok (.iload 7, 2) := by decide +kernel
theorem dX6_gather_159 : decode cX6_gather 159 = .ok (.dup2, 1) := by decide +kernel
theorem dX6_gather_160 : decode cX6_gather 160 = .ok (.iaload, 1) := by decide +kernel
theorem dX6_gather_161 : decode cX6_gather 161 = .ok (.iconst 1, 1) := by decide +kernel
theorem dX6_gather_162 : decode cX6_gather 162 = .ok (.iload 6, 2) := by decide +kernel
theorem dX6_gather_164 : decode cX6_gather 164 = .ok (.ishl, 1) := by decide +kernel
theorem dX6_gather_165 : decode cX6_gather 165 = .ok (.ior, 1) := by decide +kernel
theorem dX6_gather_166 : decode cX6_gather 166 = .ok (.iastore, 1) := by decide +kernel
theorem dX6_gather_167 : decode cX6_gather 167 = .ok (.iinc 5 1, 3) := by decide +kernel
theorem dX6_gather_170 : decode cX6_gather 170 = .ok (.goto (-79), 3) := by decide +kernel
theorem dX6_gather_173 : decode cX6_gather 173 = .ok (.aload_n 0, 1) := by decide +kernel
theorem dX6_gather_174 : decode cX6_gather 174 = .ok (.iconst 0, 1) := by decide +kernel
theorem dX6_gather_175 : decode cX6_gather 175 = .ok (.iconst 0, 1) := by decide +kernel
theorem dX6_gather_176 : decode cX6_gather 176 = .ok (.invokevirtual 65, 3) := by decide +kernel
theorem dX6_gather_179 : decode cX6_gather 179 = .ok (.return_, 1) := by decide +kernel
theorem dX6_bitOf_0 : decode cX6_bitOf 0 = .ok (.iload_n 0, 1) := by decide +kernel
theorem dX6_bitOf_1 : decode cX6_bitOf 1 = .ok (.ifCond .ge 7, 3) := by decide +kernel
theorem dX6_bitOf_4 : decode cX6_bitOf 4 = .ok (.iconst 0, 1) := by decide +kernel
theorem dX6_bitOf_5 : decode cX6_bitOf 5 = .ok (.goto 6, 3) := by decide +kernel
theorem dX6_bitOf_8 : decode cX6_bitOf 8 = .ok (.iconst 1, 1) := by decide +kernel
theorem dX6_bitOf_9 : decode cX6_bitOf 9 = .ok (.iload_n 0, 1) := by decide +kernel
theorem dX6_bitOf_10 : decode cX6_bitOf 10 = .ok (.ishl, 1) := by decide +kernel
theorem dX6_bitOf_11 : decode cX6_bitOf 11 = .ok (.ireturn, 1) := by decide +kernel
theorem dX6_isSeated_0 : decode cX6_isSeated 0 = .ok (.iload_n 1, 1) := by decide +kernel
theorem dX6_isSeated_1 : decode cX6_isSeated 1 = .ok (.ifCond .lt 20, 3) := by decide +kernel
theorem dX6_isSeated_4 : decode cX6_isSeated 4 = .ok (.iload_n 1, 1) := by decide +kernel
theorem dX6_isSeated_5 : decode cX6_isSeated 5 = .ok (.aload_n 0, 1) := by decide +kernel
theorem dX6_isSeated_6 : decode cX6_isSeated 6 = .ok (.getfield 27, 3) := by decide +kernel
theorem dX6_isSeated_9 : decode cX6_isSeated 9 = .ok (.if_icmp .ge 12, 3) := by decide +kernel
theorem dX6_isSeated_12 : decode cX6_isSeated 12 = .ok (.iload_n 1, 1) := by decide +kernel
theorem dX6_isSeated_13 : decode cX6_isSeated 13 = .ok (.iconst 5, 1) := by decide +kernel
theorem dX6_isSeated_14 : decode cX6_isSeated 14 = .ok (.if_icmp .ge 7, 3) := by decide +kernel
theorem dX6_isSeated_17 : decode cX6_isSeated 17 = .ok (.iconst 1, 1) := by decide +kernel
theorem dX6_isSeated_18 : decode cX6_isSeated 18 = .ok (.goto 4, 3) := by decide +kernel
theorem dX6_isSeated_21 : decode cX6_isSeated 21 = .ok (.iconst 0, 1) := by decide +kernel
theorem dX6_isSeated_22 : decode cX6_isSeated 22 = .ok (.ireturn, 1) := by decide +kernel
theorem dX6_seatFrom_0 : decode cX6_seatFrom 0 = .ok (.iload_n 1, 1) := by decide +kernel
theorem dX6_seatFrom_1 : decode cX6_seatFrom 1 = .ok (.aload_n 0, 1) := by decide +kernel
theorem dX6_seatFrom_2 : decode cX6_seatFrom 2 = .ok (.getfield 27, 3) := by decide +kernel
theorem dX6_seatFrom_5 : decode cX6_seatFrom 5 = .ok (.if_icmp .ge 8, 3) := by decide +kernel
theorem dX6_seatFrom_8 : decode cX6_seatFrom 8 = .ok (.iload_n 1, 1) := by decide +kernel
theorem dX6_seatFrom_9 : decode cX6_seatFrom 9 = .ok (.iconst 5, 1) := by decide +kernel
theorem dX6_seatFrom_10 : decode cX6_seatFrom 10 = .ok (.if_icmp .lt 8, 3) := by decide +kernel
theorem dX6_seatFrom_13 : decode cX6_seatFrom 13 = .ok (.aload_n 0, 1) := by decide +kernel
theorem dX6_seatFrom_14 : decode cX6_seatFrom 14 = .ok (.invokevirtual 69, 3) := by decide +kernel
theorem dX6_seatFrom_17 : decode cX6_seatFrom 17 = .ok (.return_, 1) := by decide +kernel
theorem dX6_seatFrom_18 : decode cX6_seatFrom 18 = .ok (.iconst 0, 1) := by decide +kernel
theorem dX6_seatFrom_19 : decode cX6_seatFrom 19 = .ok (.istore_n 3, 1) := by decide +kernel
theorem dX6_seatFrom_20 : decode cX6_seatFrom 20 = .ok (.iload_n 3, 1) := by decide +kernel
theorem dX6_seatFrom_21 : decode cX6_seatFrom 21 = .ok (.aload_n 0, 1) := by decide +kernel
theorem dX6_seatFrom_22 : decode cX6_seatFrom 22 = .ok (.getfield 27, 3) := by decide +kernel
theorem dX6_seatFrom_25 : decode cX6_seatFrom 25 = .ok (.if_icmp .ge 49, 3) := by decide +kernel
theorem dX6_seatFrom_28 : decode cX6_seatFrom 28 = .ok (.iload_n 2, 1) := by decide +kernel
theorem dX6_seatFrom_29 : decode cX6_seatFrom 29 = .ok (.iload_n 3, 1) := by decide +kernel
theorem dX6_seatFrom_30 : decode cX6_seatFrom 30 = .ok (.ishr, 1) := by decide +kernel
theorem dX6_seatFrom_31 : decode cX6_seatFrom 31 = .ok (.iconst 1, 1) := by decide +kernel
theorem dX6_seatFrom_32 : decode cX6_seatFrom 32 = .ok (.iand, 1) := by decide +kernel
theorem dX6_seatFrom_33 : decode cX6_seatFrom 33 = .ok (.ifCond .ne 35, 3) := by decide +kernel
theorem dX6_seatFrom_36 : decode cX6_seatFrom 36 = .ok (.aload_n 0, 1) := by decide +kernel
theorem dX6_seatFrom_37 : decode cX6_seatFrom 37 = .ok (.getfield 9, 3) := by decide +kernel
theorem dX6_seatFrom_40 : decode cX6_seatFrom 40 = .ok (.iload_n 3, 1) := by decide +kernel
theorem dX6_seatFrom_41 : decode cX6_seatFrom 41 = .ok (.iaload, 1) := by decide +kernel
theorem dX6_seatFrom_42 : decode cX6_seatFrom 42 = .ok (.iload_n 2, 1) := by decide +kernel
theorem dX6_seatFrom_43 : decode cX6_seatFrom 43 = .ok (.iconst (-1), 1) := by decide +kernel
theorem dX6_seatFrom_44 : decode cX6_seatFrom 44 = .ok (.ixor, 1) := by decide +kernel
theorem dX6_seatFrom_45 : decode cX6_seatFrom 45 = .ok (.iand, 1) := by decide +kernel
theorem dX6_seatFrom_46 : decode cX6_seatFrom 46 = .ok (.ifCond .ne 22, 3) := by decide +kernel
theorem dX6_seatFrom_49 : decode cX6_seatFrom 49 = .ok (.aload_n 0, 1) := by decide +kernel
theorem dX6_seatFrom_50 : decode cX6_seatFrom 50 = .ok (.getfield 15, 3) := by decide +kernel
theorem dX6_seatFrom_53 : decode cX6_seatFrom 53 = .ok (.iload_n 1, 1) := by decide +kernel
theorem dX6_seatFrom_54 : decode cX6_seatFrom 54 = .ok (.iload_n 3, 1) := by decide +kernel
theorem dX6_seatFrom_55 : decode cX6_seatFrom 55 = .ok (.iastore, 1) := by decide +kernel
theorem dX6_seatFrom_56 : decode cX6_seatFrom 56 = .ok (.aload_n 0, 1) := by decide +kernel
theorem dX6_seatFrom_57 : decode cX6_seatFrom 57 = .ok (.iload_n 1, 1) := by decide +kernel
theorem dX6_seatFrom_58 : decode cX6_seatFrom 58 = .ok (.iconst 1, 1) := by decide +kernel
theorem dX6_seatFrom_59 : decode cX6_seatFrom 59 = .ok (.iadd, 1) := by decide +kernel
theorem dX6_seatFrom_60 : decode cX6_seatFrom 60 = .ok (.iload_n 2, 1) := by decide +kernel
theorem dX6_seatFrom_61 : decode cX6_seatFrom 61 = .ok (.iconst 1, 1) := by decide +kernel
theorem dX6_seatFrom_62 : decode cX6_seatFrom 62 = .ok (.iload_n 3, 1) := by decide +kernel
theorem dX6_seatFrom_63 : decode cX6_seatFrom 63 = .ok (.ishl, 1) := by decide +kernel
theorem dX6_seatFrom_64 : decode cX6_seatFrom 64 = .ok (.ior, 1) := by decide +kernel
theorem dX6_seatFrom_65 : decode cX6_seatFrom 65 = .ok (.invokevirtual 65, 3) := by decide +kernel
theorem dX6_seatFrom_68 : decode cX6_seatFrom 68 = .ok (.iinc 3 1, 3) := by decide +kernel
theorem dX6_seatFrom_71 : decode cX6_seatFrom 71 = .ok (.goto (-51), 3) := by decide +kernel
theorem dX6_seatFrom_74 : decode cX6_seatFrom 74 = .ok (.return_, 1) := by decide +kernel
theorem dX6_countSeats_0 : decode cX6_countSeats 0 = .ok (.aload_n 0, 1) := by decide +kernel
theorem dX6_countSeats_1 : decode cX6_countSeats 1 = .ok (.dup, 1) := by decide +kernel
theorem dX6_countSeats_2 : decode cX6_countSeats 2 = .ok (.getfield 31, 3) := by decide +kernel
theorem dX6_countSeats_5 : decode cX6_countSeats 5 = .ok (.iconst 1, 1) := by decide +kernel
theorem dX6_countSeats_6 : decode cX6_countSeats 6 = .ok (.iadd, 1) := by decide +kernel
theorem dX6_countSeats_7 : decode cX6_countSeats 7 = .ok (.putfield 31, 3) := by decide +kernel
theorem dX6_countSeats_10 : decode cX6_countSeats 10 = .ok (.iconst 0, 1) := by decide +kernel
theorem dX6_countSeats_11 : decode cX6_countSeats 11 = .ok (.istore_n 1, 1) := by decide +kernel
theorem dX6_countSeats_12 : decode cX6_countSeats 12 = .ok (.iload_n 1, 1) := by decide +kernel
theorem dX6_countSeats_13 : decode cX6_countSeats 13 = .ok (.aload_n 0, 1) := by decide +kernel
theorem dX6_countSeats_14 : decode cX6_countSeats 14 = .ok (.getfield 27, 3) := by decide +kernel
theorem dX6_countSeats_17 : decode cX6_countSeats 17 = .ok (.if_icmp .ge 43, 3) := by decide +kernel
theorem dX6_countSeats_20 : decode cX6_countSeats 20 = .ok (.aload_n 0, 1) := by decide +kernel
theorem dX6_countSeats_21 : decode cX6_countSeats 21 = .ok (.getfield 15, 3) := by decide +kernel
theorem dX6_countSeats_24 : decode cX6_countSeats 24 = .ok (.iload_n 1, 1) := by decide +kernel
theorem dX6_countSeats_25 : decode cX6_countSeats 25 = .ok (.iaload, 1) := by decide +kernel
theorem dX6_countSeats_26 : decode cX6_countSeats 26 = .ok (.iconst 5, 1) := by decide +kernel
theorem dX6_countSeats_27 : decode cX6_countSeats 27 = .ok (.imul, 1) := by decide +kernel
theorem dX6_countSeats_28 : decode cX6_countSeats 28 = .ok (.iload_n 1, 1) := by decide +kernel
theorem dX6_countSeats_29 : decode cX6_countSeats 29 = .ok (.iadd, 1) := by decide +kernel
theorem dX6_countSeats_30 : decode cX6_countSeats 30 = .ok (.istore_n 2, 1) := by decide +kernel
theorem dX6_countSeats_31 : decode cX6_countSeats 31 = .ok (.iload_n 2, 1) := by decide +kernel
theorem dX6_countSeats_32 : decode cX6_countSeats 32 = .ok (.ifCond .lt 22, 3) := by decide +kernel
theorem dX6_countSeats_35 : decode cX6_countSeats 35 = .ok (.iload_n 2, 1) := by decide +kernel
theorem dX6_countSeats_36 : decode cX6_countSeats 36 = .ok (.aload_n 0, 1) := by decide +kernel
theorem dX6_countSeats_37 : decode cX6_countSeats 37 = .ok (.getfield 18, 3) := by decide +kernel
theorem dX6_countSeats_40 : decode cX6_countSeats 40 = .ok (.arraylength, 1) := by decide +kernel
theorem dX6_countSeats_41 : decode cX6_countSeats 41 = .ok (.if_icmp .ge 13, 3) := by decide +kernel
theorem dX6_countSeats_44 : decode cX6_countSeats 44 = .ok (.aload_n 0, 1) := by decide +kernel
theorem dX6_countSeats_45 : decode cX6_countSeats 45 = .ok (.getfield 18, 3) := by decide +kernel
theorem dX6_countSeats_48 : decode cX6_countSeats 48 = .ok (.iload_n 2, 1) := by decide +kernel
theorem dX6_countSeats_49 : decode cX6_countSeats 49 = .ok (.dup2, 1) := by decide +kernel
theorem dX6_countSeats_50 : decode cX6_countSeats 50 = .ok (.iaload, 1) := by decide +kernel
theorem dX6_countSeats_51 : decode cX6_countSeats 51 = .ok (.iconst 1, 1) := by decide +kernel
theorem dX6_countSeats_52 : decode cX6_countSeats 52 = .ok (.iadd, 1) := by decide +kernel
theorem dX6_countSeats_53 : decode cX6_countSeats 53 = .ok (.iastore, 1) := by decide +kernel
theorem dX6_countSeats_54 : decode cX6_countSeats 54 = .ok (.iinc 1 1, 3) := by decide +kernel
theorem dX6_countSeats_57 : decode cX6_countSeats 57 = .ok (.goto (-45), 3) := by decide +kernel
theorem dX6_countSeats_60 : decode cX6_countSeats 60 = .ok (.return_, 1) := by decide +kernel
theorem dX6_tallied_0 : decode cX6_tallied 0 = .ok (.iload_n 1, 1) := by decide +kernel
theorem dX6_tallied_1 : decode cX6_tallied 1 = .ok (.iconst 5, 1) := by decide +kernel
theorem dX6_tallied_2 : decode cX6_tallied 2 = .ok (.imul, 1) := by decide +kernel
theorem dX6_tallied_3 : decode cX6_tallied 3 = .ok (.iload_n 2, 1) := by decide +kernel
theorem dX6_tallied_4 : decode cX6_tallied 4 = .ok (.iadd, 1) := by decide +kernel
theorem dX6_tallied_5 : decode cX6_tallied 5 = .ok (.istore_n 3, 1) := by decide +kernel
theorem dX6_tallied_6 : decode cX6_tallied 6 = .ok (.iload_n 3, 1) := by decide +kernel
theorem dX6_tallied_7 : decode cX6_tallied 7 = .ok (.ifCond .lt 21, 3) := by decide +kernel
theorem dX6_tallied_10 : decode cX6_tallied 10 = .ok (.iload_n 3, 1) := by decide +kernel
theorem dX6_tallied_11 : decode cX6_tallied 11 = .ok (.aload_n 0, 1) := by decide +kernel
theorem dX6_tallied_12 : decode cX6_tallied 12 = .ok (.getfield 18, 3) := by decide +kernel
theorem dX6_tallied_15 : decode cX6_tallied 15 = .ok (.arraylength, 1) := by decide +kernel
theorem dX6_tallied_16 : decode cX6_tallied 16 = .ok (.if_icmp .ge 12, 3) := by decide +kernel
theorem dX6_tallied_19 : decode cX6_tallied 19 = .ok (.aload_n 0, 1) := by decide +kernel
theorem dX6_tallied_20 : decode cX6_tallied 20 = .ok (.getfield 18, 3) := by decide +kernel
theorem dX6_tallied_23 : decode cX6_tallied 23 = .ok (.iload_n 3, 1) := by decide +kernel
theorem dX6_tallied_24 : decode cX6_tallied 24 = .ok (.iaload, 1) := by decide +kernel
theorem dX6_tallied_25 : decode cX6_tallied 25 = .ok (.goto 4, 3) := by decide +kernel
theorem dX6_tallied_28 : decode cX6_tallied 28 = .ok (.iconst 0, 1) := by decide +kernel
theorem dX6_tallied_29 : decode cX6_tallied 29 = .ok (.ireturn, 1) := by decide +kernel
theorem dX6_surePlace_0 : decode cX6_surePlace 0 = .ok (.iconst 0, 1) := by decide +kernel
theorem dX6_surePlace_1 : decode cX6_surePlace 1 = .ok (.istore_n 2, 1) := by decide +kernel
theorem dX6_surePlace_2 : decode cX6_surePlace 2 = .ok (.iload_n 2, 1) := by decide +kernel
theorem dX6_surePlace_3 : decode cX6_surePlace 3 = .ok (.aload_n 0, 1) := by decide +kernel
theorem dX6_surePlace_4 : decode cX6_surePlace 4 = .ok (.getfield 27, 3) := by decide +kernel
theorem dX6_surePlace_7 : decode cX6_surePlace 7 = .ok (.if_icmp .ge 24, 3) := by decide +kernel
theorem dX6_surePlace_10 : decode cX6_surePlace 10 = .ok (.aload_n 0, 1) := by decide +kernel
theorem dX6_surePlace_11 : decode cX6_surePlace 11 = .ok (.iload_n 1, 1) := by decide +kernel
theorem dX6_surePlace_12 : decode cX6_surePlace 12 = .ok (.iload_n 2, 1) := by decide +kernel
theorem dX6_surePlace_13 : decode cX6_surePlace 13 = .ok (.invokevirtual 72, 3) := by decide +kernel
theorem dX6_surePlace_16 : decode cX6_surePlace 16 = .ok (.aload_n 0, 1) := by decide +kernel
theorem dX6_surePlace_17 : decode cX6_surePlace 17 = .ok (.getfield 31, 3) := by decide +kernel
theorem dX6_surePlace_20 : decode cX6_surePlace 20 = .ok (.if_icmp .ne 5, 3) := by decide +kernel
theorem dX6_surePlace_23 : decode cX6_surePlace 23 = .ok (.iload_n 2, 1) := by decide +kernel
theorem dX6_surePlace_24 : decode cX6_surePlace 24 = .ok (.ireturn, 1) := by decide +kernel
theorem dX6_surePlace_25 : decode cX6_surePlace 25 = .ok (.iinc 2 1, 3) := by decide +kernel
theorem dX6_surePlace_28 : decode cX6_surePlace 28 = .ok (.goto (-26), 3) := by decide +kernel
theorem dX6_surePlace_31 : decode cX6_surePlace 31 = .ok (.bipush (-2), 2) := by decide +kernel
theorem dX6_surePlace_33 : decode cX6_surePlace 33 = .ok (.ireturn, 1) := by decide +kernel
theorem dX6_mostLeft_0 : decode cX6_mostLeft 0 = .ok (.iconst 0, 1) := by decide +kernel
theorem dX6_mostLeft_1 : decode cX6_mostLeft 1 = .ok (.istore_n 2, 1) := by decide +kernel
theorem dX6_mostLeft_2 : decode cX6_mostLeft 2 = .ok (.iconst 0, 1) := by decide +kernel
theorem dX6_mostLeft_3 : decode cX6_mostLeft 3 = .ok (.istore_n 3, 1) := by decide +kernel
theorem dX6_mostLeft_4 : decode cX6_mostLeft 4 = .ok (.iload_n 3, 1) := by decide +kernel
theorem dX6_mostLeft_5 : decode cX6_mostLeft 5 = .ok (.aload_n 0, 1) := by decide +kernel
theorem dX6_mostLeft_6 : decode cX6_mostLeft 6 = .ok (.getfield 27, 3) := by decide +kernel
theorem dX6_mostLeft_9 : decode cX6_mostLeft 9 = .ok (.if_icmp .ge 20, 3) := by decide +kernel
theorem dX6_mostLeft_12 : decode cX6_mostLeft 12 = .ok (.iload_n 2, 1) := by decide +kernel
theorem dX6_mostLeft_13 : decode cX6_mostLeft 13 = .ok (.aload_n 0, 1) := by decide +kernel
theorem dX6_mostLeft_14 : decode cX6_mostLeft 14 = .ok (.iload_n 1, 1) := by decide +kernel
theorem dX6_mostLeft_15 : decode cX6_mostLeft 15 = .ok (.iload_n 3, 1) := by decide +kernel
theorem dX6_mostLeft_16 : decode cX6_mostLeft 16 = .ok (.invokevirtual 72, 3) := by decide +kernel
theorem dX6_mostLeft_19 : decode cX6_mostLeft 19 = .ok (.invokestatic 75, 3) := by decide +kernel
theorem dX6_mostLeft_22 : decode cX6_mostLeft 22 = .ok (.istore_n 2, 1) := by decide +kernel
theorem dX6_mostLeft_23 : decode cX6_mostLeft 23 = .ok (.iinc 3 1, 3) := by decide +kernel
theorem dX6_mostLeft_26 : decode cX6_mostLeft 26 = .ok (.goto (-22), 3) := by decide +kernel
theorem dX6_mostLeft_29 : decode cX6_mostLeft 29 = .ok (.iload_n 2, 1) := by decide +kernel
theorem dX6_mostLeft_30 : decode cX6_mostLeft 30 = .ok (.ireturn, 1) := by decide +kernel
theorem dX6_bestToAsk_0 : decode cX6_bestToAsk 0 = .ok (.iconst (-1), 1) := by decide +kernel
theorem dX6_bestToAsk_1 : decode cX6_bestToAsk 1 = .ok (.istore_n 1, 1) := by decide +kernel
theorem dX6_bestToAsk_2 : decode cX6_bestToAsk 2 = .ok (.iconst 0, 1) := by decide +kernel
theorem dX6_bestToAsk_3 : decode cX6_bestToAsk 3 = .ok (.istore_n 2, 1) := by decide +kernel
theorem dX6_bestToAsk_4 : decode cX6_bestToAsk 4 = .ok (.iload_n 2, 1) := by decide +kernel
theorem dX6_bestToAsk_5 : decode cX6_bestToAsk 5 = .ok (.aload_n 0, 1) := by decide +kernel
theorem dX6_bestToAsk_6 : decode cX6_bestToAsk 6 = .ok (.getfield 27, 3) := by decide +kernel
theorem dX6_bestToAsk_9 : decode cX6_bestToAsk 9 = .ok (.if_icmp .ge 29, 3) := by decide +kernel
theorem dX6_bestToAsk_12 : decode cX6_bestToAsk 12 = .ok (.iload_n 1, 1) := by decide +kernel
theorem dX6_bestToAsk_13 : decode cX6_bestToAsk 13 = .ok (.iconst (-1), 1) := by decide +kernel
theorem dX6_bestToAsk_14 : decode cX6_bestToAsk 14 = .ok (.if_icmp .eq 16, 3) := by decide +kernel
theorem dX6_bestToAsk_17 : decode cX6_bestToAsk 17 = .ok (.aload_n 0, 1) := by decide +kernel
theorem dX6_bestToAsk_18 : decode cX6_bestToAsk 18 = .ok (.iload_n 2, 1) := by decide +kernel
theorem dX6_bestToAsk_19 : decode cX6_bestToAsk 19 = .ok (.invokevirtual 78, 3) := by decide +kernel
theorem dX6_bestToAsk_22 : decode cX6_bestToAsk 22 = .ok (.aload_n 0, 1) := by decide +kernel
theorem dX6_bestToAsk_23 : decode cX6_bestToAsk 23 = .ok (.iload_n 1, 1) := by decide +kernel
theorem dX6_bestToAsk_24 : decode cX6_bestToAsk 24 = .ok (.invokevirtual 78, 3) := by decide +kernel
theorem dX6_bestToAsk_27 : decode cX6_bestToAsk 27 = .ok (.if_icmp .ge 5, 3) := by decide +kernel
theorem dX6_bestToAsk_30 : decode cX6_bestToAsk 30 = .ok (.iload_n 2, 1) := by decide +kernel
theorem dX6_bestToAsk_31 : decode cX6_bestToAsk 31 = .ok (.istore_n 1, 1) := by decide +kernel
theorem dX6_bestToAsk_32 : decode cX6_bestToAsk 32 = .ok (.iinc 2 1, 3) := by decide +kernel
theorem dX6_bestToAsk_35 : decode cX6_bestToAsk 35 = .ok (.goto (-31), 3) := by decide +kernel
theorem dX6_bestToAsk_38 : decode cX6_bestToAsk 38 = .ok (.iload_n 1, 1) := by decide +kernel
theorem dX6_bestToAsk_39 : decode cX6_bestToAsk 39 = .ok (.ireturn, 1) := by decide +kernel
theorem dX8_init_0 : decode cX8_init 0 = .ok (.aload_n 0, 1) := by decide +kernel
theorem dX8_init_1 : decode cX8_init 1 = .ok (.invokespecial 3, 3) := by decide +kernel
theorem dX8_init_4 : decode cX8_init 4 = .ok (.aload_n 0, 1) := by decide +kernel
theorem dX8_init_5 : decode cX8_init 5 = .ok (.bipush 30, 2) := by decide +kernel
theorem dX8_init_7 : decode cX8_init 7 = .ok (.newarray .int, 2) := by decide +kernel
theorem dX8_init_9 : decode cX8_init 9 = .ok (.putfield 9, 3) := by decide +kernel
theorem dX8_init_12 : decode cX8_init 12 = .ok (.aload_n 0, 1) := by decide +kernel
theorem dX8_init_13 : decode cX8_init 13 = .ok (.bipush 30, 2) := by decide +kernel
theorem dX8_init_15 : decode cX8_init 15 = .ok (.newarray .int, 2) := by decide +kernel
theorem dX8_init_17 : decode cX8_init 17 = .ok (.putfield 15, 3) := by decide +kernel
theorem dX8_init_20 : decode cX8_init 20 = .ok (.aload_n 0, 1) := by decide +kernel
theorem dX8_init_21 : decode cX8_init 21 = .ok (.bipush 30, 2) := by decide +kernel
theorem dX8_init_23 : decode cX8_init 23 = .ok (.newarray .int, 2) := by decide +kernel
theorem dX8_init_25 : decode cX8_init 25 = .ok (.putfield 18, 3) := by decide +kernel
theorem dX8_init_28 : decode cX8_init 28 = .ok (.aload_n 0, 1) := by decide +kernel
theorem dX8_init_29 : decode cX8_init 29 = .ok (.bipush 30, 2) := by decide +kernel
theorem dX8_init_31 : decode cX8_init 31 = .ok (.newarray .int, 2) := by decide +kernel
theorem dX8_init_33 : decode cX8_init 33 = .ok (.putfield 21, 3) := by decide +kernel
theorem dX8_init_36 : decode cX8_init 36 = .ok (.return_, 1) := by decide +kernel
theorem dX8_clear_0 : decode cX8_clear 0 = .ok (.aload_n 0, 1) := by decide +kernel
theorem dX8_clear_1 : decode cX8_clear 1 = .ok (.iconst 0, 1) := by decide +kernel
theorem dX8_clear_2 : decode cX8_clear 2 = .ok (.putfield 24, 3) := by decide +kernel
theorem dX8_clear_5 : decode cX8_clear 5 = .ok (.return_, 1) := by decide +kernel
theorem dX8_tell_0 : decode cX8_tell 0 = .ok (.aload_n 0, 1) := by decide +kernel
theorem dX8_tell_1 : decode cX8_tell 1 = .ok (.getfield 24, 3) := by decide +kernel
theorem dX8_tell_4 : decode cX8_tell 4 = .ok (.ifCond .lt 12, 3) := by decide +kernel
theorem dX8_tell_7 : decode cX8_tell 7 = .ok (.aload_n 0, 1) := by decide +kernel
theorem dX8_tell_8 : decode cX8_tell 8 = .ok (.getfield 24, 3) := by decide +kernel
theorem dX8_tell_11 : decode cX8_tell 11 = .ok (.bipush 30, 2) := by decide +kernel
theorem dX8_tell_13 : decode cX8_tell 13 = .ok (.if_icmp .lt 5, 3) := by decide +kernel
theorem dX8_tell_16 : decode cX8_tell 16 = .ok (.iconst (-1), 1) := by decide +kernel
theorem dX8_tell_17 : decode cX8_tell 17 = .ok (.ireturn, 1) := by decide +kernel
theorem dX8_tell_18 : decode cX8_tell 18 = .ok (.aload_n 0, 1) := by decide +kernel
theorem dX8_tell_19 : decode cX8_tell 19 = .ok (.getfield 9, 3) := by decide +kernel
theorem dX8_tell_22 : decode cX8_tell 22 = .ok (.aload_n 0, 1) := by decide +kernel
theorem dX8_tell_23 : decode cX8_tell 23 = .ok (.getfield 24, 3) := by decide +kernel
theorem dX8_tell_26 : decode cX8_tell 26 = .ok (.iload_n 1, 1) := by decide +kernel
theorem dX8_tell_27 : decode cX8_tell 27 = .ok (.iastore, 1) := by decide +kernel
theorem dX8_tell_28 : decode cX8_tell 28 = .ok (.aload_n 0, 1) := by decide +kernel
theorem dX8_tell_29 : decode cX8_tell 29 = .ok (.getfield 15, 3) := by decide +kernel
theorem dX8_tell_32 : decode cX8_tell 32 = .ok (.aload_n 0, 1) := by decide +kernel
theorem dX8_tell_33 : decode cX8_tell 33 = .ok (.getfield 24, 3) := by decide +kernel
theorem dX8_tell_36 : decode cX8_tell 36 = .ok (.iload_n 2, 1) := by decide +kernel
theorem dX8_tell_37 : decode cX8_tell 37 = .ok (.iastore, 1) := by decide +kernel
theorem dX8_tell_38 : decode cX8_tell 38 = .ok (.aload_n 0, 1) := by decide +kernel
theorem dX8_tell_39 : decode cX8_tell 39 = .ok (.getfield 18, 3) := by decide +kernel
theorem dX8_tell_42 : decode cX8_tell 42 = .ok (.aload_n 0, 1) := by decide +kernel
theorem dX8_tell_43 : decode cX8_tell 43 = .ok (.getfield 24, 3) := by decide +kernel
theorem dX8_tell_46 : decode cX8_tell 46 = .ok (.aload_n 0, 1) := by decide +kernel
theorem dX8_tell_47 : decode cX8_tell 47 = .ok (.getfield 28, 3) := by decide +kernel
theorem dX8_tell_50 : decode cX8_tell 50 = .ok (.iastore, 1) := by decide +kernel
theorem dX8_tell_51 : decode cX8_tell 51 = .ok (.aload_n 0, 1) := by decide +kernel
theorem dX8_tell_52 : decode cX8_tell 52 = .ok (.getfield 21, 3) := by decide +kernel
theorem dX8_tell_55 : decode cX8_tell 55 = .ok (.aload_n 0, 1) := by decide +kernel
theorem dX8_tell_56 : decode cX8_tell 56 = .ok (.getfield 24, 3) := by decide +kernel
theorem dX8_tell_59 : decode cX8_tell 59 = .ok (.iconst (-1), 1) := by decide +kernel
theorem dX8_tell_60 : decode cX8_tell 60 = .ok (.iastore, 1) := by decide +kernel
theorem dX8_tell_61 : decode cX8_tell 61 = .ok (.aload_n 0, 1) := by decide +kernel
theorem dX8_tell_62 : decode cX8_tell 62 = .ok (.dup, 1) := by decide +kernel
theorem dX8_tell_63 : decode cX8_tell 63 = .ok (.getfield 24, 3) := by decide +kernel
theorem dX8_tell_66 : decode cX8_tell 66 = .ok (.iconst 1, 1) := by decide +kernel
theorem dX8_tell_67 : decode cX8_tell 67 = .ok (.iadd, 1) := by decide +kernel
theorem dX8_tell_68 : decode cX8_tell 68 = .ok (.putfield 24, 3) := by decide +kernel
theorem dX8_tell_71 : decode cX8_tell 71 = .ok (.aload_n 0, 1) := by decide +kernel
theorem dX8_tell_72 : decode cX8_tell 72 = .ok (.getfield 24, 3) := by decide +kernel
theorem dX8_tell_75 : decode cX8_tell 75 = .ok (.iconst 1, 1) := by decide +kernel
theorem dX8_tell_76 : decode cX8_tell 76 = .ok (.isub, 1) := by decide +kernel
theorem dX8_tell_77 : decode cX8_tell 77 = .ok (.ireturn, 1) := by decide +kernel
theorem dX8_takeBack_0 : decode cX8_takeBack 0 = .ok (.iload_n 1, 1) := by decide +kernel
theorem dX8_takeBack_1 : decode cX8_takeBack 1 = .ok (.ifCond .lt 27, 3) := by decide +kernel
theorem dX8_takeBack_4 : decode cX8_takeBack 4 = .ok (.iload_n 1, 1) := by decide +kernel
theorem dX8_takeBack_5 : decode cX8_takeBack 5 = .ok (.aload_n 0, 1) := by decide +kernel
theorem dX8_takeBack_6 : decode cX8_takeBack 6 = .ok (.getfield 24, 3) := by decide +kernel
theorem dX8_takeBack_9 : decode cX8_takeBack 9 = .ok (.if_icmp .ge 19, 3) := by decide +kernel
theorem dX8_takeBack_12 : decode cX8_takeBack 12 = .ok (.iload_n 1, 1) := by decide +kernel
theorem dX8_takeBack_13 : decode cX8_takeBack 13 = .ok (.bipush 30, 2) := by decide +kernel
theorem dX8_takeBack_15 : decode cX8_takeBack 15 = .ok (.if_icmp .ge 13, 3) := by decide +kernel
theorem dX8_takeBack_18 : decode cX8_takeBack 18 = .ok (.aload_n 0, 1) := by decide +kernel
theorem dX8_takeBack_19 : decode cX8_takeBack 19 = .ok (.getfield 21, 3) := by decide +kernel
theorem dX8_takeBack_22 : decode cX8_takeBack 22 = .ok (.iload_n 1, 1) := by decide +kernel
theorem dX8_takeBack_23 : decode cX8_takeBack 23 = .ok (.iaload, 1) := by decide +kernel
theorem dX8_takeBack_24 : decode cX8_takeBack 24 = .ok (.iconst (-1), 1) := by decide +kernel
theorem dX8_takeBack_25 : decode cX8_takeBack 25 = .ok (.if_icmp .eq 5, 3) := by decide +kernel
theorem dX8_takeBack_28 : decode cX8_takeBack 28 = .ok (.iconst 0, 1) := by decide +kernel
theorem dX8_takeBack_29 : decode cX8_takeBack 29 = .ok (.ireturn, 1) := by decide +kernel
theorem dX8_takeBack_30 : decode cX8_takeBack 30 = .ok (.aload_n 0, 1) := by decide +kernel
theorem dX8_takeBack_31 : decode cX8_takeBack 31 = .ok (.getfield 21, 3) := by decide +kernel
theorem dX8_takeBack_34 : decode cX8_takeBack 34 = .ok (.iload_n 1, 1) := by decide +kernel
theorem dX8_takeBack_35 : decode cX8_takeBack 35 = .ok (.aload_n 0, 1) := by decide +kernel
theorem dX8_takeBack_36 : decode cX8_takeBack 36 = .ok (.getfield 28, 3) := by decide +kernel
theorem dX8_takeBack_39 : decode cX8_takeBack 39 = .ok (.iastore, 1) := by decide +kernel
theorem dX8_takeBack_40 : decode cX8_takeBack 40 = .ok (.iconst 1, 1) := by decide +kernel
theorem dX8_takeBack_41 : decode cX8_takeBack 41 = .ok (.ireturn, 1) := by decide +kernel
theorem dX8_isKnown_0 : decode cX8_isKnown 0 = .ok (.iload_n 1, 1) := by decide +kernel
theorem dX8_isKnown_1 : decode cX8_isKnown 1 = .ok (.ifCond .lt 27, 3) := by decide +kernel
theorem dX8_isKnown_4 : decode cX8_isKnown 4 = .ok (.iload_n 1, 1) := by decide +kernel
theorem dX8_isKnown_5 : decode cX8_isKnown 5 = .ok (.aload_n 0, 1) := by decide +kernel
theorem dX8_isKnown_6 : decode cX8_isKnown 6 = .ok (.getfield 24, 3) := by decide +kernel
theorem dX8_isKnown_9 : decode cX8_isKnown 9 = .ok (.if_icmp .ge 19, 3) := by decide +kernel
theorem dX8_isKnown_12 : decode cX8_isKnown 12 = .ok (.iload_n 1, 1) := by decide +kernel
theorem dX8_isKnown_13 : decode cX8_isKnown 13 = .ok (.bipush 30, 2) := by decide +kernel
theorem dX8_isKnown_15 : decode cX8_isKnown 15 = .ok (.if_icmp .ge 13, 3) := by decide +kernel
theorem dX8_isKnown_18 : decode cX8_isKnown 18 = .ok (.aload_n 0, 1) := by decide +kernel
theorem dX8_isKnown_19 : decode cX8_isKnown 19 = .ok (.getfield 18, 3) := by decide +kernel
theorem dX8_isKnown_22 : decode cX8_isKnown 22 = .ok (.iload_n 1, 1) := by decide +kernel
theorem dX8_isKnown_23 : decode cX8_isKnown 23 = .ok (.iaload, 1) := by decide +kernel
theorem dX8_isKnown_24 : decode cX8_isKnown 24 = .ok (.iload_n 2, 1) := by decide +kernel
theorem dX8_isKnown_25 : decode cX8_isKnown 25 = .ok (.if_icmp .le 5, 3) := by decide +kernel
theorem dX8_isKnown_28 : decode cX8_isKnown 28 = .ok (.iconst 0, 1) := by decide +kernel
theorem dX8_isKnown_29 : decode cX8_isKnown 29 = .ok (.ireturn, 1) := by decide +kernel
theorem dX8_isKnown_30 : decode cX8_isKnown 30 = .ok (.aload_n 0, 1) := by decide +kernel
theorem dX8_isKnown_31 : decode cX8_isKnown 31 = .ok (.getfield 21, 3) := by decide +kernel
theorem dX8_isKnown_34 : decode cX8_isKnown 34 = .ok (.iload_n 1, 1) := by decide +kernel
theorem dX8_isKnown_35 : decode cX8_isKnown 35 = .ok (.iaload, 1) := by decide +kernel
theorem dX8_isKnown_36 : decode cX8_isKnown 36 = .ok (.iconst (-1), 1) := by decide +kernel
theorem dX8_isKnown_37 : decode cX8_isKnown 37 = .ok (.if_icmp .eq 13, 3) := by decide +kernel
theorem dX8_isKnown_40 : decode cX8_isKnown 40 = .ok (.aload_n 0, 1) := by decide +kernel
theorem dX8_isKnown_41 : decode cX8_isKnown 41 = .ok (.getfield 21, 3) := by decide +kernel
theorem dX8_isKnown_44 : decode cX8_isKnown 44 = .ok (.iload_n 1, 1) := by decide +kernel
theorem dX8_isKnown_45 : decode cX8_isKnown 45 = .ok (.iaload, 1) := by decide +kernel
theorem dX8_isKnown_46 : decode cX8_isKnown 46 = .ok (.iload_n 2, 1) := by decide +kernel
theorem dX8_isKnown_47 : decode cX8_isKnown 47 = .ok (.if_icmp .le 7, 3) := by decide +kernel
theorem dX8_isKnown_50 : decode cX8_isKnown 50 = .ok (.iconst 1, 1) := by decide +kernel
theorem dX8_isKnown_51 : decode cX8_isKnown 51 = .ok (.goto 4, 3) := by decide +kernel
theorem dX8_isKnown_54 : decode cX8_isKnown 54 = .ok (.iconst 0, 1) := by decide +kernel
theorem dX8_isKnown_55 : decode cX8_isKnown 55 = .ok (.ireturn, 1) := by decide +kernel
theorem dX9_init_0 : decode cX9_init 0 = .ok (.aload_n 0, 1) := by decide +kernel
theorem dX9_init_1 : decode cX9_init 1 = .ok (.invokespecial 3, 3) := by decide +kernel
theorem dX9_init_4 : decode cX9_init 4 = .ok (.aload_n 0, 1) := by decide +kernel
theorem dX9_init_5 : decode cX9_init 5 = .ok (.iconst 3, 1) := by decide +kernel
theorem dX9_init_6 : decode cX9_init 6 = .ok (.newarray .int, 2) := by decide +kernel
theorem dX9_init_8 : decode cX9_init 8 = .ok (.putfield 9, 3) := by decide +kernel
theorem dX9_init_11 : decode cX9_init 11 = .ok (.aload_n 0, 1) := by decide +kernel
theorem dX9_init_12 : decode cX9_init 12 = .ok (.iconst 3, 1) := by decide +kernel
theorem dX9_init_13 : decode cX9_init 13 = .ok (.newarray .int, 2) := by decide +kernel
theorem dX9_init_15 : decode cX9_init 15 = .ok (.putfield 15, 3) := by decide +kernel
theorem dX9_init_18 : decode cX9_init 18 = .ok (.aload_n 0, 1) := by decide +kernel
theorem dX9_init_19 : decode cX9_init 19 = .ok (.bipush 108, 2) := by decide +kernel
theorem dX9_init_21 : decode cX9_init 21 = .ok (.newarray .int, 2) := by decide +kernel
theorem dX9_init_23 : decode cX9_init 23 = .ok (.putfield 20, 3) := by decide +kernel
theorem dX9_init_26 : decode cX9_init 26 = .ok (.aload_n 0, 1) := by decide +kernel
theorem dX9_init_27 : decode cX9_init 27 = .ok (.new 18, 3) := by decide +kernel
theorem dX9_init_30 : decode cX9_init 30 = .ok (.dup, 1) := by decide +kernel
theorem dX9_init_31 : decode cX9_init 31 = .ok (.invokespecial 23, 3) := by decide +kernel
theorem dX9_init_34 : decode cX9_init 34 = .ok (.putfield 24, 3) := by decide +kernel
theorem dX9_init_37 : decode cX9_init 37 = .ok (.return_, 1) := by decide +kernel
theorem dX9_best_0 : decode cX9_best 0 = .ok (.aload_n 0, 1) := by decide +kernel
theorem dX9_best_1 : decode cX9_best 1 = .ok (.iload_n 3, 1) := by decide +kernel
theorem dX9_best_2 : decode cX9_best 2 = .ok (.putfield 28, 3) := by decide +kernel
theorem dX9_best_5 : decode cX9_best 5 = .ok (.aload_n 0, 1) := by decide +kernel
theorem dX9_best_6 : decode cX9_best 6 = .ok (.iload 4, 2) := by decide +kernel
theorem dX9_best_8 : decode cX9_best 8 = .ok (.putfield 32, 3) := by decide +kernel
theorem dX9_best_11 : decode cX9_best 11 = .ok (.aload_n 0, 1) := by decide +kernel
theorem dX9_best_12 : decode cX9_best 12 = .ok (.iconst (-1), 1) := by decide +kernel
theorem dX9_best_13 : decode cX9_best 13 = .ok (.putfield 35, 3) := by decide +kernel
theorem dX9_best_16 : decode cX9_best 16 = .ok (.aload_n 0, 1) := by decide +kernel
theorem dX9_best_17 : decode cX9_best 17 = .ok (.iconst 0, 1) := by decide +kernel
theorem dX9_best_18 : decode cX9_best 18 = .ok (.putfield 38, 3) := by decide +kernel
theorem dX9_best_21 : decode cX9_best 21 = .ok (.aload_n 2, 1) := by decide +kernel
theorem dX9_best_22 : decode cX9_best 22 = .ok (.aload_n 0, 1) := by decide +kernel
theorem dX9_best_23 : decode cX9_best 23 = .ok (.getfield 20, 3) := by decide +kernel
theorem dX9_best_26 : decode cX9_best 26 = .ok (.iconst 0, 1) := by decide +kernel
theorem dX9_best_27 : decode cX9_best 27 = .ok (.invokevirtual 41, 3) := by decide +kernel
theorem dX9_best_30 : decode cX9_best 30 = .ok (.aload_n 0, 1) := by decide +kernel
theorem dX9_best_31 : decode cX9_best 31 = .ok (.aload_n 1, 1) := by decide +kernel
theorem dX9_best_32 : decode cX9_best 32 = .ok (.iconst 0, 1) := by decide +kernel
theorem dX9_best_33 : decode cX9_best 33 = .ok (.iconst 0, 1) := by decide +kernel
theorem dX9_best_34 : decode cX9_best 34 = .ok (.invokevirtual 45, 3) := by decide +kernel
theorem dX9_best_37 : decode cX9_best 37 = .ok (.aload_n 0, 1) := by decide +kernel
theorem dX9_best_38 : decode cX9_best 38 = .ok (.getfield 35, 3) := by decide +kernel
theorem dX9_best_41 : decode cX9_best 41 = .ok (.ireturn, 1) := by decide +kernel
theorem dX9_stakeOf_0 : decode cX9_stakeOf 0 = .ok (.iload_n 1, 1) := by decide +kernel
theorem dX9_stakeOf_1 : decode cX9_stakeOf 1 = .ok (.ifCond .lt 21, 3) := by decide +kernel
theorem dX9_stakeOf_4 : decode cX9_stakeOf 4 = .ok (.iload_n 1, 1) := by decide +kernel
theorem dX9_stakeOf_5 : decode cX9_stakeOf 5 = .ok (.aload_n 0, 1) := by decide +kernel
theorem dX9_stakeOf_6 : decode cX9_stakeOf 6 = .ok (.getfield 15, 3) := by decide +kernel
theorem dX9_stakeOf_9 : decode cX9_stakeOf 9 = .ok (.arraylength, 1) := by decide +kernel
theorem dX9_stakeOf_10 : decode cX9_stakeOf 10 = .ok (.if_icmp .ge 12, 3) := by decide +kernel
theorem dX9_stakeOf_13 : decode cX9_stakeOf 13 = .ok (.aload_n 0, 1) := by decide +kernel
theorem dX9_stakeOf_14 : decode cX9_stakeOf 14 = .ok (.getfield 15, 3) := by decide +kernel
theorem dX9_stakeOf_17 : decode cX9_stakeOf 17 = .ok (.iload_n 1, 1) := by decide +kernel
theorem dX9_stakeOf_18 : decode cX9_stakeOf 18 = .ok (.iaload, 1) := by decide +kernel
theorem dX9_stakeOf_19 : decode cX9_stakeOf 19 = .ok (.goto 4, 3) := by decide +kernel
theorem dX9_stakeOf_22 : decode cX9_stakeOf 22 = .ok (.iconst (-1), 1) := by decide +kernel
theorem dX9_stakeOf_23 : decode cX9_stakeOf 23 = .ok (.ireturn, 1) := by decide +kernel
theorem dX9_search_0 : decode cX9_search 0 = .ok (.aload_n 0, 1) := by decide +kernel
theorem dX9_search_1 : decode cX9_search 1 = .ok (.getfield 24, 3) := by decide +kernel
theorem dX9_search_4 : decode cX9_search 4 = .ok (.aload_n 0, 1) := by decide +kernel
theorem dX9_search_5 : decode cX9_search 5 = .ok (.getfield 20, 3) := by decide +kernel
theorem dX9_search_8 : decode cX9_search 8 = .ok (.iload_n 2, 1) := by decide +kernel
theorem dX9_search_9 : decode cX9_search 9 = .ok (.bipush 27, 2) := by decide +kernel
theorem dX9_search_11 : decode cX9_search 11 = .ok (.imul, 1) := by decide +kernel
theorem dX9_search_12 : decode cX9_search 12 = .ok (.invokevirtual 49, 3) := by decide +kernel
theorem dX9_search_15 : decode cX9_search 15 = .ok (.aload_n 0, 1) := by decide +kernel
theorem dX9_search_16 : decode cX9_search 16 = .ok (.getfield 24, 3) := by decide +kernel
theorem dX9_search_19 : decode cX9_search 19 = .ok (.invokevirtual 52, 3) := by decide +kernel
theorem dX9_search_22 : decode cX9_search 22 = .ok (.istore 4, 2) := by decide +kernel
theorem dX9_search_24 : decode cX9_search 24 = .ok (.iload_n 2, 1) := by decide +kernel
theorem dX9_search_25 : decode cX9_search 25 = .ok (.ifCond .lt 16, 3) := by decide +kernel
theorem dX9_search_28 : decode cX9_search 28 = .ok (.iload_n 2, 1) := by decide +kernel
theorem dX9_search_29 : decode cX9_search 29 = .ok (.aload_n 0, 1) := by decide +kernel
theorem dX9_search_30 : decode cX9_search 30 = .ok (.getfield 28, 3) := by decide +kernel
theorem dX9_search_33 : decode cX9_search 33 = .ok (.if_icmp .ge 8, 3) := by decide +kernel
theorem dX9_search_36 : decode cX9_search 36 = .ok (.iload_n 2, 1) := by decide +kernel
theorem dX9_search_37 : decode cX9_search 37 = .ok (.iconst 3, 1) := by decide +kernel
theorem dX9_search_38 : decode cX9_search 38 = .ok (.if_icmp .lt 21, 3) := by decide +kernel
theorem dX9_search_41 : decode cX9_search 41 = .ok (.aload_n 0, 1) := by decide +kernel
theorem dX9_search_42 : decode cX9_search 42 = .ok (.aload_n 1, 1) := by decide +kernel
theorem dX9_search_43 : decode cX9_search 43 = .ok (.getfield 56, 3) := by decide +kernel
theorem dX9_search_46 : decode cX9_search 46 = .ok (.iload 4, 2) := by decide +kernel
theorem dX9_search_48 : decode cX9_search 48 = .ok (.invokevirtual 62, 3) := by decide +kernel
theorem dX9_search_51 : decode cX9_search 51 = .ok (.invokestatic 68, 3) := by decide +kernel
theorem dX9_search_54 : decode cX9_search 54 = .ok (.iload_n 3, 1) := by decide +kernel
theorem dX9_search_55 : decode cX9_search 55 = .ok (.invokevirtual 73, 3) := by decide +kernel
theorem dX9_search_58 : decode cX9_search 58 = .ok (.return_, 1) := by decide +kernel
theorem dX9_search_59 : decode cX9_search 59 = .ok (.iconst (-1), 1) := by decide +kernel
theorem dX9_search_60 : decode cX9_search 60 = .ok (.istore 5, 2) := by decide +kernel
theorem dX9_search_62 : decode cX9_search 62 = .ok (.iload 5, 2) := by decide +kernel
theorem dX9_search_64 : decode cX9_search 64 = .ok (.aload_n 1, 1) := by decide +kernel
theorem dX9_search_65 : decode cX9_search 65 = .ok (.getfield 77, 3) := by decide +kernel
theorem dX9_search_68 : decode cX9_search 68 = .ok (.if_icmp .ge 145, 3) := by decide +kernel
theorem dX9_search_71 : decode cX9_search 71 = .ok (.iload 5, 2) := by decide +kernel
theorem dX9_search_73 : decode cX9_search 73 = .ok (.iconst (-1), 1) := by decide +kernel
theorem dX9_search_74 : decode cX9_search 74 = .ok (.if_icmp .ne 7, 3) := by decide +kernel
theorem dX9_search_77 : decode cX9_search 77 = .ok (.iload_n 3, 1) := by decide +kernel
theorem dX9_search_78 : decode cX9_search 78 = .ok (.goto 6, 3) := by decide +kernel
theorem dX9_search_81 : decode cX9_search 81 = .ok (.iload_n 3, 1) := by decide +kernel
theorem dX9_search_82 : decode cX9_search 82 = .ok (.iconst 1, 1) := by decide +kernel
theorem dX9_search_83 : decode cX9_search 83 = .ok (.iadd, 1) := by decide +kernel
theorem dX9_search_84 : decode cX9_search 84 = .ok (.istore 6, 2) := by decide +kernel
theorem dX9_search_86 : decode cX9_search 86 = .ok (.iload 5, 2) := by decide +kernel
theorem dX9_search_88 : decode cX9_search 88 = .ok (.iconst (-1), 1) := by decide +kernel
theorem dX9_search_89 : decode cX9_search 89 = .ok (.if_icmp .eq 21, 3) := by decide +kernel
theorem dX9_search_92 : decode cX9_search 92 = .ok (.aload_n 1, 1) := by decide +kernel
theorem dX9_search_93 : decode cX9_search 93 = .ok (.getfield 56, 3) := by decide +kernel
theorem dX9_search_96 : decode cX9_search 96 = .ok (.iload 5, 2) := by decide +kernel
theorem dX9_search_98 : decode cX9_search 98 = .ok (.iload 4, 2) := by decide +kernel
theorem dX9_search_100 : decode cX9_search 100 = .ok (.invokevirtual 80, 3) := by decide +kernel
theorem dX9_search_103 : decode cX9_search 103 = .ok (.ifCond .ne 7, 3) := by decide +kernel
theorem dX9_search_106 : decode cX9_search 106 = .ok (.iconst 1, 1) := by decide +kernel
theorem dX9_search_107 : decode cX9_search 107 = .ok (.goto 4, 3) := by decide +kernel
theorem dX9_search_110 : decode cX9_search 110 = .ok (.iconst 0, 1) := by decide +kernel
theorem dX9_search_111 : decode cX9_search 111 = .ok (.istore 7, 2) := by decide +kernel
theorem dX9_search_113 : decode cX9_search 113 = .ok (.iload 7, 2) := by decide +kernel
theorem dX9_search_115 : decode cX9_search 115 = .ok (.ifCond .ne 92, 3) := by decide +kernel
theorem dX9_search_118 : decode cX9_search 118 = .ok (.aload_n 0, 1) := by decide +kernel
theorem dX9_search_119 : decode cX9_search 119 = .ok (.iload 4, 2) := by decide +kernel
theorem dX9_search_121 : decode cX9_search 121 = .ok (.invokestatic 68, 3) := by decide +kernel
theorem dX9_search_124 : decode cX9_search 124 = .ok (.iload 6, 2) := by decide +kernel
theorem dX9_search_126 : decode cX9_search 126 = .ok (.invokevirtual 84, 3) := by decide +kernel
theorem dX9_search_129 : decode cX9_search 129 = .ok (.ifCond .eq 78, 3) := by decide +kernel
theorem dX9_search_132 : decode cX9_search 132 = .ok (.aload_n 0, 1) := by decide +kernel
theorem dX9_search_133 : decode cX9_search 133 = .ok (.getfield 24, 3) := by decide +kernel
theorem dX9_search_136 : decode cX9_search 136 = .ok (.aload_n 0, 1) := by decide +kernel
theorem dX9_search_137 : decode cX9_search 137 = .ok (.getfield 20, 3) := by decide +kernel
theorem dX9_search_140 : decode cX9_search 140 = .ok (.iload_n 2, 1) := by decide +kernel
theorem dX9_search_141 : decode cX9_search 141 = .ok (.bipush 27, 2) := by decide +kernel
theorem dX9_search_143 : decode cX9_search 143 = .ok (.imul, 1) := by decide +kernel
theorem dX9_search_144 : decode cX9_search 144 = .ok (.invokevirtual 49, 3) := by decide +kernel
theorem dX9_search_147 : decode cX9_search 147 = .ok (.aload_n 0, 1) := by decide +kernel
theorem dX9_search_148 : decode cX9_search 148 = .ok (.getfield 24, 3) := by decide +kernel
theorem dX9_search_151 : decode cX9_search 151 = .ok (.aload_n 1, 1) := by decide +kernel
theorem dX9_search_152 : decode cX9_search 152 = .ok (.getfield 56, 3) := by decide +kernel
theorem dX9_search_155 : decode cX9_search 155 = .ok (.iload 5, 2) := by decide +kernel
theorem dX9_search_157 : decode cX9_search 157 = .ok (.aload_n 0, 1) := by decide +kernel
theorem dX9_search_158 : decode cX9_search 158 = .ok (.getfield 32, 3) := by decide +kernel
theorem dX9_search_161 : decode cX9_search 161 = .ok (.invokevirtual 88, 3) := by decide +kernel
theorem dX9_search_164 : decode cX9_search 164 = .ok (.aload_n 0, 1) := by decide +kernel
theorem dX9_search_165 : decode cX9_search 165 = .ok (.getfield 24, 3) := by decide +kernel
theorem dX9_search_168 : decode cX9_search 168 = .ok (.aload_n 1, 1) := by decide +kernel
theorem dX9_search_169 : decode cX9_search 169 = .ok (.invokevirtual 92, 3) := by decide +kernel
theorem dX9_search_172 : decode cX9_search 172 = .ok (.aload_n 0, 1) := by decide +kernel
theorem dX9_search_173 : decode cX9_search 173 = .ok (.getfield 24, 3) := by decide +kernel
theorem dX9_search_176 : decode cX9_search 176 = .ok (.aload_n 0, 1) := by decide +kernel
theorem dX9_search_177 : decode cX9_search 177 = .ok (.getfield 20, 3) := by decide +kernel
theorem dX9_search_180 : decode cX9_search 180 = .ok (.iload_n 2, 1) := by decide +kernel
theorem dX9_search_181 : decode cX9_search 181 = .ok (.iconst 1, 1) := by decide +kernel
theorem dX9_search_182 : decode cX9_search 182 = .ok (.iadd, 1) := by decide +kernel
theorem dX9_search_183 : decode cX9_search 183 = .ok (.bipush 27, 2) := by decide +kernel
theorem dX9_search_185 : decode cX9_search 185 = .ok (.imul, 1) := by decide +kernel
theorem dX9_search_186 : decode cX9_search 186 = .ok (.invokevirtual 41, 3) := by decide +kernel
theorem dX9_search_189 : decode cX9_search 189 = .ok (.aload_n 0, 1) := by decide +kernel
theorem dX9_search_190 : decode cX9_search 190 = .ok (.getfield 9, 3) := by decide +kernel
theorem dX9_search_193 : decode cX9_search 193 = .ok (.iload_n 2, 1) := by decide +kernel
theorem dX9_search_194 : decode cX9_search 194 = .ok (.iload 5, 2) := by decide +kernel
theorem dX9_search_196 : decode cX9_search 196 = .ok (.iastore, 1) := by decide +kernel
theorem dX9_search_197 : decode cX9_search 197 = .ok (.aload_n 0, 1) := by decide +kernel
theorem dX9_search_198 : decode cX9_search 198 = .ok (.aload_n 1, 1) := by decide +kernel
theorem dX9_search_199 : decode cX9_search 199 = .ok (.iload_n 2, 1) := by decide +kernel
theorem dX9_search_200 : decode cX9_search 200 = .ok (.iconst 1, 1) := by decide +kernel
theorem dX9_search_201 : decode cX9_search 201 = .ok (.iadd, 1) := by decide +kernel
theorem dX9_search_202 : decode cX9_search 202 = .ok (.iload 6, 2) := by decide +kernel
theorem dX9_search_204 : decode cX9_search 204 = .ok (.invokevirtual 45, 3) := by decide +kernel
theorem dX9_search_207 : decode cX9_search 207 = .ok (.iinc 5 1, 3) := by decide +kernel
theorem dX9_search_210 : decode cX9_search 210 = .ok (.goto (-148), 3) := by decide +kernel
theorem dX9_search_213 : decode cX9_search 213 = .ok (.return_, 1) := by decide +kernel
theorem dX9_isBetter_0 : decode cX9_isBetter 0 = .ok (.iload_n 1, 1) := by decide +kernel
theorem dX9_isBetter_1 : decode cX9_isBetter 1 = .ok (.aload_n 0, 1) := by decide +kernel
theorem dX9_isBetter_2 : decode cX9_isBetter 2 = .ok (.getfield 35, 3) := by decide +kernel
theorem dX9_isBetter_5 : decode cX9_isBetter 5 = .ok (.if_icmp .gt 19, 3) := by decide +kernel
theorem dX9_isBetter_8 : decode cX9_isBetter 8 = .ok (.iload_n 1, 1) := by decide +kernel
theorem dX9_isBetter_9 : decode cX9_isBetter 9 = .ok (.aload_n 0, 1) := by decide +kernel
theorem dX9_isBetter_10 : decode cX9_isBetter 10 = .ok (.getfield 35, 3) := by decide +kernel
theorem dX9_isBetter_13 : decode cX9_isBetter 13 = .ok (.if_icmp .ne 15, 3) := by decide +kernel
theorem dX9_isBetter_16 : decode cX9_isBetter 16 = .ok (.iload_n 2, 1) := by decide +kernel
theorem dX9_isBetter_17 : decode cX9_isBetter 17 = .ok (.aload_n 0, 1) := by decide +kernel
theorem dX9_isBetter_18 : decode cX9_isBetter 18 = .ok (.getfield 38, 3) := by decide +kernel
theorem dX9_isBetter_21 : decode cX9_isBetter 21 = .ok (.if_icmp .ge 7, 3) := by decide +kernel
theorem dX9_isBetter_24 : decode cX9_isBetter 24 = .ok (.iconst 1, 1) := by decide +kernel
theorem dX9_isBetter_25 : decode cX9_isBetter 25 = .ok (.goto 4, 3) := by decide +kernel
theorem dX9_isBetter_28 : decode cX9_isBetter 28 = .ok (.iconst 0, 1) := by decide +kernel
theorem dX9_isBetter_29 : decode cX9_isBetter 29 = .ok (.ireturn, 1) := by decide +kernel
theorem dX9_judge_0 : decode cX9_judge 0 = .ok (.aload_n 0, 1) := by decide +kernel
theorem dX9_judge_1 : decode cX9_judge 1 = .ok (.iload_n 1, 1) := by decide +kernel
theorem dX9_judge_2 : decode cX9_judge 2 = .ok (.iload_n 2, 1) := by decide +kernel
theorem dX9_judge_3 : decode cX9_judge 3 = .ok (.invokevirtual 84, 3) := by decide +kernel
theorem dX9_judge_6 : decode cX9_judge 6 = .ok (.ifCond .eq 27, 3) := by decide +kernel
theorem dX9_judge_9 : decode cX9_judge 9 = .ok (.aload_n 0, 1) := by decide +kernel
theorem dX9_judge_10 : decode cX9_judge 10 = .ok (.iload_n 1, 1) := by decide +kernel
theorem dX9_judge_11 : decode cX9_judge 11 = .ok (.putfield 35, 3) := by decide +kernel
theorem dX9_judge_14 : decode cX9_judge 14 = .ok (.aload_n 0, 1) := by decide +kernel
theorem dX9_judge_15 : decode cX9_judge 15 = .ok (.iload_n 2, 1) := by decide +kernel
theorem dX9_judge_16 : decode cX9_judge 16 = .ok (.putfield 38, 3) := by decide +kernel
theorem dX9_judge_19 : decode cX9_judge 19 = .ok (.aload_n 0, 1) := by decide +kernel
theorem dX9_judge_20 : decode cX9_judge 20 = .ok (.getfield 9, 3) := by decide +kernel
theorem dX9_judge_23 : decode cX9_judge 23 = .ok (.iconst 0, 1) := by decide +kernel
theorem dX9_judge_24 : decode cX9_judge 24 = .ok (.aload_n 0, 1) := by decide +kernel
theorem dX9_judge_25 : decode cX9_judge 25 = .ok (.getfield 15, 3) := by decide +kernel
theorem dX9_judge_28 : decode cX9_judge 28 = .ok (.iconst 0, 1) := by decide +kernel
theorem dX9_judge_29 : decode cX9_judge 29 = .ok (.iconst 3, 1) := by decide +kernel
theorem dX9_judge_30 : decode cX9_judge 30 = .ok (.invokestatic 96, 3) := by decide +kernel
theorem dX9_judge_33 : decode cX9_judge 33 = .ok (.return_, 1) := by decide +kernel
theorem dX10_init_0 : decode cX10_init 0 = .ok (.aload_n 0, 1) := by decide +kernel
theorem dX10_init_1 : decode cX10_init 1 = .ok (.invokespecial 3, 3) := by decide +kernel
theorem dX10_init_4 : decode cX10_init 4 = .ok (.aload_n 0, 1) := by decide +kernel
theorem dX10_init_5 : decode cX10_init 5 = .ok (.iconst 4, 1) := by decide +kernel
theorem dX10_init_6 : decode cX10_init 6 = .ok (.newarray .int, 2) := by decide +kernel
theorem dX10_init_8 : decode cX10_init 8 = .ok (.putfield 9, 3) := by decide +kernel
theorem dX10_init_11 : decode cX10_init 11 = .ok (.return_, 1) := by decide +kernel
theorem dX10_best_0 : decode cX10_best 0 = .ok (.aload_n 0, 1) := by decide +kernel
theorem dX10_best_1 : decode cX10_best 1 = .ok (.aload_n 1, 1) := by decide +kernel
theorem dX10_best_2 : decode cX10_best 2 = .ok (.iconst 0, 1) := by decide +kernel
theorem dX10_best_3 : decode cX10_best 3 = .ok (.iload_n 2, 1) := by decide +kernel
theorem dX10_best_4 : decode cX10_best 4 = .ok (.invokevirtual 15, 3) := by decide +kernel
theorem dX10_best_7 : decode cX10_best 7 = .ok (.ireturn, 1) := by decide +kernel
theorem dX10_pickOf_0 : decode cX10_pickOf 0 = .ok (.iload_n 1, 1) := by decide +kernel
theorem dX10_pickOf_1 : decode cX10_pickOf 1 = .ok (.iload_n 2, 1) := by decide +kernel
theorem dX10_pickOf_2 : decode cX10_pickOf 2 = .ok (.iconst 4, 1) := by decide +kernel
theorem dX10_pickOf_3 : decode cX10_pickOf 3 = .ok (.imul, 1) := by decide +kernel
theorem dX10_pickOf_4 : decode cX10_pickOf 4 = .ok (.ishr, 1) := by decide +kernel
theorem dX10_pickOf_5 : decode cX10_pickOf 5 = .ok (.bipush 15, 2) := by decide +kernel
theorem dX10_pickOf_7 : decode cX10_pickOf 7 = .ok (.iand, 1) := by decide +kernel
theorem dX10_pickOf_8 : decode cX10_pickOf 8 = .ok (.iconst 1, 1) := by decide +kernel
theorem dX10_pickOf_9 : decode cX10_pickOf 9 = .ok (.isub, 1) := by decide +kernel
theorem dX10_pickOf_10 : decode cX10_pickOf 10 = .ok (.ireturn, 1) := by decide +kernel
theorem dX10_bestFrom_0 : decode cX10_bestFrom 0 = .ok (.iload_n 2, 1) := by decide +kernel
theorem dX10_bestFrom_1 : decode cX10_bestFrom 1 = .ok (.ifCond .lt 16, 3) := by decide +kernel
theorem dX10_bestFrom_4 : decode cX10_bestFrom 4 = .ok (.iload_n 2, 1) := by decide +kernel
theorem dX10_bestFrom_5 : decode cX10_bestFrom 5 = .ok (.aload_n 1, 1) := by decide +kernel
theorem dX10_bestFrom_6 : decode cX10_bestFrom 6 = .ok (.getfield 19, 3) := by decide +kernel
theorem dX10_bestFrom_9 : decode cX10_bestFrom 9 = .ok (.if_icmp .ge 8, 3) := by decide +kernel
theorem dX10_bestFrom_12 : decode cX10_bestFrom 12 = .ok (.iload_n 2, 1) := by decide +kernel
theorem dX10_bestFrom_13 : decode cX10_bestFrom 13 = .ok (.iconst 3, 1) := by decide +kernel
theorem dX10_bestFrom_14 : decode cX10_bestFrom 14 = .ok (.if_icmp .lt 5, 3) := by decide +kernel
theorem dX10_bestFrom_17 : decode cX10_bestFrom 17 = .ok (.iconst 0, 1) := by decide +kernel
theorem dX10_bestFrom_18 : decode cX10_bestFrom 18 = .ok (.ireturn, 1) := by decide +kernel
theorem dX10_bestFrom_19 : decode cX10_bestFrom 19 = .ok (.iconst 0, 1) := by decide +kernel
theorem dX10_bestFrom_20 : decode cX10_bestFrom 20 = .ok (.istore 4, 2) := by decide +kernel
theorem dX10_bestFrom_22 : decode cX10_bestFrom 22 = .ok (.iconst 0, 1) := by decide +kernel
theorem dX10_bestFrom_23 : decode cX10_bestFrom 23 = .ok (.istore 5, 2) := by decide +kernel
theorem dX10_bestFrom_25 : decode cX10_bestFrom 25 = .ok (.iconst (-1), 1) := by decide +kernel
theorem dX10_bestFrom_26 : decode cX10_bestFrom 26 = .ok (.istore 6, 2) := by decide +kernel
theorem dX10_bestFrom_28 : decode cX10_bestFrom 28 = .ok (.iload 6, 2) := by decide +kernel
theorem dX10_bestFrom_30 : decode cX10_bestFrom 30 = .ok (.bipush 12, 2) := by decide +kernel
theorem dX10_bestFrom_32 : decode cX10_bestFrom 32 = .ok (.if_icmp .ge 98, 3) := by decide +kernel
theorem dX10_bestFrom_35 : decode cX10_bestFrom 35 = .ok (.iload 6, 2) := by decide +kernel
theorem dX10_bestFrom_37 : decode cX10_bestFrom 37 = .ok (.iconst (-1), 1) := by decide +kernel
theorem dX10_bestFrom_38 : decode cX10_bestFrom 38 = .ok (.if_icmp .eq 12, 3) := by decide +kernel
theorem dX10_bestFrom_41 : decode cX10_bestFrom 41 = .ok (.iload_n 3, 1) := by decide +kernel
theorem dX10_bestFrom_42 : decode cX10_bestFrom 42 = .ok (.iload 6, 2) := by decide +kernel
theorem dX10_bestFrom_44 : decode cX10_bestFrom 44 = .ok (.ishr, 1) := by decide +kernel
theorem dX10_bestFrom_45 : decode cX10_bestFrom 45 = .ok (.iconst 1, 1) := by decide +kernel
theorem dX10_bestFrom_46 : decode cX10_bestFrom 46 = .ok (.iand, 1) := by decide +kernel
theorem dX10_bestFrom_47 : decode cX10_bestFrom 47 = .ok (.ifCond .eq 77, 3) := by decide +kernel
theorem dX10_bestFrom_50 : decode cX10_bestFrom 50 = .ok (.iload 6, 2) := by decide +kernel
theorem dX10_bestFrom_52 : decode cX10_bestFrom 52 = .ok (.iconst (-1), 1) := by decide +kernel
theorem dX10_bestFrom_53 : decode cX10_bestFrom 53 = .ok (.if_icmp .ne 7, 3) := by decide +kernel
theorem dX10_bestFrom_56 : decode cX10_bestFrom 56 = .ok (.iload_n 3, 1) := by decide +kernel
theorem dX10_bestFrom_57 : decode cX10_bestFrom 57 = .ok (.goto 11, 3) := by decide +kernel
theorem dX10_bestFrom_60 : decode cX10_bestFrom 60 = .ok (.iload_n 3, 1) := by decide +kernel
theorem dX10_bestFrom_61 : decode cX10_bestFrom 61 = .ok (.iconst 1, 1) := by decide +kernel
theorem dX10_bestFrom_62 : decode cX10_bestFrom 62 = .ok (.iload 6, 2) := by decide +kernel
theorem dX10_bestFrom_64 : decode cX10_bestFrom 64 = .ok (.ishl, 1) := by decide +kernel
theorem dX10_bestFrom_65 : decode cX10_bestFrom 65 = .ok (.iconst (-1), 1) := by decide +kernel
theorem dX10_bestFrom_66 : decode cX10_bestFrom 66 = .ok (.ixor, 1) := by decide +kernel
theorem dX10_bestFrom_67 : decode cX10_bestFrom 67 = .ok (.iand, 1) := by decide +kernel
theorem dX10_bestFrom_68 : decode cX10_bestFrom 68 = .ok (.istore 7, 2) := by decide +kernel
theorem dX10_bestFrom_70 : decode cX10_bestFrom 70 = .ok (.aload_n 0, 1) := by decide +kernel
theorem dX10_bestFrom_71 : decode cX10_bestFrom 71 = .ok (.aload_n 1, 1) := by decide +kernel
theorem dX10_bestFrom_72 : decode cX10_bestFrom 72 = .ok (.iload_n 2, 1) := by decide +kernel
theorem dX10_bestFrom_73 : decode cX10_bestFrom 73 = .ok (.iconst 1, 1) := by decide +kernel
theorem dX10_bestFrom_74 : decode cX10_bestFrom 74 = .ok (.iadd, 1) := by decide +kernel
theorem dX10_bestFrom_75 : decode cX10_bestFrom 75 = .ok (.iload 7, 2) := by decide +kernel
theorem dX10_bestFrom_77 : decode cX10_bestFrom 77 = .ok (.invokevirtual 15, 3) := by decide +kernel
theorem dX10_bestFrom_80 : decode cX10_bestFrom 80 = .ok (.istore 8, 2) := by decide +kernel
theorem dX10_bestFrom_82 : decode cX10_bestFrom 82 = .ok (.aload_n 0, 1) := by decide +kernel
theorem dX10_bestFrom_83 : decode cX10_bestFrom 83 = .ok (.aload_n 1, 1) := by decide +kernel
theorem dX10_bestFrom_84 : decode cX10_bestFrom 84 = .ok (.iload_n 2, 1) := by decide +kernel
theorem dX10_bestFrom_85 : decode cX10_bestFrom 85 = .ok (.iload 7, 2) := by decide +kernel
theorem dX10_bestFrom_87 : decode cX10_bestFrom 87 = .ok (.iload 8, 2) := by decide +kernel
theorem dX10_bestFrom_89 : decode cX10_bestFrom 89 = .ok (.invokevirtual 25, 3) := by decide +kernel
theorem dX10_bestFrom_92 : decode cX10_bestFrom 92 = .ok (.istore 9, 2) := by decide +kernel
theorem dX10_bestFrom_94 : decode cX10_bestFrom 94 = .ok (.iload 6, 2) := by decide +kernel
theorem dX10_bestFrom_96 : decode cX10_bestFrom 96 = .ok (.iconst (-1), 1) := by decide +kernel
theorem dX10_bestFrom_97 : decode cX10_bestFrom 97 = .ok (.if_icmp .eq 10, 3) := by decide +kernel
theorem dX10_bestFrom_100 : decode cX10_bestFrom 100 = .ok (.iload 9, 2) := by decide +kernel
theorem dX10_bestFrom_102 : decode cX10_bestFrom 102 = .ok (.iload 5, 2) := by decide +kernel
theorem dX10_bestFrom_104 : decode cX10_bestFrom 104 = .ok (.if_icmp .le 20, 3) := by decide +kernel
theorem dX10_bestFrom_107 : decode cX10_bestFrom 107 = .ok (.iload 8, 2) := by decide +kernel
theorem dX10_bestFrom_109 : decode cX10_bestFrom 109 = .ok (.iload 6, 2) := by decide +kernel
theorem dX10_bestFrom_111 : decode cX10_bestFrom 111 = .ok (.iconst 1, 1) := by decide +kernel
theorem dX10_bestFrom_112 : decode cX10_bestFrom 112 = .ok (.iadd, 1) := by decide +kernel
theorem dX10_bestFrom_113 : decode cX10_bestFrom 113 = .ok (.iload_n 2, 1) := by decide +kernel
theorem dX10_bestFrom_114 : decode cX10_bestFrom 114 = .ok (.iconst 4, 1) := by decide +kernel
theorem dX10_bestFrom_115 : decode cX10_bestFrom 115 = .ok (.imul, 1) := by decide +kernel
theorem dX10_bestFrom_116 : decode cX10_bestFrom 116 = .ok (.ishl, 1) := by decide +kernel
theorem dX10_bestFrom_117 : decode cX10_bestFrom 117 = .ok (.ior, 1) := by decide +kernel
theorem dX10_bestFrom_118 : decode cX10_bestFrom 118 = .ok (.istore 4, 2) := by decide +kernel
theorem dX10_bestFrom_120 : decode cX10_bestFrom 120 = .ok (.iload 9, 2) := by decide +kernel
theorem dX10_bestFrom_122 : decode cX10_bestFrom 122 = .ok (.istore 5, 2) := by decide +kernel
theorem dX10_bestFrom_124 : decode cX10_bestFrom 124 = .ok (.iinc 6 1, 3) := by decide +kernel
theorem dX10_bestFrom_127 : decode cX10_bestFrom 127 = .ok (.goto (-99), 3) := by decide +kernel
theorem dX10_bestFrom_130 : decode cX10_bestFrom 130 = .ok (.iload 4, 2) := by decide +kernel
theorem dX10_bestFrom_132 : decode cX10_bestFrom 132 = .ok (.ireturn, 1) := by decide +kernel
theorem dX10_joyAfter_0 : decode cX10_joyAfter 0 = .ok (.iload_n 3, 1) := by decide +kernel
theorem dX10_joyAfter_1 : decode cX10_joyAfter 1 = .ok (.istore 5, 2) := by decide +kernel
theorem dX10_joyAfter_3 : decode cX10_joyAfter 3 = .ok (.iload_n 2, 1) := by decide +kernel
theorem dX10_joyAfter_4 : decode cX10_joyAfter 4 = .ok (.iconst 1, 1) := by decide +kernel
theorem dX10_joyAfter_5 : decode cX10_joyAfter 5 = .ok (.iadd, 1) := by decide +kernel
theorem dX10_joyAfter_6 : decode cX10_joyAfter 6 = .ok (.istore 6, 2) := by decide +kernel
theorem dX10_joyAfter_8 : decode cX10_joyAfter 8 = .ok (.iload 6, 2) := by decide +kernel
theorem dX10_joyAfter_10 : decode cX10_joyAfter 10 = .ok (.iconst 3, 1) := by decide +kernel
theorem dX10_joyAfter_11 : decode cX10_joyAfter 11 = .ok (.if_icmp .ge 36, 3) := by decide +kernel
theorem dX10_joyAfter_14 : decode cX10_joyAfter 14 = .ok (.aload_n 0, 1) := by decide +kernel
theorem dX10_joyAfter_15 : decode cX10_joyAfter 15 = .ok (.iload 4, 2) := by decide +kernel
theorem dX10_joyAfter_17 : decode cX10_joyAfter 17 = .ok (.iload 6, 2) := by decide +kernel
theorem dX10_joyAfter_19 : decode cX10_joyAfter 19 = .ok (.invokevirtual 29, 3) := by decide +kernel
theorem dX10_joyAfter_22 : decode cX10_joyAfter 22 = .ok (.istore 7, 2) := by decide +kernel
theorem dX10_joyAfter_24 : decode cX10_joyAfter 24 = .ok (.iload 7, 2) := by decide +kernel
theorem dX10_joyAfter_26 : decode cX10_joyAfter 26 = .ok (.iconst (-1), 1) := by decide +kernel
theorem dX10_joyAfter_27 : decode cX10_joyAfter 27 = .ok (.if_icmp .eq 14, 3) := by decide +kernel
theorem dX10_joyAfter_30 : decode cX10_joyAfter 30 = .ok (.iload 5, 2) := by decide +kernel
theorem dX10_joyAfter_32 : decode cX10_joyAfter 32 = .ok (.iconst 1, 1) := by decide +kernel
theorem dX10_joyAfter_33 : decode cX10_joyAfter 33 = .ok (.iload 7, 2) := by decide +kernel
theorem dX10_joyAfter_35 : decode cX10_joyAfter 35 = .ok (.ishl, 1) := by decide +kernel
theorem dX10_joyAfter_36 : decode cX10_joyAfter 36 = .ok (.iconst (-1), 1) := by decide +kernel
theorem dX10_joyAfter_37 : decode cX10_joyAfter 37 = .ok (.ixor, 1) := by decide +kernel
theorem dX10_joyAfter_38 : decode cX10_joyAfter 38 = .ok (.iand, 1) := by decide +kernel
theorem dX10_joyAfter_39 : decode cX10_joyAfter 39 = .ok (.istore 5, 2) := by decide +kernel
theorem dX10_joyAfter_41 : decode cX10_joyAfter 41 = .ok (.iinc 6 1, 3) := by decide +kernel
theorem dX10_joyAfter_44 : decode cX10_joyAfter 44 = .ok (.goto (-36), 3) := by decide +kernel
theorem dX10_joyAfter_47 : decode cX10_joyAfter 47 = .ok (.aload_n 1, 1) := by decide +kernel
theorem dX10_joyAfter_48 : decode cX10_joyAfter 48 = .ok (.getfield 33, 3) := by decide +kernel
theorem dX10_joyAfter_51 : decode cX10_joyAfter 51 = .ok (.aload_n 0, 1) := by decide +kernel
theorem dX10_joyAfter_52 : decode cX10_joyAfter 52 = .ok (.getfield 9, 3) := by decide +kernel
theorem dX10_joyAfter_55 : decode cX10_joyAfter 55 = .ok (.aload_n 1, 1) := by decide +kernel
theorem dX10_joyAfter_56 : decode cX10_joyAfter 56 = .ok (.getfield 33, 3) := by decide +kernel
theorem dX10_joyAfter_59 : decode cX10_joyAfter 59 = .ok (.iload 5, 2) := by decide +kernel
theorem dX10_joyAfter_61 : decode cX10_joyAfter 61 = .ok (.invokevirtual 37, 3) := by decide +kernel
theorem dX10_joyAfter_64 : decode cX10_joyAfter 64 = .ok (.invokevirtual 43, 3) := by decide +kernel
theorem dX10_joyAfter_67 : decode cX10_joyAfter 67 = .ok (.aload_n 1, 1) := by decide +kernel
theorem dX10_joyAfter_68 : decode cX10_joyAfter 68 = .ok (.iload_n 2, 1) := by decide +kernel
theorem dX10_joyAfter_69 : decode cX10_joyAfter 69 = .ok (.aload_n 0, 1) := by decide +kernel
theorem dX10_joyAfter_70 : decode cX10_joyAfter 70 = .ok (.getfield 9, 3) := by decide +kernel
theorem dX10_joyAfter_73 : decode cX10_joyAfter 73 = .ok (.invokevirtual 47, 3) := by decide +kernel
theorem dX10_joyAfter_76 : decode cX10_joyAfter 76 = .ok (.ireturn, 1) := by decide +kernel
